theorem oz_45803030ed {a0 a1 a2 a3 : Int} (h0 : 6 * a0 ≤ 6 * a1 + (a2 - a3)) (h1 : 0 ≤ a3) : 6 * a0 ≤ 6 * a1 + (a2) := by omega
theorem oz_eb7681d3a0 {n0 : Nat}  : 8 + 1 ≤ (4 * n0 + 22) := by omega
theorem oz_bbfc9b3f96 {n0 : Nat}  : 8 + (3 + 11) + 330 ≤ (200 * n0 + 780) := by omega
theorem oz_cfab8a20ba {a0 a1 a2 a3 a4 a5 a6 : Int} (h0 : a0 = a1) (h1 : a2 - a3 ≤ 4096 * (a1 - a4)) (h2 : 0 ≤ a3) (h3 : a3 ≤ 4 + 4096 * a4) (h4 : a5 ≤ a6) (h5 : a6 - a5 ≤ 4 * (a2 - a3)) : 0 ≤ a0 := by omega
theorem oz_b0b3c00e64 {a0 a1 a2 a3 a4 : Int} (h0 : a0 = a1) (h1 : 6 * a1 ≤ 6 * a2 + (a3 - a4)) (h2 : 6 * a2 + a3 ≤ 6540) (h3 : 0 ≤ a4) : a0 < 1100 := by omega
theorem oz_01b865b26c  : (0 : Int) ≤ 5 := by omega
theorem oz_79b5d9fede  : (1 : Int) ≤ 4096 := by omega
theorem oz_9921a0d148 {a0 a1 a2 : Int} (h0 : a0 = a1) (h1 : a2 ≤ a1) (h2 : 0 ≤ a2) : 0 ≤ a0 := by omega
theorem oz_8fa6d0de1e {a0 a1 a2 a3 a4 a5 a6 : Int} (h0 : a0 = a1) (h1 : a1 - a2 ≤ 4096 * (a3 - a4)) (h2 : 6 * a4 + a5 ≤ 6540) (h3 : a2 ≤ 4096 * a4) (h4 : 6 * a3 ≤ 6 * a4 + (a5 - a6)) (h5 : 0 ≤ a6) : a0 ≤ 40000000 := by omega
theorem oz_c3745992a4 {n0 : Nat}  : 0 + 1 ≤ (4 * n0 + 22) := by omega
theorem oz_f51a49eea8 {n0 : Nat}  : 8 + (3 + 11) + 0 ≤ (200 * n0 + 780) := by omega
theorem oz_75b62dc8f3 {a0 a1 a2 a3 a4 a5 : Int} (h0 : a0 = a1) (h1 : a1 = a2) (h2 : 6 * a2 ≤ 6 * a3 + (a4 - a5)) (h3 : 6 * a3 + a4 ≤ 6540) (h4 : 0 ≤ a5) : a0 < 1100 := by omega
theorem oz_7102db9304 {n0 : Nat}  : 8 + (5 + 11) + 0 ≤ (200 * n0 + 780) := by omega
theorem oz_6e66b3a32a {a0 a1 a2 a3 a4 : Int} (h0 : a0 ≤ a2) (h1 : a1 = a3 + 1) (h2 : a4 = a2) (h3 : a3 = a4) : a0 ≤ a1 := by omega
theorem oz_c39670368a {a0 a1 a2 a3 a4 a5 a6 a7 a8 : Int} (h0 : a2 - a3 ≤ 4096 * (a4 - a0)) (h1 : a1 = a5) (h2 : a6 ≤ a7) (h3 : a7 - a6 ≤ 4 * (a2 - a3)) (h4 : a8 = a4) (h5 : a8 < a5) : a0 ≤ a1 := by omega
theorem oz_72984fb0b0 {a0 a1 a2 a3 a4 : Int} (h0 : a0 ≤ a2) (h1 : a1 = a3) (h2 : a4 = a2) (h3 : a4 ≤ a3) : a0 ≤ a1 := by omega
theorem oz_3cace5bd24 {a0 a1 a2 a3 a4 a5 : Int} (h0 : a0 ≤ a2) (h1 : a1 = a3) (h2 : a4 = a2) (h3 : a3 = a5) (h4 : a5 = a4 + (1 : Int)) : a0 ≤ a1 := by omega
theorem oz_8ad522f9ea {a0 a1 a2 a3 a4 a5 a6 a7 a8 a9 a10 : Int} (h0 : a4 - a1 ≤ 4 * (a5 - a3)) (h1 : a2 = a6) (h2 : a0 = a7) (h3 : a8 = a5) (h4 : a9 = a4) (h5 : a6 = a10) (h6 : (0 : Int) ≤ 3 → a7 = a9 + (1 : Int)) (h7 : a10 = a8 + (1 : Int)) : a0 - a1 ≤ 4 * (a2 - a3) := by omega
theorem oz_fe11ac0579 {a0 a1 a2 a3 a4 a5 a6 a7 a8 a9 : Int} (h0 : a4 - a1 ≤ 4096 * (a5 - a3)) (h1 : a2 = a6) (h2 : a0 = a7) (h3 : a8 = a5) (h4 : a9 = a4) (h5 : a7 ≤ a9 + 4096) (h6 : a8 < a6) : a0 - a1 ≤ 4096 * (a2 - a3) := by omega
theorem oz_db48280d0f {a0 a1 a2 a3 a4 a5 a6 a7 a8 a9 a10 : Int} (h0 : a4 - a1 ≤ 4096 * (a5 - a3)) (h1 : a0 = a6) (h2 : a2 = a7) (h3 : a8 = a5) (h4 : a9 = a4) (h5 : a6 = a10) (h6 : a8 < a7) (h7 : a10 = a9 + (1 : Int)) : a0 - a1 ≤ 4096 * (a2 - a3) := by omega
theorem oz_abfa5d2d35  : (1 : Int) ≤ 5 := by omega
theorem oz_e0d0c81028 {a0 a1 a2 a3 a4 a5 a6 a7 a8 a9 a10 : Int} (h0 : a4 - a1 ≤ 4 * (a5 - a3)) (h1 : a2 = a6) (h2 : a0 = a7) (h3 : a8 = a5) (h4 : a9 = a4) (h5 : a6 = a10) (h6 : (1 : Int) ≤ 3 → a7 = a9 + (1 : Int)) (h7 : a10 = a8 + (1 : Int)) : a0 - a1 ≤ 4 * (a2 - a3) := by omega
theorem oz_0073e084eb {a0 : Int} (h0 : ¬ a0 < (0 : Int)) : 0 ≤ (a0 + 1) := by omega
theorem oz_178bcef85b {n0 : Nat}  : (4 * n0 + 12) + 1 ≤ (4 * n0 + 22) := by omega
theorem oz_1767d70f59 {n0 : Nat}  : 8 + (8 + 11) + (200 * n0 + 420) ≤ (200 * n0 + 780) := by omega
theorem oz_34de85669e {a0 a1 a2 a3 a4 a5 a6 a7 : Int} (h0 : a0 = a1) (h1 : a1 = a2) (h2 : a3 - a4 ≤ 4096 * (a2 - a5)) (h3 : 0 ≤ a4) (h4 : a4 ≤ 4 + 4096 * a5) (h5 : a6 ≤ a7) (h6 : a7 - a6 ≤ 4 * (a3 - a4)) : 0 ≤ a0 := by omega
theorem oz_17a0157d43 {a0 a1 a2 a3 a4 a5 a6 a7 : Int} (h0 : a0 = a1) (h1 : a1 = a2) (h2 : a2 - a3 ≤ 4096 * (a4 - a5)) (h3 : 6 * a5 + a6 ≤ 6540) (h4 : a3 ≤ 4096 * a5) (h5 : 6 * a4 ≤ 6 * a5 + (a6 - a7)) (h6 : 0 ≤ a7) : a0 ≤ 40000000 := by omega
theorem oz_eb53d9d016 {a0 a1 a2 a3 a4 : Int} (h0 : a0 = a1) (h1 : a1 = a2) (h2 : a2 = a3) (h3 : a4 ≤ a3) (h4 : 0 ≤ a4) : 0 ≤ a0 := by omega
theorem oz_3ef51c39d5 {a0 a1 a2 a3 a4 a5 a6 : Int} (h0 : a0 = a1) (h1 : a1 = a2) (h2 : a2 = a3) (h3 : 6 * a3 ≤ 6 * a4 + (a5 - a6)) (h4 : 6 * a4 + a5 ≤ 6540) (h5 : 0 ≤ a6) : a0 < 1100 := by omega
theorem oz_a101ed4aa6 {a0 a1 a2 a3 a4 a5 : Int} (h0 : a0 ≤ a2) (h1 : a1 = a3 + 1) (h2 : a4 = a2) (h3 : a3 = a5) (h4 : a5 = a4) : a0 ≤ a1 := by omega
theorem oz_788511b878 {a0 a1 a2 a3 a4 a5 a6 a7 a8 a9 : Int} (h0 : a2 - a3 ≤ 4096 * (a4 - a0)) (h1 : a1 = a5) (h2 : a6 ≤ a7) (h3 : a7 - a6 ≤ 4 * (a2 - a3)) (h4 : a8 = a4) (h5 : a9 < a5) (h6 : a9 = a8) : a0 ≤ a1 := by omega
theorem oz_39bc41608f {a0 a1 a2 a3 a4 a5 : Int} (h0 : a0 ≤ a2) (h1 : a1 = a3) (h2 : a4 = a2) (h3 : a5 ≤ a3) (h4 : a5 = a4) : a0 ≤ a1 := by omega
theorem oz_47ce8e110c {a0 a1 a2 a3 a4 a5 a6 a7 a8 : Int} (h0 : a2 - a3 ≤ 4 * (a4 - a0)) (h1 : a1 = a5) (h2 : a3 ≤ a2) (h3 : a6 = a4) (h4 : a5 = a7) (h5 : a8 = a6) (h6 : a7 = a8 + (1 : Int)) : a0 ≤ a1 := by omega
theorem oz_0159125df4 {a0 a1 a2 a3 a4 a5 a6 a7 a8 a9 a10 a11 a12 : Int} (h0 : a4 - a1 ≤ 4 * (a5 - a3)) (h1 : a2 = a6) (h2 : a0 = a7) (h3 : a8 = a5) (h4 : a9 = a4) (h5 : a6 = a10) (h6 : (0 : Int) ≤ 3 → a7 = a11 + (1 : Int)) (h7 : a12 = a8) (h8 : a11 = a9) (h9 : a10 = a12 + (1 : Int)) : a0 - a1 ≤ 4 * (a2 - a3) := by omega
theorem oz_0e3be830c4 {a0 a1 a2 a3 a4 a5 a6 a7 a8 a9 a10 a11 : Int} (h0 : a4 - a1 ≤ 4096 * (a5 - a3)) (h1 : a2 = a6) (h2 : a0 = a7) (h3 : a8 = a5) (h4 : a9 = a4) (h5 : a7 ≤ a10 + 4096) (h6 : a11 < a6) (h7 : a11 = a8) (h8 : a10 = a9) : a0 - a1 ≤ 4096 * (a2 - a3) := by omega
theorem oz_f6b9fff360 {a0 a1 a2 a3 a4 a5 a6 a7 a8 a9 a10 a11 a12 : Int} (h0 : a4 - a1 ≤ 4096 * (a5 - a3)) (h1 : a0 = a6) (h2 : a2 = a7) (h3 : a8 = a5) (h4 : a9 = a4) (h5 : a6 = a10) (h6 : a11 < a7) (h7 : a11 = a8) (h8 : a12 = a9) (h9 : a10 = a12 + (1 : Int)) : a0 - a1 ≤ 4096 * (a2 - a3) := by omega
theorem oz_217fccdeec {a0 a1 a2 a3 a4 a5 a6 a7 a8 a9 a10 a11 a12 : Int} (h0 : a4 - a1 ≤ 4 * (a5 - a3)) (h1 : a2 = a6) (h2 : a0 = a7) (h3 : a8 = a5) (h4 : a9 = a4) (h5 : a6 = a10) (h6 : (1 : Int) ≤ 3 → a7 = a11 + (1 : Int)) (h7 : a12 = a8) (h8 : a11 = a9) (h9 : a10 = a12 + (1 : Int)) : a0 - a1 ≤ 4 * (a2 - a3) := by omega
theorem oz_1b63056cd2 {n0 : Nat}  : (4 * n0 + 18) + 1 ≤ (4 * n0 + 22) := by omega
theorem oz_b29a9bf2f8 {n0 : Nat}  : 8 + (5 + 11) + (200 * n0 + 640) ≤ (200 * n0 + 780) := by omega
theorem oz_591883cc22 {a0 a1 a2 a3 a4 a5 : Int} (h0 : a1 = a2) (h1 : a0 = a3) (h2 : a3 - a4 ≤ 4096 * (a2 - a5)) (h3 : a4 ≤ 4096 * a5) : a0 ≤ 4096 * a1 := by omega
theorem oz_4d7634dc29 {a0 a1 a2 a3 a4 : Int} (h0 : a0 = a1) (h1 : a2 - a3 ≤ 4 * (a1 - a4)) (h2 : 0 ≤ a4) (h3 : a3 ≤ a2) : 0 ≤ a0 := by omega
theorem oz_28f1d15c37 {a0 a1 a2 a3 a4 a5 : Int} (h0 : a1 = a2) (h1 : a0 = a3) (h2 : a3 - a4 ≤ 4096 * (a2 - a5)) (h3 : a4 ≤ 4 + 4096 * a5) : a0 ≤ 4 + 4096 * a1 := by omega
theorem oz_df71656335 {a0 a1 : Int} (h0 : a1 = a0) (h1 : ¬ a1 < (0 : Int)) : 0 ≤ a0 := by omega
theorem oz_895ed6c208 {n0 : Nat}  : (4 * n0 + 20) + 1 ≤ (4 * n0 + 22) := by omega
theorem oz_1aa4e22bf7 {n0 : Nat}  : 8 + (6 + 11) + (200 * n0 + 700) ≤ (200 * n0 + 780) := by omega
theorem oz_3a8f75ef2d  : (2 : Int) ≤ 5 := by omega
theorem oz_a38eb904f0 {a0 a1 a2 a3 a4 a5 a6 a7 a8 : Int} (h0 : a2 - a3 ≤ 4 * (a4 - a0)) (h1 : a1 = a5) (h2 : a3 ≤ a2) (h3 : a6 = a4) (h4 : a5 = a7) (h5 : a7 = a6 + a8) (h6 : 0 ≤ a8) : a0 ≤ a1 := by omega
theorem oz_23efd63b06 {a0 a1 a2 a3 a4 a5 a6 a7 a8 a9 a10 a11 a12 a13 : Int} (h0 : a4 - a1 ≤ 4 * (a5 - a3)) (h1 : a2 = a6) (h2 : a0 = a7) (h3 : a8 = a5) (h4 : a9 = a4) (h5 : a6 = a10) (h6 : (2 : Int) ≤ 3 → a7 = a11 + a12) (h7 : a11 = a9) (h8 : a12 ≤ 4 * a13) (h9 : a10 = a8 + a13) : a0 - a1 ≤ 4 * (a2 - a3) := by omega
theorem oz_7cb314f517 {a0 a1 a2 a3 a4 a5 a6 a7 a8 a9 a10 a11 a12 : Int} (h0 : a4 - a1 ≤ 4096 * (a5 - a3)) (h1 : a0 = a6) (h2 : a2 = a7) (h3 : a8 = a5) (h4 : a9 = a4) (h5 : a6 = a10) (h6 : a11 < a7) (h7 : a11 = a8) (h8 : a10 = a9 + a12) (h9 : a12 ≤ 4096) : a0 - a1 ≤ 4096 * (a2 - a3) := by omega
theorem oz_e1644ce341  : (3 : Int) ≤ 5 := by omega
theorem oz_232d3ab33c {a0 a1 a2 a3 a4 a5 a6 a7 a8 a9 a10 a11 a12 a13 : Int} (h0 : a4 - a1 ≤ 4 * (a5 - a3)) (h1 : a2 = a6) (h2 : a0 = a7) (h3 : a8 = a5) (h4 : a9 = a4) (h5 : a6 = a10) (h6 : (3 : Int) ≤ 3 → a7 = a11 + a12) (h7 : a11 = a9) (h8 : a12 ≤ 4 * a13) (h9 : a10 = a8 + a13) : a0 - a1 ≤ 4 * (a2 - a3) := by omega
theorem oz_1c3b0c11f9 {a0 a1 : Int}  : 6 * a0 ≤ 6 * a0 + (a1 - a1) := by omega
theorem oz_a1153f1990 {a0 a1 : Int}  : a0 - a0 ≤ 4 * (a1 - a1) := by omega
theorem oz_f4137ca117 {a0 a1 : Int}  : a0 - a0 ≤ 4096 * (a1 - a1) := by omega
theorem oz_2b1b45a940 {a0 a1 : Int} (h0 : a0 ≤ a1) : a0 ≤ (a1 + 1) := by omega
theorem m12_174 : Cond.methodLink "HomeSystemModel$Program" 618 ⟨"HomeSystemModel$Program", "checkNew", "(I)V"⟩ ∈ AL := AL_12 (List.mem_of_getElem? (i := 174) rfl) rfl
theorem m12_177 : Cond.code ⟨"HomeSystemModel$Program", "checkNew", "(I)V"⟩ prog_16_method_72_code 3 (Option.none : Option Jvm.ClassFile.FieldType) ∈ AL := AL_12 (List.mem_of_getElem? (i := 177) rfl) rfl
theorem ms_11_13 : Cond.selects "HomeSystemModel$Program" ⟨"HomeSystemModel$Program", "checkNew", "(I)V"⟩ ⟨"HomeSystemModel$Program", "checkNew", "(I)V"⟩ ∈ AL := AL_p (q := (⟨"HomeSystemModel$Program", "checkNew", "(I)V"⟩, 69)) (by unfold lw_privs; exact List.mem_append_right _ (List.mem_append_right _ (List.mem_append_right _ (List.mem_append_right _ (List.mem_append_right _ (List.mem_append_right _ (List.mem_append_right _ (List.mem_append_right _ (List.mem_append_right _ (List.mem_append_right _ (List.mem_append_left _ (List.mem_of_getElem? (i := 13) rfl))))))))))))
theorem m12_176 : Cond.instanceMethod ⟨"HomeSystemModel$Program", "checkNew", "(I)V"⟩ ∈ AL := AL_12 (List.mem_of_getElem? (i := 176) rfl) rfl
theorem m10_33 : Cond.fieldLink "HomeSystemModel$Program" 621 "HomeSystemModel$Program" "frame" "I" ∈ AL := AL_10 (List.mem_of_getElem? (i := 33) rfl) rfl
theorem m12_186 : Cond.methodLink "HomeSystemModel$Program" 630 ⟨"HomeSystemModel$Program", "lay", "(II)I"⟩ ∈ AL := AL_12 (List.mem_of_getElem? (i := 186) rfl) rfl
theorem m12_189 : Cond.code ⟨"HomeSystemModel$Program", "lay", "(II)I"⟩ prog_16_method_70_code 3 (Option.some FieldType.int) ∈ AL := AL_12 (List.mem_of_getElem? (i := 189) rfl) rfl
theorem ms_12_0 : Cond.selects "HomeSystemModel$Program" ⟨"HomeSystemModel$Program", "lay", "(II)I"⟩ ⟨"HomeSystemModel$Program", "lay", "(II)I"⟩ ∈ AL := AL_p (q := (⟨"HomeSystemModel$Program", "lay", "(II)I"⟩, 69)) (by unfold lw_privs; exact List.mem_append_right _ (List.mem_append_right _ (List.mem_append_right _ (List.mem_append_right _ (List.mem_append_right _ (List.mem_append_right _ (List.mem_append_right _ (List.mem_append_right _ (List.mem_append_right _ (List.mem_append_right _ (List.mem_append_right _ (List.mem_append_left _ (List.mem_of_getElem? (i := 0) rfl)))))))))))))
theorem m12_188 : Cond.instanceMethod ⟨"HomeSystemModel$Program", "lay", "(II)I"⟩ ∈ AL := AL_12 (List.mem_of_getElem? (i := 188) rfl) rfl
theorem m12_190 : Cond.methodLink "HomeSystemModel$Program" 633 ⟨"HomeSystemModel$Program", "know", "(IIII)V"⟩ ∈ AL := AL_12 (List.mem_of_getElem? (i := 190) rfl) rfl
theorem m12_193 : Cond.code ⟨"HomeSystemModel$Program", "know", "(IIII)V"⟩ prog_16_method_71_code 5 (Option.none : Option Jvm.ClassFile.FieldType) ∈ AL := AL_12 (List.mem_of_getElem? (i := 193) rfl) rfl
theorem ms_12_1 : Cond.selects "HomeSystemModel$Program" ⟨"HomeSystemModel$Program", "know", "(IIII)V"⟩ ⟨"HomeSystemModel$Program", "know", "(IIII)V"⟩ ∈ AL := AL_p (q := (⟨"HomeSystemModel$Program", "know", "(IIII)V"⟩, 69)) (by unfold lw_privs; exact List.mem_append_right _ (List.mem_append_right _ (List.mem_append_right _ (List.mem_append_right _ (List.mem_append_right _ (List.mem_append_right _ (List.mem_append_right _ (List.mem_append_right _ (List.mem_append_right _ (List.mem_append_right _ (List.mem_append_right _ (List.mem_append_left _ (List.mem_of_getElem? (i := 1) rfl)))))))))))))
theorem m12_192 : Cond.instanceMethod ⟨"HomeSystemModel$Program", "know", "(IIII)V"⟩ ∈ AL := AL_12 (List.mem_of_getElem? (i := 192) rfl) rfl
theorem m13_30 : Cond.methodLink "HomeSystemModel$Program" 624 ⟨"HomeSystemModel$Program", "declareArray", "(IZ)I"⟩ ∈ AL := AL_13 (List.mem_of_getElem? (i := 30) rfl) rfl
theorem m13_33 : Cond.code ⟨"HomeSystemModel$Program", "declareArray", "(IZ)I"⟩ prog_16_method_87_code 6 (Option.some FieldType.int) ∈ AL := AL_13 (List.mem_of_getElem? (i := 33) rfl) rfl
theorem ms_13_5 : Cond.selects "HomeSystemModel$Program" ⟨"HomeSystemModel$Program", "declareArray", "(IZ)I"⟩ ⟨"HomeSystemModel$Program", "declareArray", "(IZ)I"⟩ ∈ AL := AL_p (q := (⟨"HomeSystemModel$Program", "declareArray", "(IZ)I"⟩, 69)) (by unfold lw_privs; exact List.mem_append_right _ (List.mem_append_right _ (List.mem_append_right _ (List.mem_append_right _ (List.mem_append_right _ (List.mem_append_right _ (List.mem_append_right _ (List.mem_append_right _ (List.mem_append_right _ (List.mem_append_right _ (List.mem_append_right _ (List.mem_append_right _ (List.mem_append_left _ (List.mem_of_getElem? (i := 5) rfl))))))))))))))
theorem m13_32 : Cond.instanceMethod ⟨"HomeSystemModel$Program", "declareArray", "(IZ)I"⟩ ∈ AL := AL_13 (List.mem_of_getElem? (i := 32) rfl) rfl
abbrev b_Mpg_declare : ByteArray := prog_16_method_86_code
def y_Mpg_declare : MethodName := ⟨"HomeSystemModel$Program", "declare", "(IZ)V"⟩
theorem d_Mpg_declare_0 : decode b_Mpg_declare 0 = .ok (.aload_n 0, 1) := by decide +kernel
theorem d_Mpg_declare_1 : decode b_Mpg_declare 1 = .ok (.getfield 216, 3) := by decide +kernel
theorem d_Mpg_declare_4 : decode b_Mpg_declare 4 = .ok (.iload_n 1, 1) := by decide +kernel
theorem d_Mpg_declare_5 : decode b_Mpg_declare 5 = .ok (.iaload, 1) := by decide +kernel
theorem d_Mpg_declare_6 : decode b_Mpg_declare 6 = .ok (.istore_n 3, 1) := by decide +kernel
theorem d_Mpg_declare_7 : decode b_Mpg_declare 7 = .ok (.iload_n 3, 1) := by decide +kernel
theorem d_Mpg_declare_8 : decode b_Mpg_declare 8 = .ok (.ifCond .lt 225, 3) := by decide +kernel
theorem d_Mpg_declare_11 : decode b_Mpg_declare 11 = .ok (.aload_n 0, 1) := by decide +kernel
theorem d_Mpg_declare_12 : decode b_Mpg_declare 12 = .ok (.getfield 210, 3) := by decide +kernel
theorem d_Mpg_declare_15 : decode b_Mpg_declare 15 = .ok (.iload_n 3, 1) := by decide +kernel
theorem d_Mpg_declare_16 : decode b_Mpg_declare 16 = .ok (.iaload, 1) := by decide +kernel
theorem d_Mpg_declare_17 : decode b_Mpg_declare 17 = .ok (.istore 4, 2) := by decide +kernel
theorem d_Mpg_declare_19 : decode b_Mpg_declare 19 = .ok (.aload_n 0, 1) := by decide +kernel
theorem d_Mpg_declare_20 : decode b_Mpg_declare 20 = .ok (.iload 4, 2) := by decide +kernel
theorem d_Mpg_declare_22 : decode b_Mpg_declare 22 = .ok (.invokevirtual 618, 3) := by decide +kernel
theorem d_Mpg_declare_25 : decode b_Mpg_declare 25 = .ok (.aload_n 0, 1) := by decide +kernel
theorem d_Mpg_declare_26 : decode b_Mpg_declare 26 = .ok (.getfield 216, 3) := by decide +kernel
theorem d_Mpg_declare_29 : decode b_Mpg_declare 29 = .ok (.iload_n 3, 1) := by decide +kernel
theorem d_Mpg_declare_30 : decode b_Mpg_declare 30 = .ok (.iaload, 1) := by decide +kernel
theorem d_Mpg_declare_31 : decode b_Mpg_declare 31 = .ok (.ifCond .lt 92, 3) := by decide +kernel
theorem d_Mpg_declare_34 : decode b_Mpg_declare 34 = .ok (.aload_n 0, 1) := by decide +kernel
theorem d_Mpg_declare_35 : decode b_Mpg_declare 35 = .ok (.aload_n 0, 1) := by decide +kernel
theorem d_Mpg_declare_36 : decode b_Mpg_declare 36 = .ok (.getfield 621, 3) := by decide +kernel
theorem d_Mpg_declare_39 : decode b_Mpg_declare 39 = .ok (.aload_n 0, 1) := by decide +kernel
theorem d_Mpg_declare_40 : decode b_Mpg_declare 40 = .ok (.iload_n 3, 1) := by decide +kernel
theorem d_Mpg_declare_41 : decode b_Mpg_declare 41 = .ok (.aload_n 0, 1) := by decide +kernel
theorem d_Mpg_declare_42 : decode b_Mpg_declare 42 = .ok (.getfield 231, 3) := by decide +kernel
theorem d_Mpg_declare_45 : decode b_Mpg_declare 45 = .ok (.iload_n 1, 1) := by decide +kernel
theorem d_Mpg_declare_46 : decode b_Mpg_declare 46 = .ok (.iaload, 1) := by decide +kernel
theorem d_Mpg_declare_47 : decode b_Mpg_declare 47 = .ok (.iconst 1, 1) := by decide +kernel
theorem d_Mpg_declare_48 : decode b_Mpg_declare 48 = .ok (.if_icmp .ne 7, 3) := by decide +kernel
theorem d_Mpg_declare_51 : decode b_Mpg_declare 51 = .ok (.iconst 1, 1) := by decide +kernel
theorem d_Mpg_declare_52 : decode b_Mpg_declare 52 = .ok (.goto 4, 3) := by decide +kernel
theorem d_Mpg_declare_55 : decode b_Mpg_declare 55 = .ok (.iconst 0, 1) := by decide +kernel
theorem d_Mpg_declare_56 : decode b_Mpg_declare 56 = .ok (.invokevirtual 624, 3) := by decide +kernel
theorem d_Mpg_declare_59 : decode b_Mpg_declare 59 = .ok (.iadd, 1) := by decide +kernel
theorem d_Mpg_declare_60 : decode b_Mpg_declare 60 = .ok (.putfield 621, 3) := by decide +kernel
theorem d_Mpg_declare_63 : decode b_Mpg_declare 63 = .ok (.aload_n 0, 1) := by decide +kernel
theorem d_Mpg_declare_64 : decode b_Mpg_declare 64 = .ok (.getfield 225, 3) := by decide +kernel
theorem d_Mpg_declare_67 : decode b_Mpg_declare 67 = .ok (.iload_n 3, 1) := by decide +kernel
theorem d_Mpg_declare_68 : decode b_Mpg_declare 68 = .ok (.aload_n 0, 1) := by decide +kernel
theorem d_Mpg_declare_69 : decode b_Mpg_declare 69 = .ok (.aload_n 0, 1) := by decide +kernel
theorem d_Mpg_declare_70 : decode b_Mpg_declare 70 = .ok (.getfield 231, 3) := by decide +kernel
theorem d_Mpg_declare_73 : decode b_Mpg_declare 73 = .ok (.iload_n 1, 1) := by decide +kernel
theorem d_Mpg_declare_74 : decode b_Mpg_declare 74 = .ok (.iaload, 1) := by decide +kernel
theorem d_Mpg_declare_75 : decode b_Mpg_declare 75 = .ok (.iconst 1, 1) := by decide +kernel
theorem d_Mpg_declare_76 : decode b_Mpg_declare 76 = .ok (.if_icmp .ne 7, 3) := by decide +kernel
theorem d_Mpg_declare_79 : decode b_Mpg_declare 79 = .ok (.iconst 3, 1) := by decide +kernel
theorem d_Mpg_declare_80 : decode b_Mpg_declare 80 = .ok (.goto 4, 3) := by decide +kernel
theorem d_Mpg_declare_83 : decode b_Mpg_declare 83 = .ok (.iconst 2, 1) := by decide +kernel
theorem d_Mpg_declare_84 : decode b_Mpg_declare 84 = .ok (.aload_n 0, 1) := by decide +kernel
theorem d_Mpg_declare_85 : decode b_Mpg_declare 85 = .ok (.getfield 627, 3) := by decide +kernel
theorem d_Mpg_declare_88 : decode b_Mpg_declare 88 = .ok (.invokevirtual 630, 3) := by decide +kernel
theorem d_Mpg_declare_91 : decode b_Mpg_declare 91 = .ok (.iastore, 1) := by decide +kernel
theorem d_Mpg_declare_92 : decode b_Mpg_declare 92 = .ok (.aload_n 0, 1) := by decide +kernel
theorem d_Mpg_declare_93 : decode b_Mpg_declare 93 = .ok (.iload 4, 2) := by decide +kernel
theorem d_Mpg_declare_95 : decode b_Mpg_declare 95 = .ok (.aload_n 0, 1) := by decide +kernel
theorem d_Mpg_declare_96 : decode b_Mpg_declare 96 = .ok (.getfield 231, 3) := by decide +kernel
theorem d_Mpg_declare_99 : decode b_Mpg_declare 99 = .ok (.iload_n 1, 1) := by decide +kernel
theorem d_Mpg_declare_100 : decode b_Mpg_declare 100 = .ok (.iaload, 1) := by decide +kernel
theorem d_Mpg_declare_101 : decode b_Mpg_declare 101 = .ok (.iconst 1, 1) := by decide +kernel
theorem d_Mpg_declare_102 : decode b_Mpg_declare 102 = .ok (.if_icmp .ne 7, 3) := by decide +kernel
theorem d_Mpg_declare_105 : decode b_Mpg_declare 105 = .ok (.iconst 3, 1) := by decide +kernel
theorem d_Mpg_declare_106 : decode b_Mpg_declare 106 = .ok (.goto 4, 3) := by decide +kernel
theorem d_Mpg_declare_109 : decode b_Mpg_declare 109 = .ok (.iconst 2, 1) := by decide +kernel
theorem d_Mpg_declare_110 : decode b_Mpg_declare 110 = .ok (.iconst 0, 1) := by decide +kernel
theorem d_Mpg_declare_111 : decode b_Mpg_declare 111 = .ok (.aload_n 0, 1) := by decide +kernel
theorem d_Mpg_declare_112 : decode b_Mpg_declare 112 = .ok (.getfield 225, 3) := by decide +kernel
theorem d_Mpg_declare_115 : decode b_Mpg_declare 115 = .ok (.iload_n 3, 1) := by decide +kernel
theorem d_Mpg_declare_116 : decode b_Mpg_declare 116 = .ok (.iaload, 1) := by decide +kernel
theorem d_Mpg_declare_117 : decode b_Mpg_declare 117 = .ok (.invokevirtual 633, 3) := by decide +kernel
theorem d_Mpg_declare_120 : decode b_Mpg_declare 120 = .ok (.goto 103, 3) := by decide +kernel
theorem d_Mpg_declare_123 : decode b_Mpg_declare 123 = .ok (.aload_n 0, 1) := by decide +kernel
theorem d_Mpg_declare_124 : decode b_Mpg_declare 124 = .ok (.getfield 231, 3) := by decide +kernel
theorem d_Mpg_declare_127 : decode b_Mpg_declare 127 = .ok (.iload_n 3, 1) := by decide +kernel
theorem d_Mpg_declare_128 : decode b_Mpg_declare 128 = .ok (.iaload, 1) := by decide +kernel
theorem d_Mpg_declare_129 : decode b_Mpg_declare 129 = .ok (.iconst 1, 1) := by decide +kernel
theorem d_Mpg_declare_130 : decode b_Mpg_declare 130 = .ok (.if_icmp .ne 21, 3) := by decide +kernel
theorem d_Mpg_declare_133 : decode b_Mpg_declare 133 = .ok (.iload_n 2, 1) := by decide +kernel
theorem d_Mpg_declare_134 : decode b_Mpg_declare 134 = .ok (.ifCond .eq 17, 3) := by decide +kernel
theorem d_Mpg_declare_137 : decode b_Mpg_declare 137 = .ok (.aload_n 0, 1) := by decide +kernel
theorem d_Mpg_declare_138 : decode b_Mpg_declare 138 = .ok (.aload_n 0, 1) := by decide +kernel
theorem d_Mpg_declare_139 : decode b_Mpg_declare 139 = .ok (.getfield 219, 3) := by decide +kernel
theorem d_Mpg_declare_142 : decode b_Mpg_declare 142 = .ok (.iload_n 3, 1) := by decide +kernel
theorem d_Mpg_declare_143 : decode b_Mpg_declare 143 = .ok (.iaload, 1) := by decide +kernel
theorem d_Mpg_declare_144 : decode b_Mpg_declare 144 = .ok (.invokevirtual 593, 3) := by decide +kernel
theorem d_Mpg_declare_147 : decode b_Mpg_declare 147 = .ok (.pop, 1) := by decide +kernel
theorem d_Mpg_declare_148 : decode b_Mpg_declare 148 = .ok (.goto 25, 3) := by decide +kernel
theorem d_Mpg_declare_151 : decode b_Mpg_declare 151 = .ok (.aload_n 0, 1) := by decide +kernel
theorem d_Mpg_declare_152 : decode b_Mpg_declare 152 = .ok (.getfield 231, 3) := by decide +kernel
theorem d_Mpg_declare_155 : decode b_Mpg_declare 155 = .ok (.iload_n 3, 1) := by decide +kernel
theorem d_Mpg_declare_156 : decode b_Mpg_declare 156 = .ok (.iaload, 1) := by decide +kernel
theorem d_Mpg_declare_157 : decode b_Mpg_declare 157 = .ok (.iconst 1, 1) := by decide +kernel
theorem d_Mpg_declare_158 : decode b_Mpg_declare 158 = .ok (.if_icmp .ne 15, 3) := by decide +kernel
theorem d_Mpg_declare_161 : decode b_Mpg_declare 161 = .ok (.aload_n 0, 1) := by decide +kernel
theorem d_Mpg_declare_162 : decode b_Mpg_declare 162 = .ok (.aload_n 0, 1) := by decide +kernel
theorem d_Mpg_declare_163 : decode b_Mpg_declare 163 = .ok (.getfield 219, 3) := by decide +kernel
theorem d_Mpg_declare_166 : decode b_Mpg_declare 166 = .ok (.iload_n 3, 1) := by decide +kernel
theorem d_Mpg_declare_167 : decode b_Mpg_declare 167 = .ok (.iaload, 1) := by decide +kernel
theorem d_Mpg_declare_168 : decode b_Mpg_declare 168 = .ok (.iconst 1, 1) := by decide +kernel
theorem d_Mpg_declare_169 : decode b_Mpg_declare 169 = .ok (.invokevirtual 577, 3) := by decide +kernel
theorem d_Mpg_declare_172 : decode b_Mpg_declare 172 = .ok (.pop, 1) := by decide +kernel
theorem d_Mpg_declare_173 : decode b_Mpg_declare 173 = .ok (.aload_n 0, 1) := by decide +kernel
theorem d_Mpg_declare_174 : decode b_Mpg_declare 174 = .ok (.dup, 1) := by decide +kernel
theorem d_Mpg_declare_175 : decode b_Mpg_declare 175 = .ok (.getfield 621, 3) := by decide +kernel
theorem d_Mpg_declare_178 : decode b_Mpg_declare 178 = .ok (.iconst 1, 1) := by decide +kernel
theorem d_Mpg_declare_179 : decode b_Mpg_declare 179 = .ok (.iadd, 1) := by decide +kernel
theorem d_Mpg_declare_180 : decode b_Mpg_declare 180 = .ok (.putfield 621, 3) := by decide +kernel
theorem d_Mpg_declare_183 : decode b_Mpg_declare 183 = .ok (.aload_n 0, 1) := by decide +kernel
theorem d_Mpg_declare_184 : decode b_Mpg_declare 184 = .ok (.getfield 225, 3) := by decide +kernel
theorem d_Mpg_declare_187 : decode b_Mpg_declare 187 = .ok (.iload_n 3, 1) := by decide +kernel
theorem d_Mpg_declare_188 : decode b_Mpg_declare 188 = .ok (.aload_n 0, 1) := by decide +kernel
theorem d_Mpg_declare_189 : decode b_Mpg_declare 189 = .ok (.aload_n 0, 1) := by decide +kernel
theorem d_Mpg_declare_190 : decode b_Mpg_declare 190 = .ok (.getfield 231, 3) := by decide +kernel
theorem d_Mpg_declare_193 : decode b_Mpg_declare 193 = .ok (.iload_n 1, 1) := by decide +kernel
theorem d_Mpg_declare_194 : decode b_Mpg_declare 194 = .ok (.iaload, 1) := by decide +kernel
theorem d_Mpg_declare_195 : decode b_Mpg_declare 195 = .ok (.iconst 1, 1) := by decide +kernel
theorem d_Mpg_declare_196 : decode b_Mpg_declare 196 = .ok (.if_icmp .ne 7, 3) := by decide +kernel
theorem d_Mpg_declare_199 : decode b_Mpg_declare 199 = .ok (.iconst 1, 1) := by decide +kernel
theorem d_Mpg_declare_200 : decode b_Mpg_declare 200 = .ok (.goto 4, 3) := by decide +kernel
theorem d_Mpg_declare_203 : decode b_Mpg_declare 203 = .ok (.iconst 0, 1) := by decide +kernel
theorem d_Mpg_declare_204 : decode b_Mpg_declare 204 = .ok (.iconst 1, 1) := by decide +kernel
theorem d_Mpg_declare_205 : decode b_Mpg_declare 205 = .ok (.invokevirtual 630, 3) := by decide +kernel
theorem d_Mpg_declare_208 : decode b_Mpg_declare 208 = .ok (.iastore, 1) := by decide +kernel
theorem d_Mpg_declare_209 : decode b_Mpg_declare 209 = .ok (.aload_n 0, 1) := by decide +kernel
theorem d_Mpg_declare_210 : decode b_Mpg_declare 210 = .ok (.iload 4, 2) := by decide +kernel
theorem d_Mpg_declare_212 : decode b_Mpg_declare 212 = .ok (.iconst 1, 1) := by decide +kernel
theorem d_Mpg_declare_213 : decode b_Mpg_declare 213 = .ok (.iconst 0, 1) := by decide +kernel
theorem d_Mpg_declare_214 : decode b_Mpg_declare 214 = .ok (.aload_n 0, 1) := by decide +kernel
theorem d_Mpg_declare_215 : decode b_Mpg_declare 215 = .ok (.getfield 225, 3) := by decide +kernel
theorem d_Mpg_declare_218 : decode b_Mpg_declare 218 = .ok (.iload_n 3, 1) := by decide +kernel
theorem d_Mpg_declare_219 : decode b_Mpg_declare 219 = .ok (.iaload, 1) := by decide +kernel
theorem d_Mpg_declare_220 : decode b_Mpg_declare 220 = .ok (.invokevirtual 633, 3) := by decide +kernel
theorem d_Mpg_declare_223 : decode b_Mpg_declare 223 = .ok (.aload_n 0, 1) := by decide +kernel
theorem d_Mpg_declare_224 : decode b_Mpg_declare 224 = .ok (.getfield 228, 3) := by decide +kernel
theorem d_Mpg_declare_227 : decode b_Mpg_declare 227 = .ok (.iload_n 3, 1) := by decide +kernel
theorem d_Mpg_declare_228 : decode b_Mpg_declare 228 = .ok (.iaload, 1) := by decide +kernel
theorem d_Mpg_declare_229 : decode b_Mpg_declare 229 = .ok (.istore_n 3, 1) := by decide +kernel
theorem d_Mpg_declare_230 : decode b_Mpg_declare 230 = .ok (.goto (-223), 3) := by decide +kernel
theorem d_Mpg_declare_233 : decode b_Mpg_declare 233 = .ok (.return_, 1) := by decide +kernel
theorem q_Mpg_declare : px_y y_Mpg_declare 2 := by unfold px_y; decide +kernel
set_option maxHeartbeats 4000000 in
set_option maxRecDepth 100000 in
theorem c_mp_declare (l : Launch) (D : va_G) (cs : Nat → ClassId) (ma0 : Nat → Nat → Int32) (ys : Int) (nf : Int) (tx : Int) (d : Nat) (lo : Int) (hi : Int) (w : Int) (tv : Nat) (h : Nat) (r : Nat → Nat) (g : Nat → Nat → Option Nat) (tf : Nat → Int32) (ta : Nat → Nat → Int32) (pf : Nat → Int32) (na : Nat → Nat → Int32) (wa : Nat → Nat → Int32) (ef : Nat → Int32) (ea : Nat → Nat → Int32) (xf : Nat → Int32) (xa : Nat → Nat → Int32) (ma : Nat → Nat → Int32) (cf : Nat → Int32) (ca : Nat → Nat → Int32) (p0 p1 : Int32)  (g0 : 0 ≤ lo) (g1 : hi ≤ (pf 13).toInt) (g2 : (pf 13).toInt ≤ 2100) (g3 : (tf 6).toInt ≤ 2049) (g4 : 0 ≤ (cf 33).toInt) (g5 : 0 ≤ w) (g6 : 6 * (cf 33).toInt + w ≤ 6540) (g7 : 0 ≤ (cf 48).toInt) (g8 : 6 * (cf 48).toInt + w ≤ 6540) (g9 : (cf 38).toInt = nf) (g10 : 0 ≤ nf) (g11 : 0 ≤ (cf 37).toInt) (g12 : 0 ≤ (cf 54).toInt) (g13 : (cf 54).toInt ≤ 4096 * (cf 48).toInt) (g14 : 0 ≤ (cf 42).toInt) (g15 : (cf 42).toInt ≤ 4 + 4096 * (cf 48).toInt) (g16 : 0 ≤ (cf 44).toInt) (g17 : 0 ≤ (cf 45).toInt) (g18 : ys ≤ (cf 48).toInt ∨ tx = 1) (g19 : 0 ≤ (cf 46).toInt) (g20 : (cf 46).toInt ≤ 1) (g21 : 0 ≤ (cf 47).toInt) (g22 : (cf 47).toInt ≤ 1) (g23 : 0 ≤ p0.toInt) (g24 : lo ≤ p0.toInt) (g25 : p0.toInt < hi) (g26 : (na 14 p0.toNatClampNeg).toInt = 23) (g27 : (p1.toInt = 1 ∧ tv = 6 ∧ tx = 1) ∨ (p1.toInt = 0 ∧ tv = 5 ∧ tx = 0)) (htk : TkI tf ta) (hfs : FsI (tf 6).toInt (pf 13).toInt na) (hwr : WrV cf (tf 6).toInt) (hkt : KnT (tf 6).toInt ca (cf 33).toInt) (hft : FnT (tf 6).toInt na ca (cf 38).toInt) (hks : KnS ca (cf 33).toInt (cf 48).toInt ys) (hfp : FnP na ca nf) (hsr : SyR ca ys (cf 48).toInt (cf 54).toInt tx) (han : Ann na ma0 ma) (htx : txo (cf 43).toInt = tx) (hrv : RvV ta (tf 6).toInt na ma0 d (p0.toInt + 1) hi w (na 17 p0.toNatClampNeg)) : MetV l y_Mpg_declare b_Mpg_declare 5 D cs (4 * d + 22) (200 * d + 780) (0) (0) [.ref h, .int p0, .int p1] [wdP cs h r g tf ta pf na ma wa cf ca ef ea xf xa] (oX (fun A U H => (oP A g U H)) [wdP cs h r g tf ta pf na ma wa cf ca ef ea xf xa]) (fun ps => ∃ (ma' : Nat → Nat → Int32) (cf' : Nat → Int32) (ca' : Nat → Nat → Int32), (ps = [wdP cs h r g tf ta pf na ma' wa cf' ca' ef ea xf xa]) ∧ ((cf' 30).toInt = 0 → (cf 30).toInt = 0) ∧ (WrV cf' (tf 6).toInt) ∧ ((cf' 37).toInt = (cf 37).toInt) ∧ ((cf' 38).toInt = (cf 38).toInt) ∧ ((cf' 43).toInt = (cf 43).toInt) ∧ ((cf' 44).toInt = (cf 44).toInt) ∧ ((cf' 45).toInt = (cf 45).toInt) ∧ ((cf' 46).toInt = (cf 46).toInt) ∧ ((cf' 47).toInt = (cf 47).toInt) ∧ ((cf' 41).toInt = (cf 41).toInt) ∧ ((cf' 55).toInt = (cf 55).toInt) ∧ ((cf' 59).toInt = (cf 59).toInt) ∧ ((cf 33).toInt ≤ (cf' 33).toInt) ∧ (6 * (cf' 33).toInt ≤ 6 * (cf 33).toInt + (w)) ∧ ((cf 48).toInt ≤ (cf' 48).toInt) ∧ (6 * (cf' 48).toInt ≤ 6 * (cf 48).toInt + (w)) ∧ ((cf 54).toInt ≤ (cf' 54).toInt) ∧ ((cf 42).toInt ≤ (cf' 42).toInt) ∧ ((cf' 54).toInt - (cf 54).toInt ≤ 4 * ((cf' 42).toInt - (cf 42).toInt)) ∧ ((cf' 54).toInt - (cf 54).toInt ≤ 4096 * ((cf' 48).toInt - (cf 48).toInt)) ∧ ((cf' 42).toInt - (cf 42).toInt ≤ 4096 * ((cf' 48).toInt - (cf 48).toInt)) ∧ (KnT (tf 6).toInt ca' (cf' 33).toInt) ∧ (KnS ca' (cf' 33).toInt (cf' 48).toInt ys) ∧ (CaG ca ca' (cf 33).toInt (cf 48).toInt) ∧ (SyR ca' ys (cf' 48).toInt (cf' 54).toInt tx) ∧ (Ann na ma0 ma') ∧ (FrC lo hi ma ma') ∧ (Sy3 ca' (cf 48).toInt (cf' 48).toInt) ∧ (ZTw cf' ta ca' na ma0 (cf' 48).toInt ys nf ma' lo hi (na 17 p0.toNatClampNeg) tv) ∧ (R_mp_declare tf ta na p0 p1 ma cf ca ma' cf' ca')) := by
  refine px_enter (by decide) (Nat.le_of_ble_eq_true rfl) ?_
  intro p e s m below meth c A ls hAe S hr hlk hnm hA hT hX hw hl
  have hl : lv_has ls 5 [(0, .ref h), (1, .int p0), (2, .int p1)] := hl
  have lp0 := Int32.le_toInt p0
  have up0 := Int32.toInt_lt p0
  have lp1 := Int32.le_toInt p1
  have up1 := Int32.toInt_lt p1
  have cst0 : (0 : Int32).toInt = 0 := rfl
  have cst1 : (1 : Int32).toInt = 1 := rfl
  have cst2 : (2 : Int32).toInt = 2 := rfl
  have cst3 : (3 : Int32).toInt = 3 := rfl
  have hX : (fun A U H => (oP A g U H)) A s s.heap := by rw [hAe]; exact hX
  have hP := hX
  have hZ := hP.1
  have hF0 := hP.2.1
  have hfc : FrC lo hi ma ma := FrC.rf
  have hwr0 := hwr.1
  have hk11 := hkt.1
  have hf11 := hft.1
  have hcg : CaG ca ca (cf 33).toInt (cf 48).toInt := CaG.rf
  have hs3 : Sy3 ca (cf 48).toInt (cf 48).toInt := sy3_0
  have J7 : ∀ (n_7 : Nat) (ma_7 : Nat → Nat → Int32) (cf_7 : Nat → Int32) (ca_7 : Nat → Nat → Int32) (mid_7 : Int) (wr_7 : Int) (x7_3 : Int32) (H : Heap) (locs : List Loc) (ls : Array Slot), ((cf_7 30).toInt = 0 → (cf 30).toInt = 0) → (WrV cf_7 (tf 6).toInt) → ((cf_7 37).toInt = (cf 37).toInt) → ((cf_7 38).toInt = (cf 38).toInt) → ((cf_7 43).toInt = (cf 43).toInt) → ((cf_7 44).toInt = (cf 44).toInt) → ((cf_7 45).toInt = (cf 45).toInt) → ((cf_7 46).toInt = (cf 46).toInt) → ((cf_7 47).toInt = (cf 47).toInt) → ((cf_7 41).toInt = (cf 41).toInt) → ((cf_7 55).toInt = (cf 55).toInt) → ((cf_7 59).toInt = (cf 59).toInt) → ((cf 33).toInt ≤ (cf_7 33).toInt) → (6 * (cf_7 33).toInt ≤ 6 * (cf 33).toInt + (w - wr_7)) → ((cf 48).toInt ≤ (cf_7 48).toInt) → (6 * (cf_7 48).toInt ≤ 6 * (cf 48).toInt + (w - wr_7)) → ((cf 54).toInt ≤ (cf_7 54).toInt) → ((cf 42).toInt ≤ (cf_7 42).toInt) → ((cf_7 54).toInt - (cf 54).toInt ≤ 4 * ((cf_7 42).toInt - (cf 42).toInt)) → ((cf_7 54).toInt - (cf 54).toInt ≤ 4096 * ((cf_7 48).toInt - (cf 48).toInt)) → ((cf_7 42).toInt - (cf 42).toInt ≤ 4096 * ((cf_7 48).toInt - (cf 48).toInt)) → (KnT (tf 6).toInt ca_7 (cf_7 33).toInt) → (KnS ca_7 (cf_7 33).toInt (cf_7 48).toInt ys) → (CaG ca ca_7 (cf 33).toInt (cf 48).toInt) → (SyR ca_7 ys (cf_7 48).toInt (cf_7 54).toInt tx) → (Ann na ma0 ma_7) → (FrC lo hi ma ma_7) → (Sy3 ca_7 (cf 48).toInt (cf_7 48).toInt) → (lo ≤ mid_7) → (p0.toInt + 1 ≤ mid_7) → (mid_7 ≤ hi) → (0 ≤ wr_7) → (wr_7 ≤ w) → (RvV ta (tf 6).toInt na ma0 d mid_7 hi wr_7 x7_3) → (ZTs cf_7 ta ca_7 na ma0 (cf_7 48).toInt ys nf ma_7 lo mid_7 (na 17 p0.toNatClampNeg) x7_3 tv) → (K_mp_declare_7 tf ta na p0 p1 ma cf ca ma_7 cf_7 ca_7 x7_3) → hi - mid_7 < (n_7 : Int) → pw D A s.heap H locs [wdP cs h r g tf ta pf na ma_7 wa cf_7 ca_7 ef ea xf xa] → lv_has ls 5 [(0, .ref h), (1, .int p0), (2, .int p1), (3, .int x7_3)] → W p l e { frames := (4 * d + 22), cells := 0, slots := 0, locals := (200 * d + 780) } s m [.ref h, .int p0, .int p1].toArray below meth c H locs 0 0 (MQ below (va_Qv (fun ps => ∃ (ma' : Nat → Nat → Int32) (cf' : Nat → Int32) (ca' : Nat → Nat → Int32), (ps = [wdP cs h r g tf ta pf na ma' wa cf' ca' ef ea xf xa]) ∧ ((cf' 30).toInt = 0 → (cf 30).toInt = 0) ∧ (WrV cf' (tf 6).toInt) ∧ ((cf' 37).toInt = (cf 37).toInt) ∧ ((cf' 38).toInt = (cf 38).toInt) ∧ ((cf' 43).toInt = (cf 43).toInt) ∧ ((cf' 44).toInt = (cf 44).toInt) ∧ ((cf' 45).toInt = (cf 45).toInt) ∧ ((cf' 46).toInt = (cf 46).toInt) ∧ ((cf' 47).toInt = (cf 47).toInt) ∧ ((cf' 41).toInt = (cf 41).toInt) ∧ ((cf' 55).toInt = (cf 55).toInt) ∧ ((cf' 59).toInt = (cf 59).toInt) ∧ ((cf 33).toInt ≤ (cf' 33).toInt) ∧ (6 * (cf' 33).toInt ≤ 6 * (cf 33).toInt + (w)) ∧ ((cf 48).toInt ≤ (cf' 48).toInt) ∧ (6 * (cf' 48).toInt ≤ 6 * (cf 48).toInt + (w)) ∧ ((cf 54).toInt ≤ (cf' 54).toInt) ∧ ((cf 42).toInt ≤ (cf' 42).toInt) ∧ ((cf' 54).toInt - (cf 54).toInt ≤ 4 * ((cf' 42).toInt - (cf 42).toInt)) ∧ ((cf' 54).toInt - (cf 54).toInt ≤ 4096 * ((cf' 48).toInt - (cf 48).toInt)) ∧ ((cf' 42).toInt - (cf 42).toInt ≤ 4096 * ((cf' 48).toInt - (cf 48).toInt)) ∧ (KnT (tf 6).toInt ca' (cf' 33).toInt) ∧ (KnS ca' (cf' 33).toInt (cf' 48).toInt ys) ∧ (CaG ca ca' (cf 33).toInt (cf 48).toInt) ∧ (SyR ca' ys (cf' 48).toInt (cf' 54).toInt tx) ∧ (Ann na ma0 ma') ∧ (FrC lo hi ma ma') ∧ (Sy3 ca' (cf 48).toInt (cf' 48).toInt) ∧ (ZTw cf' ta ca' na ma0 (cf' 48).toInt ys nf ma' lo hi (na 17 p0.toNatClampNeg) tv) ∧ (R_mp_declare tf ta na p0 p1 ma cf ca ma' cf' ca')) (pc_B D (va_A ([wdP cs h r g tf ta pf na ma wa cf ca ef ea xf xa] : List va_W).flatten s.heap.size)) (va_A ([wdP cs h r g tf ta pf na ma wa cf ca ef ea xf xa] : List va_W).flatten s.heap.size)) [.ref h, .int p0, .int p1].toArray s 0 0 A) (F0 m 7 ls []) := by
    intro  n_7
    induction n_7 with
    | zero =>
      intro ma_7 cf_7 ca_7 mid_7 wr_7 x7_3 H locs ls k7_0 k7_1 k7_2 k7_3 k7_4 k7_5 k7_6 k7_7 k7_8 k7_9 k7_10 k7_11 k7_12 k7_13 k7_14 k7_15 k7_16 k7_17 k7_18 k7_19 k7_20 k7_21 k7_22 k7_23 k7_24 k7_25 k7_26 k7_27 k7_28 k7_29 k7_30 k7_31 k7_32 k7_33 k7_34 k7_35 hm hw hl
      have lx7_3 := Int32.le_toInt x7_3
      have ux7_3 := Int32.toInt_lt x7_3
      have hwr := k7_1
      have hw0_k7_1 := hwr.1
      have hkt := k7_21
      have hk11_k7_21 := hkt.1
      have hks := k7_22
      have hcg := k7_23
      have hft := hft.cg k7_23
      have hfp := hfp.cg k7_23
      have hsr := k7_24
      have han := k7_25
      have hfc := k7_26
      have hs3 := k7_27
      have hrv := k7_33
      have hzts := k7_34
      exact absurd hm (by omega)
    | succ n_7 ih7 =>
      intro ma_7 cf_7 ca_7 mid_7 wr_7 x7_3 H locs ls k7_0 k7_1 k7_2 k7_3 k7_4 k7_5 k7_6 k7_7 k7_8 k7_9 k7_10 k7_11 k7_12 k7_13 k7_14 k7_15 k7_16 k7_17 k7_18 k7_19 k7_20 k7_21 k7_22 k7_23 k7_24 k7_25 k7_26 k7_27 k7_28 k7_29 k7_30 k7_31 k7_32 k7_33 k7_34 k7_35 hm hw hl
      have lx7_3 := Int32.le_toInt x7_3
      have ux7_3 := Int32.toInt_lt x7_3
      have hwr := k7_1
      have hw0_k7_1 := hwr.1
      have hkt := k7_21
      have hk11_k7_21 := hkt.1
      have hks := k7_22
      have hcg := k7_23
      have hft := hft.cg k7_23
      have hfp := hfp.cg k7_23
      have hsr := k7_24
      have han := k7_25
      have hfc := k7_26
      have hs3 := k7_27
      have hrv := k7_33
      have hzts := k7_34
      refine lv_iload_n S.x S.b d_Mpg_declare_7 rfl (lv_at hl 3 rfl) ?_
      refine lv_if_lt (tgt := 233) S.x S.b d_Mpg_declare_8 (by decide) (fun c1 => ?_) (fun c1 => ?_)
      · have nc1 : x7_3.toInt < (0 : Int) := (i_lt (x := x7_3) (y := 0)).mp c1
        first | exact px_vret S hr hlk hAe hw (Nat.le_of_ble_eq_true rfl) (Nat.le_of_ble_eq_true rfl) (⟨ma_7, cf_7, ca_7, rfl, (show (cf_7 30).toInt = 0 → (cf 30).toInt = 0 from k7_0), (show WrV cf_7 (tf 6).toInt from hwr), (show (cf_7 37).toInt = (cf 37).toInt from k7_2), (show (cf_7 38).toInt = (cf 38).toInt from k7_3), (show (cf_7 43).toInt = (cf 43).toInt from k7_4), (show (cf_7 44).toInt = (cf 44).toInt from k7_5), (show (cf_7 45).toInt = (cf 45).toInt from k7_6), (show (cf_7 46).toInt = (cf 46).toInt from k7_7), (show (cf_7 47).toInt = (cf 47).toInt from k7_8), (show (cf_7 41).toInt = (cf 41).toInt from k7_9), (show (cf_7 55).toInt = (cf 55).toInt from k7_10), (show (cf_7 59).toInt = (cf 59).toInt from k7_11), (show (cf 33).toInt ≤ (cf_7 33).toInt from k7_12), (show 6 * (cf_7 33).toInt ≤ 6 * (cf 33).toInt + (w) from (oz_45803030ed k7_13 k7_31)), (show (cf 48).toInt ≤ (cf_7 48).toInt from k7_14), (show 6 * (cf_7 48).toInt ≤ 6 * (cf 48).toInt + (w) from (oz_45803030ed k7_15 k7_31)), (show (cf 54).toInt ≤ (cf_7 54).toInt from k7_16), (show (cf 42).toInt ≤ (cf_7 42).toInt from k7_17), (show (cf_7 54).toInt - (cf 54).toInt ≤ 4 * ((cf_7 42).toInt - (cf 42).toInt) from k7_18), (show (cf_7 54).toInt - (cf 54).toInt ≤ 4096 * ((cf_7 48).toInt - (cf 48).toInt) from k7_19), (show (cf_7 42).toInt - (cf 42).toInt ≤ 4096 * ((cf_7 48).toInt - (cf 48).toInt) from k7_20), (show KnT (tf 6).toInt ca_7 (cf_7 33).toInt from (KnT.eq hkt (by omega))), (show KnS ca_7 (cf_7 33).toInt (cf_7 48).toInt ys from (KnS.eq hks (by omega) (by omega))), (show CaG ca ca_7 (cf 33).toInt (cf 48).toInt from (hcg.le (by omega) (by omega))), (show SyR ca_7 ys (cf_7 48).toInt (cf_7 54).toInt tx from (SyR.eq hsr (by omega) (by omega))), (show Ann na ma0 ma_7 from han), (show FrC lo hi ma ma_7 from hfc), (show Sy3 ca_7 (cf 48).toInt (cf_7 48).toInt from (Sy3.eq hs3 (by omega))), (show ZTw cf_7 ta ca_7 na ma0 (cf_7 48).toInt ys nf ma_7 lo hi (na 17 p0.toNatClampNeg) tv from (ZTs.w hzts (by omega) (fun q => by omega) (by omega) (by omega) (by omega) rfl)), (show R_mp_declare tf ta na p0 p1 ma cf ca ma_7 cf_7 ca_7 from (k7_35 _ _ _ 1 (Or.inr (Or.inl ⟨rfl, x7_3, rfl, rfl, rfl, rfl, rfl, Or.inl ⟨nc1, rfl, rfl, rfl⟩⟩))))⟩) d_Mpg_declare_233 | (exact px_vret S hr hlk hAe hw (Nat.le_of_ble_eq_true rfl) (Nat.le_of_ble_eq_true rfl) (⟨ma_7, cf_7, ca_7, rfl, (show (cf_7 30).toInt = 0 → (cf 30).toInt = 0 from by first | exact k7_0 | omega), (show WrV cf_7 (tf 6).toInt from hwr), (show (cf_7 37).toInt = (cf 37).toInt from by first | exact k7_2 | omega), (show (cf_7 38).toInt = (cf 38).toInt from by first | exact k7_3 | omega), (show (cf_7 43).toInt = (cf 43).toInt from by first | exact k7_4 | omega), (show (cf_7 44).toInt = (cf 44).toInt from by first | exact k7_5 | omega), (show (cf_7 45).toInt = (cf 45).toInt from by first | exact k7_6 | omega), (show (cf_7 46).toInt = (cf 46).toInt from by first | exact k7_7 | omega), (show (cf_7 47).toInt = (cf 47).toInt from by first | exact k7_8 | omega), (show (cf_7 41).toInt = (cf 41).toInt from by first | exact k7_9 | omega), (show (cf_7 55).toInt = (cf 55).toInt from by first | exact k7_10 | omega), (show (cf_7 59).toInt = (cf 59).toInt from by first | exact k7_11 | omega), (show (cf 33).toInt ≤ (cf_7 33).toInt from by first | exact k7_12 | omega), (show 6 * (cf_7 33).toInt ≤ 6 * (cf 33).toInt + (w) from by first | exact oz_45803030ed k7_13 k7_31 | omega), (show (cf 48).toInt ≤ (cf_7 48).toInt from by first | exact k7_14 | omega), (show 6 * (cf_7 48).toInt ≤ 6 * (cf 48).toInt + (w) from by first | exact oz_45803030ed k7_15 k7_31 | omega), (show (cf 54).toInt ≤ (cf_7 54).toInt from by first | exact k7_16 | omega), (show (cf 42).toInt ≤ (cf_7 42).toInt from by first | exact k7_17 | omega), (show (cf_7 54).toInt - (cf 54).toInt ≤ 4 * ((cf_7 42).toInt - (cf 42).toInt) from by first | exact k7_18 | omega), (show (cf_7 54).toInt - (cf 54).toInt ≤ 4096 * ((cf_7 48).toInt - (cf 48).toInt) from by first | exact k7_19 | omega), (show (cf_7 42).toInt - (cf 42).toInt ≤ 4096 * ((cf_7 48).toInt - (cf 48).toInt) from by first | exact k7_20 | omega), (show KnT (tf 6).toInt ca_7 (cf_7 33).toInt from (KnT.eq hkt (by omega))), (show KnS ca_7 (cf_7 33).toInt (cf_7 48).toInt ys from (KnS.eq hks (by omega) (by omega))), (show CaG ca ca_7 (cf 33).toInt (cf 48).toInt from (hcg.le (by omega) (by omega))), (show SyR ca_7 ys (cf_7 48).toInt (cf_7 54).toInt tx from (SyR.eq hsr (by omega) (by omega))), (show Ann na ma0 ma_7 from han), (show FrC lo hi ma ma_7 from hfc), (show Sy3 ca_7 (cf 48).toInt (cf_7 48).toInt from (Sy3.eq hs3 (by omega))), (show ZTw cf_7 ta ca_7 na ma0 (cf_7 48).toInt ys nf ma_7 lo hi (na 17 p0.toNatClampNeg) tv from (ZTs.w hzts (by omega) (fun q => by omega) (by omega) (by omega) (by omega) rfl)), (show R_mp_declare tf ta na p0 p1 ma cf ca ma_7 cf_7 ca_7 from (k7_35 _ _ _ 1 (Or.inr (Or.inl ⟨rfl, x7_3, rfl, rfl, rfl, rfl, rfl, Or.inl ⟨nc1, rfl, rfl, rfl⟩⟩))))⟩) d_Mpg_declare_233)
      · have nc1 : ¬ x7_3.toInt < (0 : Int) := mt (i_lt (x := x7_3) (y := 0)).mpr c1
        refine lv_aload_n S.x S.b d_Mpg_declare_11 rfl (lv_at hl 0 rfl) ?_
        obtain ⟨md3, wv4, hm1_md3, hm2_md3, hm3_md3, hvc_x7_3, hx3_md3, hrv2⟩ := RvE.step hrv (by omega); have hvr := VcV.rng hvc_x7_3; have hvk := VcV.kind hvc_x7_3
        have hwp2 := RvE.wp hrv2
        refine gP_15 S hT hw 0 rfl m9_239 d_Mpg_declare_12 ?_
        refine lv_iload_n S.x S.b d_Mpg_declare_15 rfl (lv_at hl 3 rfl) ?_
        refine px_iald S hT hw 0 11 (n := 2100) (f := (na 15)) rfl gp_15 (x := x7_3) (vp_in_iff.mpr (by constructor <;> omega)) d_Mpg_declare_16 ?_
        refine lv_topi (fun z5 ez5 => ?_)
        have lz5 := Int32.le_toInt z5
        have uz5 := Int32.toInt_lt z5
        have rz5 := VcV.tok hvc_x7_3 ez5
        refine lv_istore (lv' := [(4, .int z5), (0, .ref h), (1, .int p0), (2, .int p1), (3, .int x7_3)]) S.x S.b d_Mpg_declare_17 hl (by decide) rfl (fun ls hl => ?_)
        refine lv_aload_n S.x S.b d_Mpg_declare_19 rfl (lv_at hl 1 rfl) ?_
        refine lv_iload S.x S.b d_Mpg_declare_20 (lv_at hl 0 rfl) ?_
        first | refine px_callv (pr := []) (px_runV (As := [.int z5]) (rest := []) S (c_mp_checkNew l D cs h r g tf ta pf na ma_7 wa ca_7 ef ea xf xa cf_7 z5  (show 0 ≤ z5.toInt from rz5.1) (show z5.toInt < (tf 6).toInt from by omega) (show (tf 6).toInt ≤ 2049 from g3) (show 0 ≤ (cf_7 33).toInt from (oz_16d7fa9f32 k7_12 g4)) (show 0 ≤ (cf_7 37).toInt from (oz_f3ebed1ad0 k7_2 g11)) (show 0 ≤ (cf_7 38).toInt from (oz_e2fef14871 k7_3 g9 g10)) htk hwr (KnT.eq hkt (by omega)) (FnT.eq hft (by omega)) _) hT (pr := []) (pcs := [wdP cs h r g tf ta pf na ma_7 wa cf_7 ca_7 ef ea xf xa]) hw (oX_call (P := (fun A U H => (oP A g U H))) (pr := []) oG_P hw hA hP) (px_recv hT hw 0 0 rfl rfl rfl) m12_177 m12_174 m12_176 ms_11_13 m1_21 q_Mpg_checkNew ⟨show 8 + 1 ≤ (4 * d + 22) from (oz_eb7681d3a0), show 8 + (3 + 11) + 330 ≤ (200 * d + 780) from (oz_bbfc9b3f96)⟩ hl.1 rfl (Nat.le_of_ble_eq_true rfl) d_Mpg_declare_22 ⟨Nat.le_of_ble_eq_true rfl, Nat.le_of_ble_eq_true rfl⟩) hw hA (fun p8 H locs hp8 hw => ?_) | (refine px_callv (pr := []) (px_runV (As := [.int z5]) (rest := []) S (c_mp_checkNew l D cs h r g tf ta pf na ma_7 wa ca_7 ef ea xf xa cf_7 z5  (show 0 ≤ z5.toInt from by first | exact rz5.1 | omega) (show z5.toInt < (tf 6).toInt from by omega) (show (tf 6).toInt ≤ 2049 from by first | exact g3 | omega) (show 0 ≤ (cf_7 33).toInt from by first | exact oz_16d7fa9f32 k7_12 g4 | omega) (show 0 ≤ (cf_7 37).toInt from by first | exact oz_f3ebed1ad0 k7_2 g11 | omega) (show 0 ≤ (cf_7 38).toInt from by first | exact oz_e2fef14871 k7_3 g9 g10 | omega) htk hwr (KnT.eq hkt (by omega)) (FnT.eq hft (by omega)) _) hT (pr := []) (pcs := [wdP cs h r g tf ta pf na ma_7 wa cf_7 ca_7 ef ea xf xa]) hw (oX_call (P := (fun A U H => (oP A g U H))) (pr := []) oG_P hw hA hP) (px_recv hT hw 0 0 rfl rfl rfl) m12_177 m12_174 m12_176 ms_11_13 m1_21 q_Mpg_checkNew ⟨show 8 + 1 ≤ (4 * d + 22) from (by first | exact oz_eb7681d3a0 | omega), show 8 + (3 + 11) + 330 ≤ (200 * d + 780) from (by first | exact oz_bbfc9b3f96 | omega)⟩ hl.1 rfl (Nat.le_of_ble_eq_true rfl) d_Mpg_declare_22 ⟨Nat.le_of_ble_eq_true rfl, Nat.le_of_ble_eq_true rfl⟩) hw hA (fun p8 H locs hp8 hw => ?_))
        obtain ⟨cf7, rfl, e10, e11, e12, e13, e14, e15, e16, e17, e18, e19, e20, e21, e22, e23, e24, e25, e26, e27, e28⟩ := hp8
        have e10 : KpE cf_7 cf7 := e10
        have hkz_e10 := e10.2
        have e11 : WrV cf7 (tf 6).toInt := e11
        have hwr := e11
        have hw0_e11 := hwr.1
        have e12 : (cf7 33).toInt = (cf_7 33).toInt := e12
        have e13 : (cf7 38).toInt = (cf_7 38).toInt := e13
        have e14 : (cf7 48).toInt = (cf_7 48).toInt := e14
        have e15 : (cf7 46).toInt = (cf_7 46).toInt := e15
        have e16 : (cf7 47).toInt = (cf_7 47).toInt := e16
        have e17 : (cf7 57).toInt = (cf_7 57).toInt := e17
        have e18 : (cf7 37).toInt = (cf_7 37).toInt := e18
        have e19 : (cf7 42).toInt = (cf_7 42).toInt := e19
        have e20 : (cf7 43).toInt = (cf_7 43).toInt := e20
        have e21 : (cf7 44).toInt = (cf_7 44).toInt := e21
        have e22 : (cf7 45).toInt = (cf_7 45).toInt := e22
        have e23 : (cf7 54).toInt = (cf_7 54).toInt := e23
        have e24 : (cf7 55).toInt = (cf_7 55).toInt := e24
        have e25 : (cf7 58).toInt = (cf_7 58).toInt := e25
        have e26 : (cf7 59).toInt = (cf_7 59).toInt := e26
        have e27 : (cf7 41).toInt = (cf_7 41).toInt := e27
        have e28 : R_mp_checkNew tf ta na ca_7 z5 cf_7 cf7 := e28
        have hzts : ZTs cf7 ta ca_7 na ma0 (cf7 48).toInt ys nf ma_7 lo mid_7 (na 17 p0.toNatClampNeg) x7_3 tv := ZTs.to hzts (fun q => by omega) (by omega) (Int.le_refl _) (Int.le_refl _) rfl
        refine lv_aload_n S.x S.b d_Mpg_declare_25 rfl (lv_at hl 1 rfl) ?_
        refine gP_17 S hT hw 0 rfl m10_1 d_Mpg_declare_26 ?_
        refine lv_iload_n S.x S.b d_Mpg_declare_29 rfl (lv_at hl 4 rfl) ?_
        refine px_iald S hT hw 0 13 (n := 2100) (f := (na 17)) rfl gp_17 (x := x7_3) (vp_in_iff.mpr (by constructor <;> omega)) d_Mpg_declare_30 ?_
        refine lv_topi (fun z29 ez29 => ?_)
        have lz29 := Int32.le_toInt z29
        have uz29 := Int32.toInt_lt z29
        have rz29 : z29.toInt = (na 17 x7_3.toNatClampNeg).toInt := by rw [ez29]
        refine lv_if_lt (tgt := 123) S.x S.b d_Mpg_declare_31 (by decide) (fun c30 => ?_) (fun c30 => ?_)
        · have nc30 : z29.toInt < (0 : Int) := (i_lt (x := z29) (y := 0)).mp c30
          refine lv_aload_n S.x S.b d_Mpg_declare_123 rfl (lv_at hl 1 rfl) ?_
          refine gP_22 S hT hw 0 rfl m10_9 d_Mpg_declare_124 ?_
          refine lv_iload_n S.x S.b d_Mpg_declare_127 rfl (lv_at hl 4 rfl) ?_
          refine px_iald S hT hw 0 18 (n := 2100) (f := (ma_7 22)) rfl gp_22 (x := x7_3) (vp_in_iff.mpr (by constructor <;> omega)) d_Mpg_declare_128 ?_
          refine lv_topi (fun z32 ez32 => ?_)
          have lz32 := Int32.le_toInt z32
          have uz32 := Int32.toInt_lt z32
          have rz32 : z32.toInt = (ma0 22 x7_3.toNatClampNeg).toInt := (by rw [ez32, Ann.v22 han (by omega)])
          refine lv_iconst (v := 1) S.x S.b d_Mpg_declare_129 (by decide) ?_
          refine lv_icmp_ne (tgt := 151) S.x S.b d_Mpg_declare_130 (by decide) (fun c33 => ?_) (fun c33 => ?_)
          · have nc33 : ¬ z32.toInt = (1 : Int) := mt (i_eq (x := z32) (y := 1)).mpr c33
            refine lv_aload_n S.x S.b d_Mpg_declare_151 rfl (lv_at hl 1 rfl) ?_
            refine gP_22 S hT hw 0 rfl m10_9 d_Mpg_declare_152 ?_
            refine lv_iload_n S.x S.b d_Mpg_declare_155 rfl (lv_at hl 4 rfl) ?_
            refine px_iald S hT hw 0 18 (n := 2100) (f := (ma_7 22)) rfl gp_22 (x := x7_3) (vp_in_iff.mpr (by constructor <;> omega)) d_Mpg_declare_156 ?_
            refine lv_topi (fun z35 ez35 => ?_)
            have lz35 := Int32.le_toInt z35
            have uz35 := Int32.toInt_lt z35
            have rz35 : z35.toInt = (ma0 22 x7_3.toNatClampNeg).toInt := (by rw [ez35, Ann.v22 han (by omega)])
            refine lv_iconst (v := 1) S.x S.b d_Mpg_declare_157 (by decide) ?_
            refine lv_icmp_ne (tgt := 173) S.x S.b d_Mpg_declare_158 (by decide) (fun c36 => ?_) (fun c36 => ?_)
            · have nc36 : ¬ z35.toInt = (1 : Int) := mt (i_eq (x := z35) (y := 1)).mpr c36
              refine lv_aload_n S.x S.b d_Mpg_declare_173 rfl (lv_at hl 1 rfl) ?_
              refine lv_dup S.x S.b d_Mpg_declare_174 rfl ?_
              refine gP_42 (v := (cf7 42)) S hT hw 0 rfl rfl m10_33 d_Mpg_declare_175 ?_
              refine lv_iconst (v := 1) S.x S.b d_Mpg_declare_178 (by decide) ?_
              refine lv_iadd S.x S.b d_Mpg_declare_179 ?_
              have lr38 := Int32.le_toInt (cf7 42)
              have ur38 := Int32.toInt_lt (cf7 42)
              refine lv_topi (fun z39 ez39 => ?_)
              have tz39 : z39.toInt = ((cf7 42).toInt + (1 : Int) + 2147483648) % 4294967296 - 2147483648 := by rw [ez39]; exact i_add (cf7 42) 1
              have lz39 := Int32.le_toInt z39
              have uz39 := Int32.toInt_lt z39
              try replace tz39 : z39.toInt = (cf7 42).toInt + (1 : Int) := by omega
              refine pP_42 S hT hw 0 rfl m10_33 rfl rfl rfl d_Mpg_declare_180 (ps' := [wdP cs h r g tf ta pf na ma_7 wa (upd cf7 42 z39) ca_7 ef ea xf xa]) rfl (fun H locs hw => ?_)
              refine lv_aload_n S.x S.b d_Mpg_declare_183 rfl (lv_at hl 1 rfl) ?_
              refine gP_20 S hT hw 0 rfl m10_6 d_Mpg_declare_184 ?_
              refine lv_iload_n S.x S.b d_Mpg_declare_187 rfl (lv_at hl 4 rfl) ?_
              refine lv_aload_n S.x S.b d_Mpg_declare_188 rfl (lv_at hl 1 rfl) ?_
              refine lv_aload_n S.x S.b d_Mpg_declare_189 rfl (lv_at hl 1 rfl) ?_
              refine gP_22 S hT hw 0 rfl m10_9 d_Mpg_declare_190 ?_
              refine lv_iload_n S.x S.b d_Mpg_declare_193 rfl (lv_at hl 2 rfl) ?_
              refine px_iald S hT hw 0 18 (n := 2100) (f := (ma_7 22)) rfl gp_22 (x := p0) (vp_in_iff.mpr (by first | exact oz_a7e05de1cd g23 g25 g1 g2 | (constructor <;> omega))) d_Mpg_declare_194 ?_
              refine lv_topi (fun z40 ez40 => ?_)
              have lz40 := Int32.le_toInt z40
              have uz40 := Int32.toInt_lt z40
              have rz40 : z40.toInt = (ma0 22 p0.toNatClampNeg).toInt := (by rw [ez40, Ann.v22 han (by omega)])
              refine lv_iconst (v := 1) S.x S.b d_Mpg_declare_195 (by decide) ?_
              refine lv_icmp_ne (tgt := 203) S.x S.b d_Mpg_declare_196 (by decide) (fun c41 => ?_) (fun c41 => ?_)
              · have nc41 : ¬ z40.toInt = (1 : Int) := mt (i_eq (x := z40) (y := 1)).mpr c41
                refine lv_iconst (v := 0) S.x S.b d_Mpg_declare_203 (by decide) ?_
                refine lv_iconst (v := 1) S.x S.b d_Mpg_declare_204 (by decide) ?_
                first | refine px_calli (pr := []) (px_runV (As := [.int 0, .int 1]) (rest := [.int x7_3, .ref (r 20)]) S (c_mp_lay l D cs h r g tf ta pf na ma_7 wa ef ea xf xa (upd cf7 42 z39) ca_7 0 1  (show 0 ≤ (cf7 48).toInt from (oz_cfab8a20ba e14 k7_20 g14 g15 k7_16 k7_18)) (show (cf7 48).toInt < 1100 from (oz_b0b3c00e64 e14 k7_15 g8 k7_31)) (show 0 ≤ (0 : Int) from oz_5a341f00aa) (show (0 : Int) ≤ 5 from oz_01b865b26c) (show 0 ≤ (1 : Int) from oz_19c3a41681) (show (1 : Int) ≤ 4096 from oz_79b5d9fede) (show 0 ≤ (cf7 54).toInt from (oz_9921a0d148 e23 k7_16 g12)) (show (cf7 54).toInt ≤ 40000000 from (oz_8fa6d0de1e e23 k7_19 g8 g13 k7_15 k7_31)) htk _) hT (pr := []) (pcs := [wdP cs h r g tf ta pf na ma_7 wa (upd cf7 42 z39) ca_7 ef ea xf xa]) hw px_X.tt (px_recv hT hw 0 0 rfl rfl rfl) m12_189 m12_186 m12_188 ms_12_0 m1_21 q_Mpg_lay ⟨show 0 + 1 ≤ (4 * d + 22) from (oz_c3745992a4), show 8 + (3 + 11) + 0 ≤ (200 * d + 780) from (oz_f51a49eea8)⟩ hl.1 rfl (Nat.le_of_ble_eq_true rfl) d_Mpg_declare_205 ⟨Nat.le_of_ble_eq_true rfl, Nat.le_of_ble_eq_true rfl⟩) hw hA (fun v48 p47 H locs hp47 hw => ?_) | (refine px_calli (pr := []) (px_runV (As := [.int 0, .int 1]) (rest := [.int x7_3, .ref (r 20)]) S (c_mp_lay l D cs h r g tf ta pf na ma_7 wa ef ea xf xa (upd cf7 42 z39) ca_7 0 1  (show 0 ≤ (cf7 48).toInt from by first | exact oz_cfab8a20ba e14 k7_20 g14 g15 k7_16 k7_18 | omega) (show (cf7 48).toInt < 1100 from by first | exact oz_b0b3c00e64 e14 k7_15 g8 k7_31 | omega) (show 0 ≤ (0 : Int) from by first | exact oz_5a341f00aa | omega) (show (0 : Int) ≤ 5 from by first | exact oz_01b865b26c | omega) (show 0 ≤ (1 : Int) from by first | exact oz_19c3a41681 | omega) (show (1 : Int) ≤ 4096 from by first | exact oz_79b5d9fede | omega) (show 0 ≤ (cf7 54).toInt from by first | exact oz_9921a0d148 e23 k7_16 g12 | omega) (show (cf7 54).toInt ≤ 40000000 from by first | exact oz_8fa6d0de1e e23 k7_19 g8 g13 k7_15 k7_31 | omega) htk _) hT (pr := []) (pcs := [wdP cs h r g tf ta pf na ma_7 wa (upd cf7 42 z39) ca_7 ef ea xf xa]) hw px_X.tt (px_recv hT hw 0 0 rfl rfl rfl) m12_189 m12_186 m12_188 ms_12_0 m1_21 q_Mpg_lay ⟨show 0 + 1 ≤ (4 * d + 22) from (by first | exact oz_c3745992a4 | omega), show 8 + (3 + 11) + 0 ≤ (200 * d + 780) from (by first | exact oz_f51a49eea8 | omega)⟩ hl.1 rfl (Nat.le_of_ble_eq_true rfl) d_Mpg_declare_205 ⟨Nat.le_of_ble_eq_true rfl, Nat.le_of_ble_eq_true rfl⟩) hw hA (fun v48 p47 H locs hp47 hw => ?_))
                obtain ⟨cf45, ca46, rfl, e49, e50, e51, e52, e53, e54, e55, e56, e57, e58, e59, e60, e61, e62, e63, e64, e65, e66, e67, e68, e69, e70, e71, e72⟩ := hp47
                have e49 : v48.toInt = (cf7 48).toInt := e49
                have e50 : (cf45 48).toInt = (cf7 48).toInt + 1 := e50
                have e51 : (cf7 54).toInt ≤ (cf45 54).toInt := e51
                have e52 : (cf45 54).toInt ≤ (cf7 54).toInt + 4096 := e52
                have e53 : (0 : Int) ≤ 3 → (cf45 54).toInt = (cf7 54).toInt + (1 : Int) := e53
                have e54 : 4 ≤ (0 : Int) → (cf45 54).toInt = (cf7 54).toInt + 2 := e54
                have e55 : (cf45 30).toInt = (cf7 30).toInt := e55
                have e56 : (cf45 31).toInt = (cf7 31).toInt := e56
                have e57 : (cf45 33).toInt = (cf7 33).toInt := e57
                have e58 : (cf45 37).toInt = (cf7 37).toInt := e58
                have e59 : (cf45 38).toInt = (cf7 38).toInt := e59
                have e60 : (cf45 41).toInt = (cf7 41).toInt := e60
                have e61 : (cf45 42).toInt = z39.toInt := e61
                have e62 : (cf45 43).toInt = (cf7 43).toInt := e62
                have e63 : (cf45 44).toInt = (cf7 44).toInt := e63
                have e64 : (cf45 45).toInt = (cf7 45).toInt := e64
                have e65 : (cf45 46).toInt = (cf7 46).toInt := e65
                have e66 : (cf45 47).toInt = (cf7 47).toInt := e66
                have e67 : (cf45 55).toInt = (cf7 55).toInt := e67
                have e68 : (cf45 57).toInt = (cf7 57).toInt := e68
                have e69 : (cf45 58).toInt = (cf7 58).toInt := e69
                have e70 : (cf45 59).toInt = (cf7 59).toInt := e70
                have e71 : LyU ca_7 ca46 (cf7 48) (0 : Int32) (cf7 54) (1 : Int32) (txo (cf7 43).toInt) := e71
                have hlu : LyU ca_7 ca46 (cf7 48) (0 : Int32) (cf7 54) (1 : Int32) tx := (by rw [← htx]; exact (by rw [show (cf 43).toInt = (cf7 43).toInt by omega]; exact e71))
                have hcl_e71 : CaG ca_7 ca46 (cf45 33).toInt (cf7 48).toInt := cag_ly hlu (by omega) (by omega)
                have hsr : SyR ca46 ys (cf45 48).toInt (cf45 54).toInt tx := SyR.eq (SyR.ly (cells' := (cf45 54).toInt) (SyR.eq hsr (ns' := (cf7 48).toInt) (by omega) rfl) hlu rfl (by omega) (by omega) (by omega) ⟨by omega, by omega⟩ ⟨by omega, by omega⟩ (fun q => by omega) (fun q => by omega) (fun q => by omega)) (by omega) rfl
                have hkt := hkt.cg hcl_e71 (by omega)
                have hks := hks.cg hcl_e71 (by omega) (by omega) (n2 := (cf45 48).toInt) (by omega)
                have hcg := hcg.tr hcl_e71 (by omega) (by omega)
                have hft := hft.cg hcl_e71
                have hfp := hfp.cg hcl_e71
                have hzts : ZTs cf45 ta ca46 na ma0 (cf45 48).toInt ys nf ma_7 lo mid_7 (na 17 p0.toNatClampNeg) x7_3 tv := ZTs.tr hzts (fun q => by omega) (FrC.rf (lo := 0) (hi := 0)) (by omega) hcl_e71 (by omega) (by omega)
                have hs49 : (ca46 49 (cf7 48).toNatClampNeg).toInt = (0 : Int) := (by rw [hlu.2.1 (by omega) (by omega)]; rfl)
                have hs52 : (ca46 52 (cf7 48).toNatClampNeg).toInt = (1 : Int) := (by rw [hlu.2.2.2.1]; rfl)
                have hsy : SyV ca46 (cf45 48).toInt ys (cf7 48) := hlu.sv (by omega) (by omega) ⟨by omega, by omega⟩ (by omega)
                have hs3 : Sy3 ca46 (cf 48).toInt (cf45 48).toInt := Sy3.eq (Sy3.ly (Sy3.eq hs3 (b' := (cf7 48).toInt) (by omega)) hlu rfl (by omega) (by omega)) (by omega)
                have e72 : R_mp_lay (0 : Int32) (1 : Int32) (upd cf7 42 z39) ca_7 cf45 ca46 v48 := e72
                have hwr : WrV cf45 (tf 6).toInt := WrV.eq hwr (by omega) (by omega)
                have lv48 := Int32.le_toInt v48
                have uv48 := Int32.toInt_lt v48
                have hyv : (cf7 48) = v48 := i_eq.mpr (by omega); rw [hyv] at hsy hs49 hs52
                refine px_iast S hT hw 0 16 (n := 2100) (f := (ma_7 20)) (x := x7_3) (y := v48) rfl gp_20 (vp_in_iff.mpr (by constructor <;> omega)) d_Mpg_declare_208 (w' := wdP cs h r g tf ta pf na (va_up ma_7 20 (upd (ma_7 20) x7_3.toNatClampNeg v48)) wa cf45 ca46 ef ea xf xa) (ps' := [wdP cs h r g tf ta pf na (va_up ma_7 20 (upd (ma_7 20) x7_3.toNatClampNeg v48)) wa cf45 ca46 ef ea xf xa]) sp_20 rfl (fun H locs hw => ?_)
                obtain ⟨ma73, hu_ma73⟩ : ∃ y : Nat → Nat → Int32, y = va_up ma_7 20 (upd (ma_7 20) x7_3.toNatClampNeg v48) := ⟨_, rfl⟩
                have hw : pw D A s.heap _ _ [wdP cs h r g tf ta pf na ma73 wa cf45 ca46 ef ea xf xa] := (by rw [hu_ma73]; exact hw)
                have hf1_ma73 : FrC x7_3.toInt (x7_3.toInt + 1) ma_7 ma73 := (by rw [hu_ma73]; exact FrC.w FrC.rf (by omega) (by omega) (by omega))
                have han : Ann na ma0 ma73 := (by rw [hu_ma73]; exact Ann.w20 han (by omega))
                have hfc := hfc.tr hf1_ma73 (by omega) (by omega)
                have hzts : ZTs cf45 ta ca46 na ma0 (cf45 48).toInt ys nf ma73 lo mid_7 (na 17 p0.toNatClampNeg) x7_3 tv := ZTs.tr hzts (fun q => by omega) hf1_ma73 (by omega) (CaG.rf (kn := 0) (ns := 5000)) (by omega) (by omega)
                have hv_20_x7_3 : ma73 20 x7_3.toNatClampNeg = v48 := (by rw [hu_ma73, va_up_s, pk_us])
                have hnhv_20_x7_3 : (ma73 20 x7_3.toNatClampNeg).toInt = v48.toInt := (by rw [hv_20_x7_3])
                refine lv_aload_n S.x S.b d_Mpg_declare_209 rfl (lv_at hl 1 rfl) ?_
                refine lv_iload S.x S.b d_Mpg_declare_210 (lv_at hl 0 rfl) ?_
                refine lv_iconst (v := 1) S.x S.b d_Mpg_declare_212 (by decide) ?_
                refine lv_iconst (v := 0) S.x S.b d_Mpg_declare_213 (by decide) ?_
                refine lv_aload_n S.x S.b d_Mpg_declare_214 rfl (lv_at hl 1 rfl) ?_
                refine gP_20 S hT hw 0 rfl m10_6 d_Mpg_declare_215 ?_
                refine lv_iload_n S.x S.b d_Mpg_declare_218 rfl (lv_at hl 4 rfl) ?_
                refine px_iald S hT hw 0 16 (n := 2100) (f := (ma73 20)) rfl gp_20 (x := x7_3) (vp_in_iff.mpr (by constructor <;> omega)) d_Mpg_declare_219 ?_
                refine lv_topi (fun z74 ez74 => ?_)
                have lz74 := Int32.le_toInt z74
                have uz74 := Int32.toInt_lt z74
                have hsz74 : v48 = z74 := (ez74.trans hv_20_x7_3).symm; subst hsz74
                first | refine px_callv (pr := []) (px_runV (As := [.int z5, .int 1, .int 0, .int v48]) (rest := []) S (c_mp_know l D cs h r g tf ta pf na ma73 wa ef ea xf xa cf45 ca46 z5 1 0 v48  (show 0 ≤ (cf45 33).toInt from (oz_9bcc310e9c e57 e12 k7_12 g4)) (show (cf45 33).toInt < 1100 from (oz_75b62dc8f3 e57 e12 k7_13 g6 k7_31)) htk _) hT (pr := []) (pcs := [wdP cs h r g tf ta pf na ma73 wa cf45 ca46 ef ea xf xa]) hw px_X.tt (px_recv hT hw 0 0 rfl rfl rfl) m12_193 m12_190 m12_192 ms_12_1 m1_21 q_Mpg_know ⟨show 0 + 1 ≤ (4 * d + 22) from (oz_c3745992a4), show 8 + (5 + 11) + 0 ≤ (200 * d + 780) from (oz_7102db9304)⟩ hl.1 rfl (Nat.le_of_ble_eq_true rfl) d_Mpg_declare_220 ⟨Nat.le_of_ble_eq_true rfl, Nat.le_of_ble_eq_true rfl⟩) hw hA (fun p79 H locs hp79 hw => ?_) | (refine px_callv (pr := []) (px_runV (As := [.int z5, .int 1, .int 0, .int v48]) (rest := []) S (c_mp_know l D cs h r g tf ta pf na ma73 wa ef ea xf xa cf45 ca46 z5 1 0 v48  (show 0 ≤ (cf45 33).toInt from by first | exact oz_9bcc310e9c e57 e12 k7_12 g4 | omega) (show (cf45 33).toInt < 1100 from by first | exact oz_75b62dc8f3 e57 e12 k7_13 g6 k7_31 | omega) htk _) hT (pr := []) (pcs := [wdP cs h r g tf ta pf na ma73 wa cf45 ca46 ef ea xf xa]) hw px_X.tt (px_recv hT hw 0 0 rfl rfl rfl) m12_193 m12_190 m12_192 ms_12_1 m1_21 q_Mpg_know ⟨show 0 + 1 ≤ (4 * d + 22) from (by first | exact oz_c3745992a4 | omega), show 8 + (5 + 11) + 0 ≤ (200 * d + 780) from (by first | exact oz_7102db9304 | omega)⟩ hl.1 rfl (Nat.le_of_ble_eq_true rfl) d_Mpg_declare_220 ⟨Nat.le_of_ble_eq_true rfl, Nat.le_of_ble_eq_true rfl⟩) hw hA (fun p79 H locs hp79 hw => ?_))
                obtain ⟨cf77, ca78, rfl, e81, e82, e83, e84, e85, e86, e87, e88, e89, e90, e91, e92, e93, e94, e95, e96, e97, e98, e99, e100⟩ := hp79
                have e81 : (cf77 33).toInt = (cf45 33).toInt + 1 := e81
                have e82 : (cf77 30).toInt = (cf45 30).toInt := e82
                have e83 : (cf77 31).toInt = (cf45 31).toInt := e83
                have e84 : (cf77 37).toInt = (cf45 37).toInt := e84
                have e85 : (cf77 38).toInt = (cf45 38).toInt := e85
                have e86 : (cf77 41).toInt = (cf45 41).toInt := e86
                have e87 : (cf77 42).toInt = (cf45 42).toInt := e87
                have e88 : (cf77 43).toInt = (cf45 43).toInt := e88
                have e89 : (cf77 44).toInt = (cf45 44).toInt := e89
                have e90 : (cf77 45).toInt = (cf45 45).toInt := e90
                have e91 : (cf77 46).toInt = (cf45 46).toInt := e91
                have e92 : (cf77 47).toInt = (cf45 47).toInt := e92
                have e93 : (cf77 48).toInt = (cf45 48).toInt := e93
                have e94 : (cf77 54).toInt = (cf45 54).toInt := e94
                have e95 : (cf77 55).toInt = (cf45 55).toInt := e95
                have e96 : (cf77 57).toInt = (cf45 57).toInt := e96
                have e97 : (cf77 58).toInt = (cf45 58).toInt := e97
                have e98 : (cf77 59).toInt = (cf45 59).toInt := e98
                have e99 : KwU ca46 ca78 (cf45 33) z5 (1 : Int32) (0 : Int32) v48 := e99
                have hcw_e99 : CaG ca46 ca78 (cf45 33).toInt (cf77 48).toInt := cag_kw e99 (by omega) (by omega)
                have hkt : KnT (tf 6).toInt ca78 (cf77 33).toInt := KnT.eq (KnT.kw (KnT.eq hkt (n' := (cf45 33).toInt) (by omega)) e99 rfl (by omega) (by omega) ⟨by omega, by omega⟩) (by omega)
                have hks : KnS ca78 (cf77 33).toInt (cf77 48).toInt ys := KnS.eq (KnS.kw (KnS.eq hks (n' := (cf45 33).toInt) (by omega) rfl) e99 rfl (by omega) (Or.inl ⟨by omega, hsy⟩)) (by omega) (by omega)
                have hcg := hcg.tr hcw_e99 (by omega) (by omega)
                have hft := hft.cg hcw_e99
                have hfp := hfp.cg hcw_e99
                have hsr := hsr.cg hcw_e99 (by omega)
                have hzts : ZTs cf77 ta ca78 na ma0 (cf77 48).toInt ys nf ma73 lo mid_7 (na 17 p0.toNatClampNeg) x7_3 tv := ZTs.tr hzts (fun q => by omega) (FrC.rf (lo := 0) (hi := 0)) (by omega) hcw_e99 (by omega) (by omega)
                have hs3 : Sy3 ca78 (cf 48).toInt (cf77 48).toInt := Sy3.eq (hs3.cg hcw_e99 (by omega)) (by omega)
                have hsb_e99 := hsy.1.1
                first | have hcy_e99 := cl_nat (x := v48) ((oz_016f458179 hcy_e99)) | (have hcy_e99 := cl_nat (x := v48) (by first | exact oz_016f458179 hcy_e99 | omega))
                have hs49 : (ca78 49 v48.toNatClampNeg).toInt = _ := (congrArg Int32.toInt (hcw_e99.2.2 _ (by omega)).1).trans hs49
                have hs52 : (ca78 52 v48.toNatClampNeg).toInt = _ := (congrArg Int32.toInt (hcw_e99.2.2 _ (by omega)).2.2.2).trans hs52
                have hsy : SyV ca78 (cf77 48).toInt ys v48 := hsy.cg hcw_e99 (by omega) (by omega)
                have e100 : R_mp_know z5 (1 : Int32) (0 : Int32) v48 cf45 ca46 cf77 ca78 := e100
                have hwr : WrV cf77 (tf 6).toInt := WrV.eq hwr (by omega) (by omega)
                refine lv_aload_n S.x S.b d_Mpg_declare_223 rfl (lv_at hl 1 rfl) ?_
                refine gP_21 S hT hw 0 rfl m10_7 d_Mpg_declare_224 ?_
                refine lv_iload_n S.x S.b d_Mpg_declare_227 rfl (lv_at hl 4 rfl) ?_
                refine px_iald S hT hw 0 17 (n := 2100) (f := (na 21)) rfl gp_21 (x := x7_3) (vp_in_iff.mpr (by constructor <;> omega)) d_Mpg_declare_228 ?_
                refine lv_topi (fun z101 ez101 => ?_)
                have lz101 := Int32.le_toInt z101
                have uz101 := Int32.toInt_lt z101
                refine lv_istore_n (lv' := [(3, .int z101), (4, .int z5), (0, .ref h), (1, .int p0), (2, .int p1)]) S.x S.b d_Mpg_declare_229 rfl hl (by decide) rfl (fun ls hl => ?_)
                refine lv_goto (tgt := 7) S.x S.b d_Mpg_declare_230 (by decide) ?_
                first | exact ih7 ma73 cf77 ca78 md3 (wr_7 - wv4) z101 _ _ ls (show (cf77 30).toInt = 0 → (cf 30).toInt = 0 from by omega) (show WrV cf77 (tf 6).toInt from hwr) (show (cf77 37).toInt = (cf 37).toInt from (oz_ff3084e3c1 k7_2 e84 e18 e58)) (show (cf77 38).toInt = (cf 38).toInt from (oz_ff3084e3c1 k7_3 e85 e13 e59)) (show (cf77 43).toInt = (cf 43).toInt from (oz_ff3084e3c1 k7_4 e88 e20 e62)) (show (cf77 44).toInt = (cf 44).toInt from (oz_ff3084e3c1 k7_5 e89 e21 e63)) (show (cf77 45).toInt = (cf 45).toInt from (oz_ff3084e3c1 k7_6 e90 e22 e64)) (show (cf77 46).toInt = (cf 46).toInt from (oz_ff3084e3c1 k7_7 e91 e15 e65)) (show (cf77 47).toInt = (cf 47).toInt from (oz_ff3084e3c1 k7_8 e92 e16 e66)) (show (cf77 41).toInt = (cf 41).toInt from (oz_ff3084e3c1 k7_9 e86 e27 e60)) (show (cf77 55).toInt = (cf 55).toInt from (oz_ff3084e3c1 k7_10 e95 e24 e67)) (show (cf77 59).toInt = (cf 59).toInt from (oz_ff3084e3c1 k7_11 e98 e26 e70)) (show (cf 33).toInt ≤ (cf77 33).toInt from (oz_6e66b3a32a k7_12 e81 e12 e57)) (show 6 * (cf77 33).toInt ≤ 6 * (cf 33).toInt + (w - (wr_7 - wv4)) from by omega) (show (cf 48).toInt ≤ (cf77 48).toInt from (oz_c39670368a k7_20 e93 k7_16 k7_18 e14 hsb_e99.2)) (show 6 * (cf77 48).toInt ≤ 6 * (cf 48).toInt + (w - (wr_7 - wv4)) from by omega) (show (cf 54).toInt ≤ (cf77 54).toInt from (oz_72984fb0b0 k7_16 e94 e23 e51)) (show (cf 42).toInt ≤ (cf77 42).toInt from (oz_3cace5bd24 k7_17 e87 e19 e61 tz39)) (show (cf77 54).toInt - (cf 54).toInt ≤ 4 * ((cf77 42).toInt - (cf 42).toInt) from (oz_8ad522f9ea k7_18 e87 e94 e19 e23 e61 e53 tz39)) (show (cf77 54).toInt - (cf 54).toInt ≤ 4096 * ((cf77 48).toInt - (cf 48).toInt) from (oz_fe11ac0579 k7_19 e93 e94 e14 e23 e52 hsb_e99.2)) (show (cf77 42).toInt - (cf 42).toInt ≤ 4096 * ((cf77 48).toInt - (cf 48).toInt) from (oz_db48280d0f k7_20 e87 e93 e14 e19 e61 hsb_e99.2 tz39)) (show KnT (tf 6).toInt ca78 (cf77 33).toInt from (KnT.eq hkt (by omega))) (show KnS ca78 (cf77 33).toInt (cf77 48).toInt ys from (KnS.eq hks (by omega) (by omega))) (show CaG ca ca78 (cf 33).toInt (cf 48).toInt from (hcg.le (by omega) (by omega))) (show SyR ca78 ys (cf77 48).toInt (cf77 54).toInt tx from (SyR.eq hsr (by omega) (by omega))) (show Ann na ma0 ma73 from han) (show FrC lo hi ma ma73 from hfc) (show Sy3 ca78 (cf 48).toInt (cf77 48).toInt from (Sy3.eq hs3 (by omega))) (show lo ≤ md3 from hm1_md3) (show p0.toInt + 1 ≤ md3 from by omega) (show md3 ≤ hi from hm2_md3) (show 0 ≤ (wr_7 - wv4) from by omega) (show (wr_7 - wv4) ≤ w from by omega) (show RvV ta (tf 6).toInt na ma0 d md3 hi (wr_7 - wv4) z101 from (by rw [ez101]; exact hrv2)) (show ZTs cf77 ta ca78 na ma0 (cf77 48).toInt ys nf ma73 lo md3 (na 17 p0.toNatClampNeg) z101 tv from (ZTs.nx (ZTs.to hzts (fun q => by omega) (by omega) (Int.le_refl _) (by omega) rfl) (show ZTe cf77 ta ca78 na ma0 (cf77 48).toInt ys nf ma73 lo md3 x7_3 tv from (fun zz => tyv_1 ⟨by omega, by omega, by omega⟩ (by omega) (by omega) (by rw [hv_20_x7_3]; exact hsy) rfl (Or.inl (by rw [Ann.v22 han (by omega)]; have q9 := VcV.v10 hvc_x7_3 (by omega); omega)))) (by omega) ez101)) (show K_mp_declare_7 tf ta na p0 p1 ma cf ca ma73 cf77 ca78 z101 from (fun y_f0 y_f1 y_f2 k hE => k7_35 y_f0 y_f1 y_f2 (k + 1) (Or.inr (Or.inl ⟨rfl, x7_3, rfl, rfl, rfl, rfl, rfl, Or.inr ⟨nc1, z5, ez5, cf7, e28, z29, ez29, Or.inl ⟨nc30, z32, ez32, Or.inl ⟨nc33, z35, ez35, nc36, z39, ez39, z40, ez40, Or.inl ⟨nc41, cf45, ca46, v48, e72, ma73, hu_ma73, v48, ez74, cf77, ca78, e100, z101, ez101, hE⟩⟩⟩⟩⟩)))) (show hi - md3 < (n_7 : Int) from by omega) hw (lv_sub hl [2, 3, 4, 0] rfl) | (exact ih7 ma73 cf77 ca78 md3 (wr_7 - wv4) z101 _ _ ls (show (cf77 30).toInt = 0 → (cf 30).toInt = 0 from by omega) (show WrV cf77 (tf 6).toInt from hwr) (show (cf77 37).toInt = (cf 37).toInt from by first | exact oz_ff3084e3c1 k7_2 e84 e18 e58 | omega) (show (cf77 38).toInt = (cf 38).toInt from by first | exact oz_ff3084e3c1 k7_3 e85 e13 e59 | omega) (show (cf77 43).toInt = (cf 43).toInt from by first | exact oz_ff3084e3c1 k7_4 e88 e20 e62 | omega) (show (cf77 44).toInt = (cf 44).toInt from by first | exact oz_ff3084e3c1 k7_5 e89 e21 e63 | omega) (show (cf77 45).toInt = (cf 45).toInt from by first | exact oz_ff3084e3c1 k7_6 e90 e22 e64 | omega) (show (cf77 46).toInt = (cf 46).toInt from by first | exact oz_ff3084e3c1 k7_7 e91 e15 e65 | omega) (show (cf77 47).toInt = (cf 47).toInt from by first | exact oz_ff3084e3c1 k7_8 e92 e16 e66 | omega) (show (cf77 41).toInt = (cf 41).toInt from by first | exact oz_ff3084e3c1 k7_9 e86 e27 e60 | omega) (show (cf77 55).toInt = (cf 55).toInt from by first | exact oz_ff3084e3c1 k7_10 e95 e24 e67 | omega) (show (cf77 59).toInt = (cf 59).toInt from by first | exact oz_ff3084e3c1 k7_11 e98 e26 e70 | omega) (show (cf 33).toInt ≤ (cf77 33).toInt from by first | exact oz_6e66b3a32a k7_12 e81 e12 e57 | omega) (show 6 * (cf77 33).toInt ≤ 6 * (cf 33).toInt + (w - (wr_7 - wv4)) from by omega) (show (cf 48).toInt ≤ (cf77 48).toInt from by first | exact oz_c39670368a k7_20 e93 k7_16 k7_18 e14 hsb_e99.2 | omega) (show 6 * (cf77 48).toInt ≤ 6 * (cf 48).toInt + (w - (wr_7 - wv4)) from by omega) (show (cf 54).toInt ≤ (cf77 54).toInt from by first | exact oz_72984fb0b0 k7_16 e94 e23 e51 | omega) (show (cf 42).toInt ≤ (cf77 42).toInt from by first | exact oz_3cace5bd24 k7_17 e87 e19 e61 tz39 | omega) (show (cf77 54).toInt - (cf 54).toInt ≤ 4 * ((cf77 42).toInt - (cf 42).toInt) from by first | exact oz_8ad522f9ea k7_18 e87 e94 e19 e23 e61 e53 tz39 | omega) (show (cf77 54).toInt - (cf 54).toInt ≤ 4096 * ((cf77 48).toInt - (cf 48).toInt) from by first | exact oz_fe11ac0579 k7_19 e93 e94 e14 e23 e52 hsb_e99.2 | omega) (show (cf77 42).toInt - (cf 42).toInt ≤ 4096 * ((cf77 48).toInt - (cf 48).toInt) from by first | exact oz_db48280d0f k7_20 e87 e93 e14 e19 e61 hsb_e99.2 tz39 | omega) (show KnT (tf 6).toInt ca78 (cf77 33).toInt from (KnT.eq hkt (by omega))) (show KnS ca78 (cf77 33).toInt (cf77 48).toInt ys from (KnS.eq hks (by omega) (by omega))) (show CaG ca ca78 (cf 33).toInt (cf 48).toInt from (hcg.le (by omega) (by omega))) (show SyR ca78 ys (cf77 48).toInt (cf77 54).toInt tx from (SyR.eq hsr (by omega) (by omega))) (show Ann na ma0 ma73 from han) (show FrC lo hi ma ma73 from hfc) (show Sy3 ca78 (cf 48).toInt (cf77 48).toInt from (Sy3.eq hs3 (by omega))) (show lo ≤ md3 from by first | exact hm1_md3 | omega) (show p0.toInt + 1 ≤ md3 from by omega) (show md3 ≤ hi from by first | exact hm2_md3 | omega) (show 0 ≤ (wr_7 - wv4) from by omega) (show (wr_7 - wv4) ≤ w from by omega) (show RvV ta (tf 6).toInt na ma0 d md3 hi (wr_7 - wv4) z101 from (by rw [ez101]; exact hrv2)) (show ZTs cf77 ta ca78 na ma0 (cf77 48).toInt ys nf ma73 lo md3 (na 17 p0.toNatClampNeg) z101 tv from (ZTs.nx (ZTs.to hzts (fun q => by omega) (by omega) (Int.le_refl _) (by omega) rfl) (show ZTe cf77 ta ca78 na ma0 (cf77 48).toInt ys nf ma73 lo md3 x7_3 tv from (fun zz => tyv_1 ⟨by omega, by omega, by omega⟩ (by omega) (by omega) (by rw [hv_20_x7_3]; exact hsy) rfl (Or.inl (by rw [Ann.v22 han (by omega)]; have q9 := VcV.v10 hvc_x7_3 (by omega); omega)))) (by omega) ez101)) (show K_mp_declare_7 tf ta na p0 p1 ma cf ca ma73 cf77 ca78 z101 from (fun y_f0 y_f1 y_f2 k hE => k7_35 y_f0 y_f1 y_f2 (k + 1) (Or.inr (Or.inl ⟨rfl, x7_3, rfl, rfl, rfl, rfl, rfl, Or.inr ⟨nc1, z5, ez5, cf7, e28, z29, ez29, Or.inl ⟨nc30, z32, ez32, Or.inl ⟨nc33, z35, ez35, nc36, z39, ez39, z40, ez40, Or.inl ⟨nc41, cf45, ca46, v48, e72, ma73, hu_ma73, v48, ez74, cf77, ca78, e100, z101, ez101, hE⟩⟩⟩⟩⟩)))) (show hi - md3 < (n_7 : Int) from by omega) hw (lv_sub hl [2, 3, 4, 0] rfl))
              · have nc41 : z40.toInt = (1 : Int) := (i_eq (x := z40) (y := 1)).mp c41
                refine lv_iconst (v := 1) S.x S.b d_Mpg_declare_199 (by decide) ?_
                refine lv_goto (tgt := 204) S.x S.b d_Mpg_declare_200 (by decide) ?_
                refine lv_iconst (v := 1) S.x S.b d_Mpg_declare_204 (by decide) ?_
                first | refine px_calli (pr := []) (px_runV (As := [.int 1, .int 1]) (rest := [.int x7_3, .ref (r 20)]) S (c_mp_lay l D cs h r g tf ta pf na ma_7 wa ef ea xf xa (upd cf7 42 z39) ca_7 1 1  (show 0 ≤ (cf7 48).toInt from (oz_cfab8a20ba e14 k7_20 g14 g15 k7_16 k7_18)) (show (cf7 48).toInt < 1100 from (oz_b0b3c00e64 e14 k7_15 g8 k7_31)) (show 0 ≤ (1 : Int) from oz_19c3a41681) (show (1 : Int) ≤ 5 from oz_abfa5d2d35) (show 0 ≤ (1 : Int) from oz_19c3a41681) (show (1 : Int) ≤ 4096 from oz_79b5d9fede) (show 0 ≤ (cf7 54).toInt from (oz_9921a0d148 e23 k7_16 g12)) (show (cf7 54).toInt ≤ 40000000 from (oz_8fa6d0de1e e23 k7_19 g8 g13 k7_15 k7_31)) htk _) hT (pr := []) (pcs := [wdP cs h r g tf ta pf na ma_7 wa (upd cf7 42 z39) ca_7 ef ea xf xa]) hw px_X.tt (px_recv hT hw 0 0 rfl rfl rfl) m12_189 m12_186 m12_188 ms_12_0 m1_21 q_Mpg_lay ⟨show 0 + 1 ≤ (4 * d + 22) from (oz_c3745992a4), show 8 + (3 + 11) + 0 ≤ (200 * d + 780) from (oz_f51a49eea8)⟩ hl.1 rfl (Nat.le_of_ble_eq_true rfl) d_Mpg_declare_205 ⟨Nat.le_of_ble_eq_true rfl, Nat.le_of_ble_eq_true rfl⟩) hw hA (fun v107 p106 H locs hp106 hw => ?_) | (refine px_calli (pr := []) (px_runV (As := [.int 1, .int 1]) (rest := [.int x7_3, .ref (r 20)]) S (c_mp_lay l D cs h r g tf ta pf na ma_7 wa ef ea xf xa (upd cf7 42 z39) ca_7 1 1  (show 0 ≤ (cf7 48).toInt from by first | exact oz_cfab8a20ba e14 k7_20 g14 g15 k7_16 k7_18 | omega) (show (cf7 48).toInt < 1100 from by first | exact oz_b0b3c00e64 e14 k7_15 g8 k7_31 | omega) (show 0 ≤ (1 : Int) from by first | exact oz_19c3a41681 | omega) (show (1 : Int) ≤ 5 from by first | exact oz_abfa5d2d35 | omega) (show 0 ≤ (1 : Int) from by first | exact oz_19c3a41681 | omega) (show (1 : Int) ≤ 4096 from by first | exact oz_79b5d9fede | omega) (show 0 ≤ (cf7 54).toInt from by first | exact oz_9921a0d148 e23 k7_16 g12 | omega) (show (cf7 54).toInt ≤ 40000000 from by first | exact oz_8fa6d0de1e e23 k7_19 g8 g13 k7_15 k7_31 | omega) htk _) hT (pr := []) (pcs := [wdP cs h r g tf ta pf na ma_7 wa (upd cf7 42 z39) ca_7 ef ea xf xa]) hw px_X.tt (px_recv hT hw 0 0 rfl rfl rfl) m12_189 m12_186 m12_188 ms_12_0 m1_21 q_Mpg_lay ⟨show 0 + 1 ≤ (4 * d + 22) from (by first | exact oz_c3745992a4 | omega), show 8 + (3 + 11) + 0 ≤ (200 * d + 780) from (by first | exact oz_f51a49eea8 | omega)⟩ hl.1 rfl (Nat.le_of_ble_eq_true rfl) d_Mpg_declare_205 ⟨Nat.le_of_ble_eq_true rfl, Nat.le_of_ble_eq_true rfl⟩) hw hA (fun v107 p106 H locs hp106 hw => ?_))
                obtain ⟨cf104, ca105, rfl, e108, e109, e110, e111, e112, e113, e114, e115, e116, e117, e118, e119, e120, e121, e122, e123, e124, e125, e126, e127, e128, e129, e130, e131⟩ := hp106
                have e108 : v107.toInt = (cf7 48).toInt := e108
                have e109 : (cf104 48).toInt = (cf7 48).toInt + 1 := e109
                have e110 : (cf7 54).toInt ≤ (cf104 54).toInt := e110
                have e111 : (cf104 54).toInt ≤ (cf7 54).toInt + 4096 := e111
                have e112 : (1 : Int) ≤ 3 → (cf104 54).toInt = (cf7 54).toInt + (1 : Int) := e112
                have e113 : 4 ≤ (1 : Int) → (cf104 54).toInt = (cf7 54).toInt + 2 := e113
                have e114 : (cf104 30).toInt = (cf7 30).toInt := e114
                have e115 : (cf104 31).toInt = (cf7 31).toInt := e115
                have e116 : (cf104 33).toInt = (cf7 33).toInt := e116
                have e117 : (cf104 37).toInt = (cf7 37).toInt := e117
                have e118 : (cf104 38).toInt = (cf7 38).toInt := e118
                have e119 : (cf104 41).toInt = (cf7 41).toInt := e119
                have e120 : (cf104 42).toInt = z39.toInt := e120
                have e121 : (cf104 43).toInt = (cf7 43).toInt := e121
                have e122 : (cf104 44).toInt = (cf7 44).toInt := e122
                have e123 : (cf104 45).toInt = (cf7 45).toInt := e123
                have e124 : (cf104 46).toInt = (cf7 46).toInt := e124
                have e125 : (cf104 47).toInt = (cf7 47).toInt := e125
                have e126 : (cf104 55).toInt = (cf7 55).toInt := e126
                have e127 : (cf104 57).toInt = (cf7 57).toInt := e127
                have e128 : (cf104 58).toInt = (cf7 58).toInt := e128
                have e129 : (cf104 59).toInt = (cf7 59).toInt := e129
                have e130 : LyU ca_7 ca105 (cf7 48) (1 : Int32) (cf7 54) (1 : Int32) (txo (cf7 43).toInt) := e130
                have hlu : LyU ca_7 ca105 (cf7 48) (1 : Int32) (cf7 54) (1 : Int32) tx := (by rw [← htx]; exact (by rw [show (cf 43).toInt = (cf7 43).toInt by omega]; exact e130))
                have hcl_e130 : CaG ca_7 ca105 (cf104 33).toInt (cf7 48).toInt := cag_ly hlu (by omega) (by omega)
                have hsr : SyR ca105 ys (cf104 48).toInt (cf104 54).toInt tx := SyR.eq (SyR.ly (cells' := (cf104 54).toInt) (SyR.eq hsr (ns' := (cf7 48).toInt) (by omega) rfl) hlu rfl (by omega) (by omega) (by omega) ⟨by omega, by omega⟩ ⟨by omega, by omega⟩ (fun q => by omega) (fun q => by omega) (fun q => by omega)) (by omega) rfl
                have hkt := hkt.cg hcl_e130 (by omega)
                have hks := hks.cg hcl_e130 (by omega) (by omega) (n2 := (cf104 48).toInt) (by omega)
                have hcg := hcg.tr hcl_e130 (by omega) (by omega)
                have hft := hft.cg hcl_e130
                have hfp := hfp.cg hcl_e130
                have hzts : ZTs cf104 ta ca105 na ma0 (cf104 48).toInt ys nf ma_7 lo mid_7 (na 17 p0.toNatClampNeg) x7_3 tv := ZTs.tr hzts (fun q => by omega) (FrC.rf (lo := 0) (hi := 0)) (by omega) hcl_e130 (by omega) (by omega)
                have hs49 : (ca105 49 (cf7 48).toNatClampNeg).toInt = (1 : Int) := (by rw [hlu.2.1 (by omega) (by omega)]; rfl)
                have hs52 : (ca105 52 (cf7 48).toNatClampNeg).toInt = (1 : Int) := (by rw [hlu.2.2.2.1]; rfl)
                have hsy : SyV ca105 (cf104 48).toInt ys (cf7 48) := hlu.sv (by omega) (by omega) ⟨by omega, by omega⟩ (by omega)
                have hs3 : Sy3 ca105 (cf 48).toInt (cf104 48).toInt := Sy3.eq (Sy3.ly (Sy3.eq hs3 (b' := (cf7 48).toInt) (by omega)) hlu rfl (by omega) (by omega)) (by omega)
                have e131 : R_mp_lay (1 : Int32) (1 : Int32) (upd cf7 42 z39) ca_7 cf104 ca105 v107 := e131
                have hwr : WrV cf104 (tf 6).toInt := WrV.eq hwr (by omega) (by omega)
                have lv107 := Int32.le_toInt v107
                have uv107 := Int32.toInt_lt v107
                have hyv : (cf7 48) = v107 := i_eq.mpr (by omega); rw [hyv] at hsy hs49 hs52
                refine px_iast S hT hw 0 16 (n := 2100) (f := (ma_7 20)) (x := x7_3) (y := v107) rfl gp_20 (vp_in_iff.mpr (by constructor <;> omega)) d_Mpg_declare_208 (w' := wdP cs h r g tf ta pf na (va_up ma_7 20 (upd (ma_7 20) x7_3.toNatClampNeg v107)) wa cf104 ca105 ef ea xf xa) (ps' := [wdP cs h r g tf ta pf na (va_up ma_7 20 (upd (ma_7 20) x7_3.toNatClampNeg v107)) wa cf104 ca105 ef ea xf xa]) sp_20 rfl (fun H locs hw => ?_)
                obtain ⟨ma132, hu_ma132⟩ : ∃ y : Nat → Nat → Int32, y = va_up ma_7 20 (upd (ma_7 20) x7_3.toNatClampNeg v107) := ⟨_, rfl⟩
                have hw : pw D A s.heap _ _ [wdP cs h r g tf ta pf na ma132 wa cf104 ca105 ef ea xf xa] := (by rw [hu_ma132]; exact hw)
                have hf1_ma132 : FrC x7_3.toInt (x7_3.toInt + 1) ma_7 ma132 := (by rw [hu_ma132]; exact FrC.w FrC.rf (by omega) (by omega) (by omega))
                have han : Ann na ma0 ma132 := (by rw [hu_ma132]; exact Ann.w20 han (by omega))
                have hfc := hfc.tr hf1_ma132 (by omega) (by omega)
                have hzts : ZTs cf104 ta ca105 na ma0 (cf104 48).toInt ys nf ma132 lo mid_7 (na 17 p0.toNatClampNeg) x7_3 tv := ZTs.tr hzts (fun q => by omega) hf1_ma132 (by omega) (CaG.rf (kn := 0) (ns := 5000)) (by omega) (by omega)
                have hv_20_x7_3 : ma132 20 x7_3.toNatClampNeg = v107 := (by rw [hu_ma132, va_up_s, pk_us])
                have hnhv_20_x7_3 : (ma132 20 x7_3.toNatClampNeg).toInt = v107.toInt := (by rw [hv_20_x7_3])
                refine lv_aload_n S.x S.b d_Mpg_declare_209 rfl (lv_at hl 1 rfl) ?_
                refine lv_iload S.x S.b d_Mpg_declare_210 (lv_at hl 0 rfl) ?_
                refine lv_iconst (v := 1) S.x S.b d_Mpg_declare_212 (by decide) ?_
                refine lv_iconst (v := 0) S.x S.b d_Mpg_declare_213 (by decide) ?_
                refine lv_aload_n S.x S.b d_Mpg_declare_214 rfl (lv_at hl 1 rfl) ?_
                refine gP_20 S hT hw 0 rfl m10_6 d_Mpg_declare_215 ?_
                refine lv_iload_n S.x S.b d_Mpg_declare_218 rfl (lv_at hl 4 rfl) ?_
                refine px_iald S hT hw 0 16 (n := 2100) (f := (ma132 20)) rfl gp_20 (x := x7_3) (vp_in_iff.mpr (by constructor <;> omega)) d_Mpg_declare_219 ?_
                refine lv_topi (fun z133 ez133 => ?_)
                have lz133 := Int32.le_toInt z133
                have uz133 := Int32.toInt_lt z133
                have hsz133 : v107 = z133 := (ez133.trans hv_20_x7_3).symm; subst hsz133
                first | refine px_callv (pr := []) (px_runV (As := [.int z5, .int 1, .int 0, .int v107]) (rest := []) S (c_mp_know l D cs h r g tf ta pf na ma132 wa ef ea xf xa cf104 ca105 z5 1 0 v107  (show 0 ≤ (cf104 33).toInt from (oz_9bcc310e9c e116 e12 k7_12 g4)) (show (cf104 33).toInt < 1100 from (oz_75b62dc8f3 e116 e12 k7_13 g6 k7_31)) htk _) hT (pr := []) (pcs := [wdP cs h r g tf ta pf na ma132 wa cf104 ca105 ef ea xf xa]) hw px_X.tt (px_recv hT hw 0 0 rfl rfl rfl) m12_193 m12_190 m12_192 ms_12_1 m1_21 q_Mpg_know ⟨show 0 + 1 ≤ (4 * d + 22) from (oz_c3745992a4), show 8 + (5 + 11) + 0 ≤ (200 * d + 780) from (oz_7102db9304)⟩ hl.1 rfl (Nat.le_of_ble_eq_true rfl) d_Mpg_declare_220 ⟨Nat.le_of_ble_eq_true rfl, Nat.le_of_ble_eq_true rfl⟩) hw hA (fun p138 H locs hp138 hw => ?_) | (refine px_callv (pr := []) (px_runV (As := [.int z5, .int 1, .int 0, .int v107]) (rest := []) S (c_mp_know l D cs h r g tf ta pf na ma132 wa ef ea xf xa cf104 ca105 z5 1 0 v107  (show 0 ≤ (cf104 33).toInt from by first | exact oz_9bcc310e9c e116 e12 k7_12 g4 | omega) (show (cf104 33).toInt < 1100 from by first | exact oz_75b62dc8f3 e116 e12 k7_13 g6 k7_31 | omega) htk _) hT (pr := []) (pcs := [wdP cs h r g tf ta pf na ma132 wa cf104 ca105 ef ea xf xa]) hw px_X.tt (px_recv hT hw 0 0 rfl rfl rfl) m12_193 m12_190 m12_192 ms_12_1 m1_21 q_Mpg_know ⟨show 0 + 1 ≤ (4 * d + 22) from (by first | exact oz_c3745992a4 | omega), show 8 + (5 + 11) + 0 ≤ (200 * d + 780) from (by first | exact oz_7102db9304 | omega)⟩ hl.1 rfl (Nat.le_of_ble_eq_true rfl) d_Mpg_declare_220 ⟨Nat.le_of_ble_eq_true rfl, Nat.le_of_ble_eq_true rfl⟩) hw hA (fun p138 H locs hp138 hw => ?_))
                obtain ⟨cf136, ca137, rfl, e140, e141, e142, e143, e144, e145, e146, e147, e148, e149, e150, e151, e152, e153, e154, e155, e156, e157, e158, e159⟩ := hp138
                have e140 : (cf136 33).toInt = (cf104 33).toInt + 1 := e140
                have e141 : (cf136 30).toInt = (cf104 30).toInt := e141
                have e142 : (cf136 31).toInt = (cf104 31).toInt := e142
                have e143 : (cf136 37).toInt = (cf104 37).toInt := e143
                have e144 : (cf136 38).toInt = (cf104 38).toInt := e144
                have e145 : (cf136 41).toInt = (cf104 41).toInt := e145
                have e146 : (cf136 42).toInt = (cf104 42).toInt := e146
                have e147 : (cf136 43).toInt = (cf104 43).toInt := e147
                have e148 : (cf136 44).toInt = (cf104 44).toInt := e148
                have e149 : (cf136 45).toInt = (cf104 45).toInt := e149
                have e150 : (cf136 46).toInt = (cf104 46).toInt := e150
                have e151 : (cf136 47).toInt = (cf104 47).toInt := e151
                have e152 : (cf136 48).toInt = (cf104 48).toInt := e152
                have e153 : (cf136 54).toInt = (cf104 54).toInt := e153
                have e154 : (cf136 55).toInt = (cf104 55).toInt := e154
                have e155 : (cf136 57).toInt = (cf104 57).toInt := e155
                have e156 : (cf136 58).toInt = (cf104 58).toInt := e156
                have e157 : (cf136 59).toInt = (cf104 59).toInt := e157
                have e158 : KwU ca105 ca137 (cf104 33) z5 (1 : Int32) (0 : Int32) v107 := e158
                have hcw_e158 : CaG ca105 ca137 (cf104 33).toInt (cf136 48).toInt := cag_kw e158 (by omega) (by omega)
                have hkt : KnT (tf 6).toInt ca137 (cf136 33).toInt := KnT.eq (KnT.kw (KnT.eq hkt (n' := (cf104 33).toInt) (by omega)) e158 rfl (by omega) (by omega) ⟨by omega, by omega⟩) (by omega)
                have hks : KnS ca137 (cf136 33).toInt (cf136 48).toInt ys := KnS.eq (KnS.kw (KnS.eq hks (n' := (cf104 33).toInt) (by omega) rfl) e158 rfl (by omega) (Or.inl ⟨by omega, hsy⟩)) (by omega) (by omega)
                have hcg := hcg.tr hcw_e158 (by omega) (by omega)
                have hft := hft.cg hcw_e158
                have hfp := hfp.cg hcw_e158
                have hsr := hsr.cg hcw_e158 (by omega)
                have hzts : ZTs cf136 ta ca137 na ma0 (cf136 48).toInt ys nf ma132 lo mid_7 (na 17 p0.toNatClampNeg) x7_3 tv := ZTs.tr hzts (fun q => by omega) (FrC.rf (lo := 0) (hi := 0)) (by omega) hcw_e158 (by omega) (by omega)
                have hs3 : Sy3 ca137 (cf 48).toInt (cf136 48).toInt := Sy3.eq (hs3.cg hcw_e158 (by omega)) (by omega)
                have hsb_e158 := hsy.1.1
                first | have hcy_e158 := cl_nat (x := v107) ((oz_016f458179 hcy_e158)) | (have hcy_e158 := cl_nat (x := v107) (by first | exact oz_016f458179 hcy_e158 | omega))
                have hs49 : (ca137 49 v107.toNatClampNeg).toInt = _ := (congrArg Int32.toInt (hcw_e158.2.2 _ (by omega)).1).trans hs49
                have hs52 : (ca137 52 v107.toNatClampNeg).toInt = _ := (congrArg Int32.toInt (hcw_e158.2.2 _ (by omega)).2.2.2).trans hs52
                have hsy : SyV ca137 (cf136 48).toInt ys v107 := hsy.cg hcw_e158 (by omega) (by omega)
                have e159 : R_mp_know z5 (1 : Int32) (0 : Int32) v107 cf104 ca105 cf136 ca137 := e159
                have hwr : WrV cf136 (tf 6).toInt := WrV.eq hwr (by omega) (by omega)
                refine lv_aload_n S.x S.b d_Mpg_declare_223 rfl (lv_at hl 1 rfl) ?_
                refine gP_21 S hT hw 0 rfl m10_7 d_Mpg_declare_224 ?_
                refine lv_iload_n S.x S.b d_Mpg_declare_227 rfl (lv_at hl 4 rfl) ?_
                refine px_iald S hT hw 0 17 (n := 2100) (f := (na 21)) rfl gp_21 (x := x7_3) (vp_in_iff.mpr (by constructor <;> omega)) d_Mpg_declare_228 ?_
                refine lv_topi (fun z160 ez160 => ?_)
                have lz160 := Int32.le_toInt z160
                have uz160 := Int32.toInt_lt z160
                refine lv_istore_n (lv' := [(3, .int z160), (4, .int z5), (0, .ref h), (1, .int p0), (2, .int p1)]) S.x S.b d_Mpg_declare_229 rfl hl (by decide) rfl (fun ls hl => ?_)
                refine lv_goto (tgt := 7) S.x S.b d_Mpg_declare_230 (by decide) ?_
                first | exact ih7 ma132 cf136 ca137 md3 (wr_7 - wv4) z160 _ _ ls (show (cf136 30).toInt = 0 → (cf 30).toInt = 0 from by omega) (show WrV cf136 (tf 6).toInt from hwr) (show (cf136 37).toInt = (cf 37).toInt from (oz_ff3084e3c1 k7_2 e143 e18 e117)) (show (cf136 38).toInt = (cf 38).toInt from (oz_ff3084e3c1 k7_3 e144 e13 e118)) (show (cf136 43).toInt = (cf 43).toInt from (oz_ff3084e3c1 k7_4 e147 e20 e121)) (show (cf136 44).toInt = (cf 44).toInt from (oz_ff3084e3c1 k7_5 e148 e21 e122)) (show (cf136 45).toInt = (cf 45).toInt from (oz_ff3084e3c1 k7_6 e149 e22 e123)) (show (cf136 46).toInt = (cf 46).toInt from (oz_ff3084e3c1 k7_7 e150 e15 e124)) (show (cf136 47).toInt = (cf 47).toInt from (oz_ff3084e3c1 k7_8 e151 e16 e125)) (show (cf136 41).toInt = (cf 41).toInt from (oz_ff3084e3c1 k7_9 e145 e27 e119)) (show (cf136 55).toInt = (cf 55).toInt from (oz_ff3084e3c1 k7_10 e154 e24 e126)) (show (cf136 59).toInt = (cf 59).toInt from (oz_ff3084e3c1 k7_11 e157 e26 e129)) (show (cf 33).toInt ≤ (cf136 33).toInt from (oz_6e66b3a32a k7_12 e140 e12 e116)) (show 6 * (cf136 33).toInt ≤ 6 * (cf 33).toInt + (w - (wr_7 - wv4)) from by omega) (show (cf 48).toInt ≤ (cf136 48).toInt from (oz_c39670368a k7_20 e152 k7_16 k7_18 e14 hsb_e158.2)) (show 6 * (cf136 48).toInt ≤ 6 * (cf 48).toInt + (w - (wr_7 - wv4)) from by omega) (show (cf 54).toInt ≤ (cf136 54).toInt from (oz_72984fb0b0 k7_16 e153 e23 e110)) (show (cf 42).toInt ≤ (cf136 42).toInt from (oz_3cace5bd24 k7_17 e146 e19 e120 tz39)) (show (cf136 54).toInt - (cf 54).toInt ≤ 4 * ((cf136 42).toInt - (cf 42).toInt) from (oz_e0d0c81028 k7_18 e146 e153 e19 e23 e120 e112 tz39)) (show (cf136 54).toInt - (cf 54).toInt ≤ 4096 * ((cf136 48).toInt - (cf 48).toInt) from (oz_fe11ac0579 k7_19 e152 e153 e14 e23 e111 hsb_e158.2)) (show (cf136 42).toInt - (cf 42).toInt ≤ 4096 * ((cf136 48).toInt - (cf 48).toInt) from (oz_db48280d0f k7_20 e146 e152 e14 e19 e120 hsb_e158.2 tz39)) (show KnT (tf 6).toInt ca137 (cf136 33).toInt from (KnT.eq hkt (by omega))) (show KnS ca137 (cf136 33).toInt (cf136 48).toInt ys from (KnS.eq hks (by omega) (by omega))) (show CaG ca ca137 (cf 33).toInt (cf 48).toInt from (hcg.le (by omega) (by omega))) (show SyR ca137 ys (cf136 48).toInt (cf136 54).toInt tx from (SyR.eq hsr (by omega) (by omega))) (show Ann na ma0 ma132 from han) (show FrC lo hi ma ma132 from hfc) (show Sy3 ca137 (cf 48).toInt (cf136 48).toInt from (Sy3.eq hs3 (by omega))) (show lo ≤ md3 from hm1_md3) (show p0.toInt + 1 ≤ md3 from by omega) (show md3 ≤ hi from hm2_md3) (show 0 ≤ (wr_7 - wv4) from by omega) (show (wr_7 - wv4) ≤ w from by omega) (show RvV ta (tf 6).toInt na ma0 d md3 hi (wr_7 - wv4) z160 from (by rw [ez160]; exact hrv2)) (show ZTs cf136 ta ca137 na ma0 (cf136 48).toInt ys nf ma132 lo md3 (na 17 p0.toNatClampNeg) z160 tv from (ZTs.nx (ZTs.to hzts (fun q => by omega) (by omega) (Int.le_refl _) (by omega) rfl) (show ZTe cf136 ta ca137 na ma0 (cf136 48).toInt ys nf ma132 lo md3 x7_3 tv from (fun zz => tyv_1 ⟨by omega, by omega, by omega⟩ (by omega) (by omega) (by rw [hv_20_x7_3]; exact hsy) rfl (Or.inl (by rw [Ann.v22 han (by omega)]; have q9 := VcV.v10 hvc_x7_3 (by omega); omega)))) (by omega) ez160)) (show K_mp_declare_7 tf ta na p0 p1 ma cf ca ma132 cf136 ca137 z160 from (fun y_f0 y_f1 y_f2 k hE => k7_35 y_f0 y_f1 y_f2 (k + 1) (Or.inr (Or.inl ⟨rfl, x7_3, rfl, rfl, rfl, rfl, rfl, Or.inr ⟨nc1, z5, ez5, cf7, e28, z29, ez29, Or.inl ⟨nc30, z32, ez32, Or.inl ⟨nc33, z35, ez35, nc36, z39, ez39, z40, ez40, Or.inr ⟨nc41, cf104, ca105, v107, e131, ma132, hu_ma132, v107, ez133, cf136, ca137, e159, z160, ez160, hE⟩⟩⟩⟩⟩)))) (show hi - md3 < (n_7 : Int) from by omega) hw (lv_sub hl [2, 3, 4, 0] rfl) | (exact ih7 ma132 cf136 ca137 md3 (wr_7 - wv4) z160 _ _ ls (show (cf136 30).toInt = 0 → (cf 30).toInt = 0 from by omega) (show WrV cf136 (tf 6).toInt from hwr) (show (cf136 37).toInt = (cf 37).toInt from by first | exact oz_ff3084e3c1 k7_2 e143 e18 e117 | omega) (show (cf136 38).toInt = (cf 38).toInt from by first | exact oz_ff3084e3c1 k7_3 e144 e13 e118 | omega) (show (cf136 43).toInt = (cf 43).toInt from by first | exact oz_ff3084e3c1 k7_4 e147 e20 e121 | omega) (show (cf136 44).toInt = (cf 44).toInt from by first | exact oz_ff3084e3c1 k7_5 e148 e21 e122 | omega) (show (cf136 45).toInt = (cf 45).toInt from by first | exact oz_ff3084e3c1 k7_6 e149 e22 e123 | omega) (show (cf136 46).toInt = (cf 46).toInt from by first | exact oz_ff3084e3c1 k7_7 e150 e15 e124 | omega) (show (cf136 47).toInt = (cf 47).toInt from by first | exact oz_ff3084e3c1 k7_8 e151 e16 e125 | omega) (show (cf136 41).toInt = (cf 41).toInt from by first | exact oz_ff3084e3c1 k7_9 e145 e27 e119 | omega) (show (cf136 55).toInt = (cf 55).toInt from by first | exact oz_ff3084e3c1 k7_10 e154 e24 e126 | omega) (show (cf136 59).toInt = (cf 59).toInt from by first | exact oz_ff3084e3c1 k7_11 e157 e26 e129 | omega) (show (cf 33).toInt ≤ (cf136 33).toInt from by first | exact oz_6e66b3a32a k7_12 e140 e12 e116 | omega) (show 6 * (cf136 33).toInt ≤ 6 * (cf 33).toInt + (w - (wr_7 - wv4)) from by omega) (show (cf 48).toInt ≤ (cf136 48).toInt from by first | exact oz_c39670368a k7_20 e152 k7_16 k7_18 e14 hsb_e158.2 | omega) (show 6 * (cf136 48).toInt ≤ 6 * (cf 48).toInt + (w - (wr_7 - wv4)) from by omega) (show (cf 54).toInt ≤ (cf136 54).toInt from by first | exact oz_72984fb0b0 k7_16 e153 e23 e110 | omega) (show (cf 42).toInt ≤ (cf136 42).toInt from by first | exact oz_3cace5bd24 k7_17 e146 e19 e120 tz39 | omega) (show (cf136 54).toInt - (cf 54).toInt ≤ 4 * ((cf136 42).toInt - (cf 42).toInt) from by first | exact oz_e0d0c81028 k7_18 e146 e153 e19 e23 e120 e112 tz39 | omega) (show (cf136 54).toInt - (cf 54).toInt ≤ 4096 * ((cf136 48).toInt - (cf 48).toInt) from by first | exact oz_fe11ac0579 k7_19 e152 e153 e14 e23 e111 hsb_e158.2 | omega) (show (cf136 42).toInt - (cf 42).toInt ≤ 4096 * ((cf136 48).toInt - (cf 48).toInt) from by first | exact oz_db48280d0f k7_20 e146 e152 e14 e19 e120 hsb_e158.2 tz39 | omega) (show KnT (tf 6).toInt ca137 (cf136 33).toInt from (KnT.eq hkt (by omega))) (show KnS ca137 (cf136 33).toInt (cf136 48).toInt ys from (KnS.eq hks (by omega) (by omega))) (show CaG ca ca137 (cf 33).toInt (cf 48).toInt from (hcg.le (by omega) (by omega))) (show SyR ca137 ys (cf136 48).toInt (cf136 54).toInt tx from (SyR.eq hsr (by omega) (by omega))) (show Ann na ma0 ma132 from han) (show FrC lo hi ma ma132 from hfc) (show Sy3 ca137 (cf 48).toInt (cf136 48).toInt from (Sy3.eq hs3 (by omega))) (show lo ≤ md3 from by first | exact hm1_md3 | omega) (show p0.toInt + 1 ≤ md3 from by omega) (show md3 ≤ hi from by first | exact hm2_md3 | omega) (show 0 ≤ (wr_7 - wv4) from by omega) (show (wr_7 - wv4) ≤ w from by omega) (show RvV ta (tf 6).toInt na ma0 d md3 hi (wr_7 - wv4) z160 from (by rw [ez160]; exact hrv2)) (show ZTs cf136 ta ca137 na ma0 (cf136 48).toInt ys nf ma132 lo md3 (na 17 p0.toNatClampNeg) z160 tv from (ZTs.nx (ZTs.to hzts (fun q => by omega) (by omega) (Int.le_refl _) (by omega) rfl) (show ZTe cf136 ta ca137 na ma0 (cf136 48).toInt ys nf ma132 lo md3 x7_3 tv from (fun zz => tyv_1 ⟨by omega, by omega, by omega⟩ (by omega) (by omega) (by rw [hv_20_x7_3]; exact hsy) rfl (Or.inl (by rw [Ann.v22 han (by omega)]; have q9 := VcV.v10 hvc_x7_3 (by omega); omega)))) (by omega) ez160)) (show K_mp_declare_7 tf ta na p0 p1 ma cf ca ma132 cf136 ca137 z160 from (fun y_f0 y_f1 y_f2 k hE => k7_35 y_f0 y_f1 y_f2 (k + 1) (Or.inr (Or.inl ⟨rfl, x7_3, rfl, rfl, rfl, rfl, rfl, Or.inr ⟨nc1, z5, ez5, cf7, e28, z29, ez29, Or.inl ⟨nc30, z32, ez32, Or.inl ⟨nc33, z35, ez35, nc36, z39, ez39, z40, ez40, Or.inr ⟨nc41, cf104, ca105, v107, e131, ma132, hu_ma132, v107, ez133, cf136, ca137, e159, z160, ez160, hE⟩⟩⟩⟩⟩)))) (show hi - md3 < (n_7 : Int) from by omega) hw (lv_sub hl [2, 3, 4, 0] rfl))
            · have nc36 : z35.toInt = (1 : Int) := (i_eq (x := z35) (y := 1)).mp c36
              exfalso
              omega
          · have nc33 : z32.toInt = (1 : Int) := (i_eq (x := z32) (y := 1)).mp c33
            refine lv_iload_n S.x S.b d_Mpg_declare_133 rfl (lv_at hl 3 rfl) ?_
            refine lv_if_eq (tgt := 151) S.x S.b d_Mpg_declare_134 (by decide) (fun c161 => ?_) (fun c161 => ?_)
            · have nc161 : p1.toInt = (0 : Int) := (i_eq (x := p1) (y := 0)).mp c161
              refine lv_aload_n S.x S.b d_Mpg_declare_151 rfl (lv_at hl 1 rfl) ?_
              refine gP_22 S hT hw 0 rfl m10_9 d_Mpg_declare_152 ?_
              refine lv_iload_n S.x S.b d_Mpg_declare_155 rfl (lv_at hl 4 rfl) ?_
              refine px_iald S hT hw 0 18 (n := 2100) (f := (ma_7 22)) rfl gp_22 (x := x7_3) (vp_in_iff.mpr (by constructor <;> omega)) d_Mpg_declare_156 ?_
              refine lv_topi (fun z163 ez163 => ?_)
              have lz163 := Int32.le_toInt z163
              have uz163 := Int32.toInt_lt z163
              have rz163 : z163.toInt = (ma0 22 x7_3.toNatClampNeg).toInt := (by rw [ez163, Ann.v22 han (by omega)])
              refine lv_iconst (v := 1) S.x S.b d_Mpg_declare_157 (by decide) ?_
              refine lv_icmp_ne (tgt := 173) S.x S.b d_Mpg_declare_158 (by decide) (fun c164 => ?_) (fun c164 => ?_)
              · have nc164 : ¬ z163.toInt = (1 : Int) := mt (i_eq (x := z163) (y := 1)).mpr c164
                exfalso
                omega
              · have nc164 : z163.toInt = (1 : Int) := (i_eq (x := z163) (y := 1)).mp c164
                refine lv_aload_n S.x S.b d_Mpg_declare_161 rfl (lv_at hl 1 rfl) ?_
                refine lv_aload_n S.x S.b d_Mpg_declare_162 rfl (lv_at hl 1 rfl) ?_
                refine gP_18 S hT hw 0 rfl m10_3 d_Mpg_declare_163 ?_
                refine lv_iload_n S.x S.b d_Mpg_declare_166 rfl (lv_at hl 4 rfl) ?_
                refine px_iald S hT hw 0 14 (n := 2100) (f := (ma_7 18)) rfl gp_18 (x := x7_3) (vp_in_iff.mpr (by constructor <;> omega)) d_Mpg_declare_167 ?_
                refine lv_topi (fun z166 ez166 => ?_)
                have lz166 := Int32.le_toInt z166
                have uz166 := Int32.toInt_lt z166
                have ha_z166 : z166 = ma0 18 x7_3.toNatClampNeg := ez166.trans (Ann.v18 han (by omega)); have hev_z166 := VcV.v11 hvc_x7_3 (by omega) (by omega) ha_z166; obtain ⟨hec_z166, h20_z166, hw_z166⟩ := hev_z166.ec; have hrg_z166 := EcV.rng hec_z166
                refine lv_iconst (v := 1) S.x S.b d_Mpg_declare_168 (by decide) ?_
                first | refine px_calli (pr := []) (px_runV (As := [.int z166, .int 1]) (rest := []) S (c_S_check l D cs ma0 ys (cf7 48).toInt nf (cf7 33).toInt d (x7_3.toInt + 1) md3 h r g tf ta pf na wa ca_7 ef ea xf xa ma_7 cf7 z166 1  (show 0 ≤ (x7_3.toInt + 1) from (oz_0073e084eb nc1)) (show md3 ≤ (pf 13).toInt from (oz_bbb5b20c1a g1 hm2_md3)) (show (pf 13).toInt ≤ 2100 from g2) (show (tf 6).toInt ≤ 2049 from g3) (show (cf7 33).toInt = (cf7 33).toInt from rfl) (show 0 ≤ (cf7 33).toInt from (oz_9921a0d148 e12 k7_12 g4)) (show (cf7 48).toInt = (cf7 48).toInt from rfl) (show (cf7 38).toInt = nf from (oz_e13fc83238 g9 e13 k7_3)) (show 0 ≤ nf from g10) (show 0 ≤ (1 : Int) from oz_19c3a41681) (show (1 : Int) ≤ 1 from oz_f9181dc4bb) htk (FsI.le (N' := (pf 13).toInt) hfs (by omega)) hwr (KnT.eq hkt (by omega)) (FnT.eq hft (by omega)) (KnS.eq hks (by omega) (by omega)) hfp han hec_z166 _) hT (pr := []) (pcs := [wdP cs h r g tf ta pf na ma_7 wa cf7 ca_7 ef ea xf xa]) hw (oX_call (P := (fun A U H => (oP A g U H))) (pr := []) oG_P hw hA hP) (px_recv hT hw 0 0 rfl rfl rfl) m12_217 m12_214 m12_216 ms_12_7 m1_21 q_Mpg_check ⟨show (4 * d + 12) + 1 ≤ (4 * d + 22) from (oz_178bcef85b), show 8 + (8 + 11) + (200 * d + 420) ≤ (200 * d + 780) from (oz_1767d70f59)⟩ hl.1 rfl (Nat.le_of_ble_eq_true rfl) d_Mpg_declare_169 ⟨Nat.le_of_ble_eq_true rfl, Nat.le_of_ble_eq_true rfl⟩) hw hA (fun v172 p171 H locs hp171 hw => ?_) | (refine px_calli (pr := []) (px_runV (As := [.int z166, .int 1]) (rest := []) S (c_S_check l D cs ma0 ys (cf7 48).toInt nf (cf7 33).toInt d (x7_3.toInt + 1) md3 h r g tf ta pf na wa ca_7 ef ea xf xa ma_7 cf7 z166 1  (show 0 ≤ (x7_3.toInt + 1) from by first | exact oz_0073e084eb nc1 | omega) (show md3 ≤ (pf 13).toInt from by first | exact oz_bbb5b20c1a g1 hm2_md3 | omega) (show (pf 13).toInt ≤ 2100 from by first | exact g2 | omega) (show (tf 6).toInt ≤ 2049 from by first | exact g3 | omega) (show (cf7 33).toInt = (cf7 33).toInt from rfl) (show 0 ≤ (cf7 33).toInt from by first | exact oz_9921a0d148 e12 k7_12 g4 | omega) (show (cf7 48).toInt = (cf7 48).toInt from rfl) (show (cf7 38).toInt = nf from by first | exact oz_e13fc83238 g9 e13 k7_3 | omega) (show 0 ≤ nf from by first | exact g10 | omega) (show 0 ≤ (1 : Int) from by first | exact oz_19c3a41681 | omega) (show (1 : Int) ≤ 1 from by first | exact oz_f9181dc4bb | omega) htk (FsI.le (N' := (pf 13).toInt) hfs (by omega)) hwr (KnT.eq hkt (by omega)) (FnT.eq hft (by omega)) (KnS.eq hks (by omega) (by omega)) hfp han hec_z166 _) hT (pr := []) (pcs := [wdP cs h r g tf ta pf na ma_7 wa cf7 ca_7 ef ea xf xa]) hw (oX_call (P := (fun A U H => (oP A g U H))) (pr := []) oG_P hw hA hP) (px_recv hT hw 0 0 rfl rfl rfl) m12_217 m12_214 m12_216 ms_12_7 m1_21 q_Mpg_check ⟨show (4 * d + 12) + 1 ≤ (4 * d + 22) from (by first | exact oz_178bcef85b | omega), show 8 + (8 + 11) + (200 * d + 420) ≤ (200 * d + 780) from (by first | exact oz_1767d70f59 | omega)⟩ hl.1 rfl (Nat.le_of_ble_eq_true rfl) d_Mpg_declare_169 ⟨Nat.le_of_ble_eq_true rfl, Nat.le_of_ble_eq_true rfl⟩) hw hA (fun v172 p171 H locs hp171 hw => ?_))
                obtain ⟨ma169, cf170, rfl, e173, e174, e175, e176, e177, e178, e179, e180, e181, e182, e183, e184, e185, e186, e187, e188⟩ := hp171
                have e173 : KpE cf7 cf170 := e173
                have hkz_e173 := e173.2
                have hkk37_e173 : (cf170 37).toInt = (cf7 37).toInt := (by rw [e173.1 37 (by decide) (by decide) (by decide) (by decide) (by decide)] <;> rfl)
                have hkk43_e173 : (cf170 43).toInt = (cf7 43).toInt := (by rw [e173.1 43 (by decide) (by decide) (by decide) (by decide) (by decide)] <;> rfl)
                have hkk44_e173 : (cf170 44).toInt = (cf7 44).toInt := (by rw [e173.1 44 (by decide) (by decide) (by decide) (by decide) (by decide)] <;> rfl)
                have hkk45_e173 : (cf170 45).toInt = (cf7 45).toInt := (by rw [e173.1 45 (by decide) (by decide) (by decide) (by decide) (by decide)] <;> rfl)
                have hkk41_e173 : (cf170 41).toInt = (cf7 41).toInt := (by rw [e173.1 41 (by decide) (by decide) (by decide) (by decide) (by decide)] <;> rfl)
                have hkk55_e173 : (cf170 55).toInt = (cf7 55).toInt := (by rw [e173.1 55 (by decide) (by decide) (by decide) (by decide) (by decide)] <;> rfl)
                have hkk59_e173 : (cf170 59).toInt = (cf7 59).toInt := (by rw [e173.1 59 (by decide) (by decide) (by decide) (by decide) (by decide)] <;> rfl)
                have hkk42_e173 : (cf170 42).toInt = (cf7 42).toInt := (by rw [e173.1 42 (by decide) (by decide) (by decide) (by decide) (by decide)] <;> rfl)
                have hkk54_e173 : (cf170 54).toInt = (cf7 54).toInt := (by rw [e173.1 54 (by decide) (by decide) (by decide) (by decide) (by decide)] <;> rfl)
                have hkk58_e173 : (cf170 58).toInt = (cf7 58).toInt := (by rw [e173.1 58 (by decide) (by decide) (by decide) (by decide) (by decide)] <;> rfl)
                have e174 : WrV cf170 (tf 6).toInt := e174
                have hwr := e174
                have hw0_e174 := hwr.1
                have e175 : (cf170 33).toInt = (cf7 33).toInt := e175
                have e176 : (cf170 38).toInt = (cf7 38).toInt := e176
                have e177 : (cf170 48).toInt = (cf7 48).toInt := e177
                have e178 : (cf170 46).toInt = (cf7 46).toInt := e178
                have e179 : (cf170 47).toInt = (cf7 47).toInt := e179
                have e180 : (cf170 57).toInt = (cf7 57).toInt := e180
                have e181 : Ann na ma0 ma169 := e181
                have han := e181
                have e182 : FrC (x7_3.toInt + 1) md3 ma_7 ma169 := e182
                have hfc := hfc.tr e182 (by omega) (by omega)
                have hzts : ZTs cf170 ta ca_7 na ma0 (cf170 48).toInt ys nf ma169 lo mid_7 (na 17 p0.toNatClampNeg) x7_3 tv := ZTs.tr hzts (fun q => by omega) e182 (by omega) (CaG.rf (kn := 0) (ns := 5000)) (by omega) (by omega)
                have e183 : 0 ≤ v172.toInt := e183
                have e184 : v172.toInt ≤ 4 := e184
                have e185 : NmJ ta ca_7 na ma169 (cf7 33).toInt z166 v172.toInt := e185
                have e186 : ZTy cf170 (Gk ta ca_7 na ma0 (cf7 48).toInt ys nf) na ma169 (x7_3.toInt + 1) md3 z166 v172.toInt := e186
                have e187 : ZNm cf170 (1 : Int) v172.toInt := e187
                have hty_z166 : ZTe cf170 ta ca_7 na ma0 (cf170 48).toInt ys nf ma169 (x7_3.toInt + 1) md3 z166 0 := ZTe.to (t := 0) (ZTy.num e186 e187) (fun q => by omega) (by omega) (Int.le_refl _) (Int.le_refl _) rfl
                have e188 : RL_mp_check d tf ta na ca_7 z166 (1 : Int32) ma_7 cf7 ma169 cf170 v172 := e188
                have e188X : RX_mp_check tf ta na ca_7 z166 (1 : Int32) ma_7 cf7 ma169 cf170 v172 := ⟨d, e188⟩
                have lv172 := Int32.le_toInt v172
                have uv172 := Int32.toInt_lt v172
                refine lv_pop S.x S.b d_Mpg_declare_172 rfl ?_
                refine lv_aload_n S.x S.b d_Mpg_declare_173 rfl (lv_at hl 1 rfl) ?_
                refine lv_dup S.x S.b d_Mpg_declare_174 rfl ?_
                refine gP_42 (v := (cf170 42)) S hT hw 0 rfl rfl m10_33 d_Mpg_declare_175 ?_
                refine lv_iconst (v := 1) S.x S.b d_Mpg_declare_178 (by decide) ?_
                refine lv_iadd S.x S.b d_Mpg_declare_179 ?_
                have lr189 := Int32.le_toInt (cf170 42)
                have ur189 := Int32.toInt_lt (cf170 42)
                refine lv_topi (fun z190 ez190 => ?_)
                have tz190 : z190.toInt = ((cf170 42).toInt + (1 : Int) + 2147483648) % 4294967296 - 2147483648 := by rw [ez190]; exact i_add (cf170 42) 1
                have lz190 := Int32.le_toInt z190
                have uz190 := Int32.toInt_lt z190
                try replace tz190 : z190.toInt = (cf170 42).toInt + (1 : Int) := by omega
                refine pP_42 S hT hw 0 rfl m10_33 rfl rfl rfl d_Mpg_declare_180 (ps' := [wdP cs h r g tf ta pf na ma169 wa (upd cf170 42 z190) ca_7 ef ea xf xa]) rfl (fun H locs hw => ?_)
                refine lv_aload_n S.x S.b d_Mpg_declare_183 rfl (lv_at hl 1 rfl) ?_
                refine gP_20 S hT hw 0 rfl m10_6 d_Mpg_declare_184 ?_
                refine lv_iload_n S.x S.b d_Mpg_declare_187 rfl (lv_at hl 4 rfl) ?_
                refine lv_aload_n S.x S.b d_Mpg_declare_188 rfl (lv_at hl 1 rfl) ?_
                refine lv_aload_n S.x S.b d_Mpg_declare_189 rfl (lv_at hl 1 rfl) ?_
                refine gP_22 S hT hw 0 rfl m10_9 d_Mpg_declare_190 ?_
                refine lv_iload_n S.x S.b d_Mpg_declare_193 rfl (lv_at hl 2 rfl) ?_
                refine px_iald S hT hw 0 18 (n := 2100) (f := (ma169 22)) rfl gp_22 (x := p0) (vp_in_iff.mpr (by first | exact oz_a7e05de1cd g23 g25 g1 g2 | (constructor <;> omega))) d_Mpg_declare_194 ?_
                refine lv_topi (fun z191 ez191 => ?_)
                have lz191 := Int32.le_toInt z191
                have uz191 := Int32.toInt_lt z191
                have rz191 : z191.toInt = (ma0 22 p0.toNatClampNeg).toInt := (by rw [ez191, Ann.v22 han (by omega)])
                refine lv_iconst (v := 1) S.x S.b d_Mpg_declare_195 (by decide) ?_
                refine lv_icmp_ne (tgt := 203) S.x S.b d_Mpg_declare_196 (by decide) (fun c192 => ?_) (fun c192 => ?_)
                · have nc192 : ¬ z191.toInt = (1 : Int) := mt (i_eq (x := z191) (y := 1)).mpr c192
                  refine lv_iconst (v := 0) S.x S.b d_Mpg_declare_203 (by decide) ?_
                  refine lv_iconst (v := 1) S.x S.b d_Mpg_declare_204 (by decide) ?_
                  first | refine px_calli (pr := []) (px_runV (As := [.int 0, .int 1]) (rest := [.int x7_3, .ref (r 20)]) S (c_mp_lay l D cs h r g tf ta pf na ma169 wa ef ea xf xa (upd cf170 42 z190) ca_7 0 1  (show 0 ≤ (cf170 48).toInt from (oz_34de85669e e177 e14 k7_20 g14 g15 k7_16 k7_18)) (show (cf170 48).toInt < 1100 from (oz_75b62dc8f3 e177 e14 k7_15 g8 k7_31)) (show 0 ≤ (0 : Int) from oz_5a341f00aa) (show (0 : Int) ≤ 5 from oz_01b865b26c) (show 0 ≤ (1 : Int) from oz_19c3a41681) (show (1 : Int) ≤ 4096 from oz_79b5d9fede) (show 0 ≤ (cf170 54).toInt from (oz_9bcc310e9c hkk54_e173 e23 k7_16 g12)) (show (cf170 54).toInt ≤ 40000000 from (oz_17a0157d43 hkk54_e173 e23 k7_19 g8 g13 k7_15 k7_31)) htk _) hT (pr := []) (pcs := [wdP cs h r g tf ta pf na ma169 wa (upd cf170 42 z190) ca_7 ef ea xf xa]) hw px_X.tt (px_recv hT hw 0 0 rfl rfl rfl) m12_189 m12_186 m12_188 ms_12_0 m1_21 q_Mpg_lay ⟨show 0 + 1 ≤ (4 * d + 22) from (oz_c3745992a4), show 8 + (3 + 11) + 0 ≤ (200 * d + 780) from (oz_f51a49eea8)⟩ hl.1 rfl (Nat.le_of_ble_eq_true rfl) d_Mpg_declare_205 ⟨Nat.le_of_ble_eq_true rfl, Nat.le_of_ble_eq_true rfl⟩) hw hA (fun v199 p198 H locs hp198 hw => ?_) | (refine px_calli (pr := []) (px_runV (As := [.int 0, .int 1]) (rest := [.int x7_3, .ref (r 20)]) S (c_mp_lay l D cs h r g tf ta pf na ma169 wa ef ea xf xa (upd cf170 42 z190) ca_7 0 1  (show 0 ≤ (cf170 48).toInt from by first | exact oz_34de85669e e177 e14 k7_20 g14 g15 k7_16 k7_18 | omega) (show (cf170 48).toInt < 1100 from by first | exact oz_75b62dc8f3 e177 e14 k7_15 g8 k7_31 | omega) (show 0 ≤ (0 : Int) from by first | exact oz_5a341f00aa | omega) (show (0 : Int) ≤ 5 from by first | exact oz_01b865b26c | omega) (show 0 ≤ (1 : Int) from by first | exact oz_19c3a41681 | omega) (show (1 : Int) ≤ 4096 from by first | exact oz_79b5d9fede | omega) (show 0 ≤ (cf170 54).toInt from by first | exact oz_9bcc310e9c hkk54_e173 e23 k7_16 g12 | omega) (show (cf170 54).toInt ≤ 40000000 from by first | exact oz_17a0157d43 hkk54_e173 e23 k7_19 g8 g13 k7_15 k7_31 | omega) htk _) hT (pr := []) (pcs := [wdP cs h r g tf ta pf na ma169 wa (upd cf170 42 z190) ca_7 ef ea xf xa]) hw px_X.tt (px_recv hT hw 0 0 rfl rfl rfl) m12_189 m12_186 m12_188 ms_12_0 m1_21 q_Mpg_lay ⟨show 0 + 1 ≤ (4 * d + 22) from (by first | exact oz_c3745992a4 | omega), show 8 + (3 + 11) + 0 ≤ (200 * d + 780) from (by first | exact oz_f51a49eea8 | omega)⟩ hl.1 rfl (Nat.le_of_ble_eq_true rfl) d_Mpg_declare_205 ⟨Nat.le_of_ble_eq_true rfl, Nat.le_of_ble_eq_true rfl⟩) hw hA (fun v199 p198 H locs hp198 hw => ?_))
                  obtain ⟨cf196, ca197, rfl, e200, e201, e202, e203, e204, e205, e206, e207, e208, e209, e210, e211, e212, e213, e214, e215, e216, e217, e218, e219, e220, e221, e222, e223⟩ := hp198
                  have e200 : v199.toInt = (cf170 48).toInt := e200
                  have e201 : (cf196 48).toInt = (cf170 48).toInt + 1 := e201
                  have e202 : (cf170 54).toInt ≤ (cf196 54).toInt := e202
                  have e203 : (cf196 54).toInt ≤ (cf170 54).toInt + 4096 := e203
                  have e204 : (0 : Int) ≤ 3 → (cf196 54).toInt = (cf170 54).toInt + (1 : Int) := e204
                  have e205 : 4 ≤ (0 : Int) → (cf196 54).toInt = (cf170 54).toInt + 2 := e205
                  have e206 : (cf196 30).toInt = (cf170 30).toInt := e206
                  have e207 : (cf196 31).toInt = (cf170 31).toInt := e207
                  have e208 : (cf196 33).toInt = (cf170 33).toInt := e208
                  have e209 : (cf196 37).toInt = (cf170 37).toInt := e209
                  have e210 : (cf196 38).toInt = (cf170 38).toInt := e210
                  have e211 : (cf196 41).toInt = (cf170 41).toInt := e211
                  have e212 : (cf196 42).toInt = z190.toInt := e212
                  have e213 : (cf196 43).toInt = (cf170 43).toInt := e213
                  have e214 : (cf196 44).toInt = (cf170 44).toInt := e214
                  have e215 : (cf196 45).toInt = (cf170 45).toInt := e215
                  have e216 : (cf196 46).toInt = (cf170 46).toInt := e216
                  have e217 : (cf196 47).toInt = (cf170 47).toInt := e217
                  have e218 : (cf196 55).toInt = (cf170 55).toInt := e218
                  have e219 : (cf196 57).toInt = (cf170 57).toInt := e219
                  have e220 : (cf196 58).toInt = (cf170 58).toInt := e220
                  have e221 : (cf196 59).toInt = (cf170 59).toInt := e221
                  have e222 : LyU ca_7 ca197 (cf170 48) (0 : Int32) (cf170 54) (1 : Int32) (txo (cf170 43).toInt) := e222
                  have hlu : LyU ca_7 ca197 (cf170 48) (0 : Int32) (cf170 54) (1 : Int32) tx := (by rw [← htx]; exact (by rw [show (cf 43).toInt = (cf170 43).toInt by omega]; exact e222))
                  have hcl_e222 : CaG ca_7 ca197 (cf196 33).toInt (cf170 48).toInt := cag_ly hlu (by omega) (by omega)
                  have hsr : SyR ca197 ys (cf196 48).toInt (cf196 54).toInt tx := SyR.eq (SyR.ly (cells' := (cf196 54).toInt) (SyR.eq hsr (ns' := (cf170 48).toInt) (by omega) rfl) hlu rfl (by omega) (by omega) (by omega) ⟨by omega, by omega⟩ ⟨by omega, by omega⟩ (fun q => by omega) (fun q => by omega) (fun q => by omega)) (by omega) rfl
                  have hkt := hkt.cg hcl_e222 (by omega)
                  have hks := hks.cg hcl_e222 (by omega) (by omega) (n2 := (cf196 48).toInt) (by omega)
                  have hcg := hcg.tr hcl_e222 (by omega) (by omega)
                  have hft := hft.cg hcl_e222
                  have hfp := hfp.cg hcl_e222
                  have hzts : ZTs cf196 ta ca197 na ma0 (cf196 48).toInt ys nf ma169 lo mid_7 (na 17 p0.toNatClampNeg) x7_3 tv := ZTs.tr hzts (fun q => by omega) (FrC.rf (lo := 0) (hi := 0)) (by omega) hcl_e222 (by omega) (by omega)
                  have hty_z166 : ZTe cf196 ta ca197 na ma0 (cf196 48).toInt ys nf ma169 (x7_3.toInt + 1) md3 z166 0 := ZTe.tr hty_z166 (fun q => by omega) (FrC.rf (lo := 0) (hi := 0)) (by omega) hcl_e222 (by omega) (by omega)
                  have hs49 : (ca197 49 (cf170 48).toNatClampNeg).toInt = (0 : Int) := (by rw [hlu.2.1 (by omega) (by omega)]; rfl)
                  have hs52 : (ca197 52 (cf170 48).toNatClampNeg).toInt = (1 : Int) := (by rw [hlu.2.2.2.1]; rfl)
                  have hsy : SyV ca197 (cf196 48).toInt ys (cf170 48) := hlu.sv (by omega) (by omega) ⟨by omega, by omega⟩ (by omega)
                  have hs3 : Sy3 ca197 (cf 48).toInt (cf196 48).toInt := Sy3.eq (Sy3.ly (Sy3.eq hs3 (b' := (cf170 48).toInt) (by omega)) hlu rfl (by omega) (by omega)) (by omega)
                  have e223 : R_mp_lay (0 : Int32) (1 : Int32) (upd cf170 42 z190) ca_7 cf196 ca197 v199 := e223
                  have hwr : WrV cf196 (tf 6).toInt := WrV.eq hwr (by omega) (by omega)
                  have lv199 := Int32.le_toInt v199
                  have uv199 := Int32.toInt_lt v199
                  have hyv : (cf170 48) = v199 := i_eq.mpr (by omega); rw [hyv] at hsy hs49 hs52
                  refine px_iast S hT hw 0 16 (n := 2100) (f := (ma169 20)) (x := x7_3) (y := v199) rfl gp_20 (vp_in_iff.mpr (by constructor <;> omega)) d_Mpg_declare_208 (w' := wdP cs h r g tf ta pf na (va_up ma169 20 (upd (ma169 20) x7_3.toNatClampNeg v199)) wa cf196 ca197 ef ea xf xa) (ps' := [wdP cs h r g tf ta pf na (va_up ma169 20 (upd (ma169 20) x7_3.toNatClampNeg v199)) wa cf196 ca197 ef ea xf xa]) sp_20 rfl (fun H locs hw => ?_)
                  obtain ⟨ma224, hu_ma224⟩ : ∃ y : Nat → Nat → Int32, y = va_up ma169 20 (upd (ma169 20) x7_3.toNatClampNeg v199) := ⟨_, rfl⟩
                  have hw : pw D A s.heap _ _ [wdP cs h r g tf ta pf na ma224 wa cf196 ca197 ef ea xf xa] := (by rw [hu_ma224]; exact hw)
                  have hf1_ma224 : FrC x7_3.toInt (x7_3.toInt + 1) ma169 ma224 := (by rw [hu_ma224]; exact FrC.w FrC.rf (by omega) (by omega) (by omega))
                  have han : Ann na ma0 ma224 := (by rw [hu_ma224]; exact Ann.w20 han (by omega))
                  have hfc := hfc.tr hf1_ma224 (by omega) (by omega)
                  have hzts : ZTs cf196 ta ca197 na ma0 (cf196 48).toInt ys nf ma224 lo mid_7 (na 17 p0.toNatClampNeg) x7_3 tv := ZTs.tr hzts (fun q => by omega) hf1_ma224 (by omega) (CaG.rf (kn := 0) (ns := 5000)) (by omega) (by omega)
                  have hty_z166 : ZTe cf196 ta ca197 na ma0 (cf196 48).toInt ys nf ma224 (x7_3.toInt + 1) md3 z166 0 := ZTe.tr hty_z166 (fun q => by omega) hf1_ma224 (by omega) (CaG.rf (kn := 0) (ns := 5000)) (by omega) (by omega)
                  have hv_20_x7_3 : ma224 20 x7_3.toNatClampNeg = v199 := (by rw [hu_ma224, va_up_s, pk_us])
                  have hnhv_20_x7_3 : (ma224 20 x7_3.toNatClampNeg).toInt = v199.toInt := (by rw [hv_20_x7_3])
                  refine lv_aload_n S.x S.b d_Mpg_declare_209 rfl (lv_at hl 1 rfl) ?_
                  refine lv_iload S.x S.b d_Mpg_declare_210 (lv_at hl 0 rfl) ?_
                  refine lv_iconst (v := 1) S.x S.b d_Mpg_declare_212 (by decide) ?_
                  refine lv_iconst (v := 0) S.x S.b d_Mpg_declare_213 (by decide) ?_
                  refine lv_aload_n S.x S.b d_Mpg_declare_214 rfl (lv_at hl 1 rfl) ?_
                  refine gP_20 S hT hw 0 rfl m10_6 d_Mpg_declare_215 ?_
                  refine lv_iload_n S.x S.b d_Mpg_declare_218 rfl (lv_at hl 4 rfl) ?_
                  refine px_iald S hT hw 0 16 (n := 2100) (f := (ma224 20)) rfl gp_20 (x := x7_3) (vp_in_iff.mpr (by constructor <;> omega)) d_Mpg_declare_219 ?_
                  refine lv_topi (fun z225 ez225 => ?_)
                  have lz225 := Int32.le_toInt z225
                  have uz225 := Int32.toInt_lt z225
                  have hsz225 : v199 = z225 := (ez225.trans hv_20_x7_3).symm; subst hsz225
                  first | refine px_callv (pr := []) (px_runV (As := [.int z5, .int 1, .int 0, .int v199]) (rest := []) S (c_mp_know l D cs h r g tf ta pf na ma224 wa ef ea xf xa cf196 ca197 z5 1 0 v199  (show 0 ≤ (cf196 33).toInt from (oz_eb53d9d016 e208 e175 e12 k7_12 g4)) (show (cf196 33).toInt < 1100 from (oz_3ef51c39d5 e208 e175 e12 k7_13 g6 k7_31)) htk _) hT (pr := []) (pcs := [wdP cs h r g tf ta pf na ma224 wa cf196 ca197 ef ea xf xa]) hw px_X.tt (px_recv hT hw 0 0 rfl rfl rfl) m12_193 m12_190 m12_192 ms_12_1 m1_21 q_Mpg_know ⟨show 0 + 1 ≤ (4 * d + 22) from (oz_c3745992a4), show 8 + (5 + 11) + 0 ≤ (200 * d + 780) from (oz_7102db9304)⟩ hl.1 rfl (Nat.le_of_ble_eq_true rfl) d_Mpg_declare_220 ⟨Nat.le_of_ble_eq_true rfl, Nat.le_of_ble_eq_true rfl⟩) hw hA (fun p230 H locs hp230 hw => ?_) | (refine px_callv (pr := []) (px_runV (As := [.int z5, .int 1, .int 0, .int v199]) (rest := []) S (c_mp_know l D cs h r g tf ta pf na ma224 wa ef ea xf xa cf196 ca197 z5 1 0 v199  (show 0 ≤ (cf196 33).toInt from by first | exact oz_eb53d9d016 e208 e175 e12 k7_12 g4 | omega) (show (cf196 33).toInt < 1100 from by first | exact oz_3ef51c39d5 e208 e175 e12 k7_13 g6 k7_31 | omega) htk _) hT (pr := []) (pcs := [wdP cs h r g tf ta pf na ma224 wa cf196 ca197 ef ea xf xa]) hw px_X.tt (px_recv hT hw 0 0 rfl rfl rfl) m12_193 m12_190 m12_192 ms_12_1 m1_21 q_Mpg_know ⟨show 0 + 1 ≤ (4 * d + 22) from (by first | exact oz_c3745992a4 | omega), show 8 + (5 + 11) + 0 ≤ (200 * d + 780) from (by first | exact oz_7102db9304 | omega)⟩ hl.1 rfl (Nat.le_of_ble_eq_true rfl) d_Mpg_declare_220 ⟨Nat.le_of_ble_eq_true rfl, Nat.le_of_ble_eq_true rfl⟩) hw hA (fun p230 H locs hp230 hw => ?_))
                  obtain ⟨cf228, ca229, rfl, e232, e233, e234, e235, e236, e237, e238, e239, e240, e241, e242, e243, e244, e245, e246, e247, e248, e249, e250, e251⟩ := hp230
                  have e232 : (cf228 33).toInt = (cf196 33).toInt + 1 := e232
                  have e233 : (cf228 30).toInt = (cf196 30).toInt := e233
                  have e234 : (cf228 31).toInt = (cf196 31).toInt := e234
                  have e235 : (cf228 37).toInt = (cf196 37).toInt := e235
                  have e236 : (cf228 38).toInt = (cf196 38).toInt := e236
                  have e237 : (cf228 41).toInt = (cf196 41).toInt := e237
                  have e238 : (cf228 42).toInt = (cf196 42).toInt := e238
                  have e239 : (cf228 43).toInt = (cf196 43).toInt := e239
                  have e240 : (cf228 44).toInt = (cf196 44).toInt := e240
                  have e241 : (cf228 45).toInt = (cf196 45).toInt := e241
                  have e242 : (cf228 46).toInt = (cf196 46).toInt := e242
                  have e243 : (cf228 47).toInt = (cf196 47).toInt := e243
                  have e244 : (cf228 48).toInt = (cf196 48).toInt := e244
                  have e245 : (cf228 54).toInt = (cf196 54).toInt := e245
                  have e246 : (cf228 55).toInt = (cf196 55).toInt := e246
                  have e247 : (cf228 57).toInt = (cf196 57).toInt := e247
                  have e248 : (cf228 58).toInt = (cf196 58).toInt := e248
                  have e249 : (cf228 59).toInt = (cf196 59).toInt := e249
                  have e250 : KwU ca197 ca229 (cf196 33) z5 (1 : Int32) (0 : Int32) v199 := e250
                  have hcw_e250 : CaG ca197 ca229 (cf196 33).toInt (cf228 48).toInt := cag_kw e250 (by omega) (by omega)
                  have hkt : KnT (tf 6).toInt ca229 (cf228 33).toInt := KnT.eq (KnT.kw (KnT.eq hkt (n' := (cf196 33).toInt) (by omega)) e250 rfl (by omega) (by omega) ⟨by omega, by omega⟩) (by omega)
                  have hks : KnS ca229 (cf228 33).toInt (cf228 48).toInt ys := KnS.eq (KnS.kw (KnS.eq hks (n' := (cf196 33).toInt) (by omega) rfl) e250 rfl (by omega) (Or.inl ⟨by omega, hsy⟩)) (by omega) (by omega)
                  have hcg := hcg.tr hcw_e250 (by omega) (by omega)
                  have hft := hft.cg hcw_e250
                  have hfp := hfp.cg hcw_e250
                  have hsr := hsr.cg hcw_e250 (by omega)
                  have hzts : ZTs cf228 ta ca229 na ma0 (cf228 48).toInt ys nf ma224 lo mid_7 (na 17 p0.toNatClampNeg) x7_3 tv := ZTs.tr hzts (fun q => by omega) (FrC.rf (lo := 0) (hi := 0)) (by omega) hcw_e250 (by omega) (by omega)
                  have hty_z166 : ZTe cf228 ta ca229 na ma0 (cf228 48).toInt ys nf ma224 (x7_3.toInt + 1) md3 z166 0 := ZTe.tr hty_z166 (fun q => by omega) (FrC.rf (lo := 0) (hi := 0)) (by omega) hcw_e250 (by omega) (by omega)
                  have hs3 : Sy3 ca229 (cf 48).toInt (cf228 48).toInt := Sy3.eq (hs3.cg hcw_e250 (by omega)) (by omega)
                  have hsb_e250 := hsy.1.1
                  first | have hcy_e250 := cl_nat (x := v199) ((oz_f3ebed1ad0 e200 hsb_e250.1)) | (have hcy_e250 := cl_nat (x := v199) (by first | exact oz_f3ebed1ad0 e200 hsb_e250.1 | omega))
                  have hs49 : (ca229 49 v199.toNatClampNeg).toInt = _ := (congrArg Int32.toInt (hcw_e250.2.2 _ (by omega)).1).trans hs49
                  have hs52 : (ca229 52 v199.toNatClampNeg).toInt = _ := (congrArg Int32.toInt (hcw_e250.2.2 _ (by omega)).2.2.2).trans hs52
                  have hsy : SyV ca229 (cf228 48).toInt ys v199 := hsy.cg hcw_e250 (by omega) (by omega)
                  have e251 : R_mp_know z5 (1 : Int32) (0 : Int32) v199 cf196 ca197 cf228 ca229 := e251
                  have hwr : WrV cf228 (tf 6).toInt := WrV.eq hwr (by omega) (by omega)
                  refine lv_aload_n S.x S.b d_Mpg_declare_223 rfl (lv_at hl 1 rfl) ?_
                  refine gP_21 S hT hw 0 rfl m10_7 d_Mpg_declare_224 ?_
                  refine lv_iload_n S.x S.b d_Mpg_declare_227 rfl (lv_at hl 4 rfl) ?_
                  refine px_iald S hT hw 0 17 (n := 2100) (f := (na 21)) rfl gp_21 (x := x7_3) (vp_in_iff.mpr (by constructor <;> omega)) d_Mpg_declare_228 ?_
                  refine lv_topi (fun z252 ez252 => ?_)
                  have lz252 := Int32.le_toInt z252
                  have uz252 := Int32.toInt_lt z252
                  refine lv_istore_n (lv' := [(3, .int z252), (4, .int z5), (0, .ref h), (1, .int p0), (2, .int p1)]) S.x S.b d_Mpg_declare_229 rfl hl (by decide) rfl (fun ls hl => ?_)
                  refine lv_goto (tgt := 7) S.x S.b d_Mpg_declare_230 (by decide) ?_
                  first | exact ih7 ma224 cf228 ca229 md3 (wr_7 - wv4) z252 _ _ ls (show (cf228 30).toInt = 0 → (cf 30).toInt = 0 from by omega) (show WrV cf228 (tf 6).toInt from hwr) (show (cf228 37).toInt = (cf 37).toInt from (oz_0867352dd7 k7_2 e235 e18 e209 hkk37_e173)) (show (cf228 38).toInt = (cf 38).toInt from (oz_0867352dd7 k7_3 e236 e13 e210 e176)) (show (cf228 43).toInt = (cf 43).toInt from (oz_0867352dd7 k7_4 e239 e20 e213 hkk43_e173)) (show (cf228 44).toInt = (cf 44).toInt from (oz_0867352dd7 k7_5 e240 e21 e214 hkk44_e173)) (show (cf228 45).toInt = (cf 45).toInt from (oz_0867352dd7 k7_6 e241 e22 e215 hkk45_e173)) (show (cf228 46).toInt = (cf 46).toInt from (oz_0867352dd7 k7_7 e242 e15 e216 e178)) (show (cf228 47).toInt = (cf 47).toInt from (oz_0867352dd7 k7_8 e243 e16 e217 e179)) (show (cf228 41).toInt = (cf 41).toInt from (oz_0867352dd7 k7_9 e237 e27 e211 hkk41_e173)) (show (cf228 55).toInt = (cf 55).toInt from (oz_0867352dd7 k7_10 e246 e24 e218 hkk55_e173)) (show (cf228 59).toInt = (cf 59).toInt from (oz_0867352dd7 k7_11 e249 e26 e221 hkk59_e173)) (show (cf 33).toInt ≤ (cf228 33).toInt from (oz_a101ed4aa6 k7_12 e232 e12 e208 e175)) (show 6 * (cf228 33).toInt ≤ 6 * (cf 33).toInt + (w - (wr_7 - wv4)) from by omega) (show (cf 48).toInt ≤ (cf228 48).toInt from (oz_788511b878 k7_20 e244 k7_16 k7_18 e14 hsb_e250.2 e177)) (show 6 * (cf228 48).toInt ≤ 6 * (cf 48).toInt + (w - (wr_7 - wv4)) from by omega) (show (cf 54).toInt ≤ (cf228 54).toInt from (oz_39bc41608f k7_16 e245 e23 e202 hkk54_e173)) (show (cf 42).toInt ≤ (cf228 42).toInt from (oz_47ce8e110c k7_18 e238 k7_16 e19 e212 hkk42_e173 tz190)) (show (cf228 54).toInt - (cf 54).toInt ≤ 4 * ((cf228 42).toInt - (cf 42).toInt) from (oz_0159125df4 k7_18 e238 e245 e19 e23 e212 e204 hkk42_e173 hkk54_e173 tz190)) (show (cf228 54).toInt - (cf 54).toInt ≤ 4096 * ((cf228 48).toInt - (cf 48).toInt) from (oz_0e3be830c4 k7_19 e244 e245 e14 e23 e203 hsb_e250.2 e177 hkk54_e173)) (show (cf228 42).toInt - (cf 42).toInt ≤ 4096 * ((cf228 48).toInt - (cf 48).toInt) from (oz_f6b9fff360 k7_20 e238 e244 e14 e19 e212 hsb_e250.2 e177 hkk42_e173 tz190)) (show KnT (tf 6).toInt ca229 (cf228 33).toInt from (KnT.eq hkt (by omega))) (show KnS ca229 (cf228 33).toInt (cf228 48).toInt ys from (KnS.eq hks (by omega) (by omega))) (show CaG ca ca229 (cf 33).toInt (cf 48).toInt from (hcg.le (by omega) (by omega))) (show SyR ca229 ys (cf228 48).toInt (cf228 54).toInt tx from (SyR.eq hsr (by omega) (by omega))) (show Ann na ma0 ma224 from han) (show FrC lo hi ma ma224 from hfc) (show Sy3 ca229 (cf 48).toInt (cf228 48).toInt from (Sy3.eq hs3 (by omega))) (show lo ≤ md3 from hm1_md3) (show p0.toInt + 1 ≤ md3 from by omega) (show md3 ≤ hi from hm2_md3) (show 0 ≤ (wr_7 - wv4) from by omega) (show (wr_7 - wv4) ≤ w from by omega) (show RvV ta (tf 6).toInt na ma0 d md3 hi (wr_7 - wv4) z252 from (by rw [ez252]; exact hrv2)) (show ZTs cf228 ta ca229 na ma0 (cf228 48).toInt ys nf ma224 lo md3 (na 17 p0.toNatClampNeg) z252 tv from (ZTs.nx (ZTs.to hzts (fun q => by omega) (by omega) (Int.le_refl _) (by omega) rfl) (show ZTe cf228 ta ca229 na ma0 (cf228 48).toInt ys nf ma224 lo md3 x7_3 tv from (fun zz => tyv_1 ⟨by omega, by omega, by omega⟩ (by omega) (by omega) (by rw [hv_20_x7_3]; exact hsy) (ha_z166.trans (Ann.v18 han (by omega)).symm) (Or.inr ⟨(by rw [Ann.v22 han (by omega)]; omega), (fun r9 => ((hty_z166 zz).le (by omega) (by omega)))⟩))) (by omega) ez252)) (show K_mp_declare_7 tf ta na p0 p1 ma cf ca ma224 cf228 ca229 z252 from (fun y_f0 y_f1 y_f2 k hE => k7_35 y_f0 y_f1 y_f2 (k + 1) (Or.inr (Or.inl ⟨rfl, x7_3, rfl, rfl, rfl, rfl, rfl, Or.inr ⟨nc1, z5, ez5, cf7, e28, z29, ez29, Or.inl ⟨nc30, z32, ez32, Or.inr ⟨nc33, Or.inl ⟨nc161, z163, ez163, nc164, z166, ez166, ma169, cf170, v172, e188X, z190, ez190, z191, ez191, Or.inl ⟨nc192, cf196, ca197, v199, e223, ma224, hu_ma224, v199, ez225, cf228, ca229, e251, z252, ez252, hE⟩⟩⟩⟩⟩⟩)))) (show hi - md3 < (n_7 : Int) from by omega) hw (lv_sub hl [2, 3, 4, 0] rfl) | (exact ih7 ma224 cf228 ca229 md3 (wr_7 - wv4) z252 _ _ ls (show (cf228 30).toInt = 0 → (cf 30).toInt = 0 from by omega) (show WrV cf228 (tf 6).toInt from hwr) (show (cf228 37).toInt = (cf 37).toInt from by first | exact oz_0867352dd7 k7_2 e235 e18 e209 hkk37_e173 | omega) (show (cf228 38).toInt = (cf 38).toInt from by first | exact oz_0867352dd7 k7_3 e236 e13 e210 e176 | omega) (show (cf228 43).toInt = (cf 43).toInt from by first | exact oz_0867352dd7 k7_4 e239 e20 e213 hkk43_e173 | omega) (show (cf228 44).toInt = (cf 44).toInt from by first | exact oz_0867352dd7 k7_5 e240 e21 e214 hkk44_e173 | omega) (show (cf228 45).toInt = (cf 45).toInt from by first | exact oz_0867352dd7 k7_6 e241 e22 e215 hkk45_e173 | omega) (show (cf228 46).toInt = (cf 46).toInt from by first | exact oz_0867352dd7 k7_7 e242 e15 e216 e178 | omega) (show (cf228 47).toInt = (cf 47).toInt from by first | exact oz_0867352dd7 k7_8 e243 e16 e217 e179 | omega) (show (cf228 41).toInt = (cf 41).toInt from by first | exact oz_0867352dd7 k7_9 e237 e27 e211 hkk41_e173 | omega) (show (cf228 55).toInt = (cf 55).toInt from by first | exact oz_0867352dd7 k7_10 e246 e24 e218 hkk55_e173 | omega) (show (cf228 59).toInt = (cf 59).toInt from by first | exact oz_0867352dd7 k7_11 e249 e26 e221 hkk59_e173 | omega) (show (cf 33).toInt ≤ (cf228 33).toInt from by first | exact oz_a101ed4aa6 k7_12 e232 e12 e208 e175 | omega) (show 6 * (cf228 33).toInt ≤ 6 * (cf 33).toInt + (w - (wr_7 - wv4)) from by omega) (show (cf 48).toInt ≤ (cf228 48).toInt from by first | exact oz_788511b878 k7_20 e244 k7_16 k7_18 e14 hsb_e250.2 e177 | omega) (show 6 * (cf228 48).toInt ≤ 6 * (cf 48).toInt + (w - (wr_7 - wv4)) from by omega) (show (cf 54).toInt ≤ (cf228 54).toInt from by first | exact oz_39bc41608f k7_16 e245 e23 e202 hkk54_e173 | omega) (show (cf 42).toInt ≤ (cf228 42).toInt from by first | exact oz_47ce8e110c k7_18 e238 k7_16 e19 e212 hkk42_e173 tz190 | omega) (show (cf228 54).toInt - (cf 54).toInt ≤ 4 * ((cf228 42).toInt - (cf 42).toInt) from by first | exact oz_0159125df4 k7_18 e238 e245 e19 e23 e212 e204 hkk42_e173 hkk54_e173 tz190 | omega) (show (cf228 54).toInt - (cf 54).toInt ≤ 4096 * ((cf228 48).toInt - (cf 48).toInt) from by first | exact oz_0e3be830c4 k7_19 e244 e245 e14 e23 e203 hsb_e250.2 e177 hkk54_e173 | omega) (show (cf228 42).toInt - (cf 42).toInt ≤ 4096 * ((cf228 48).toInt - (cf 48).toInt) from by first | exact oz_f6b9fff360 k7_20 e238 e244 e14 e19 e212 hsb_e250.2 e177 hkk42_e173 tz190 | omega) (show KnT (tf 6).toInt ca229 (cf228 33).toInt from (KnT.eq hkt (by omega))) (show KnS ca229 (cf228 33).toInt (cf228 48).toInt ys from (KnS.eq hks (by omega) (by omega))) (show CaG ca ca229 (cf 33).toInt (cf 48).toInt from (hcg.le (by omega) (by omega))) (show SyR ca229 ys (cf228 48).toInt (cf228 54).toInt tx from (SyR.eq hsr (by omega) (by omega))) (show Ann na ma0 ma224 from han) (show FrC lo hi ma ma224 from hfc) (show Sy3 ca229 (cf 48).toInt (cf228 48).toInt from (Sy3.eq hs3 (by omega))) (show lo ≤ md3 from by first | exact hm1_md3 | omega) (show p0.toInt + 1 ≤ md3 from by omega) (show md3 ≤ hi from by first | exact hm2_md3 | omega) (show 0 ≤ (wr_7 - wv4) from by omega) (show (wr_7 - wv4) ≤ w from by omega) (show RvV ta (tf 6).toInt na ma0 d md3 hi (wr_7 - wv4) z252 from (by rw [ez252]; exact hrv2)) (show ZTs cf228 ta ca229 na ma0 (cf228 48).toInt ys nf ma224 lo md3 (na 17 p0.toNatClampNeg) z252 tv from (ZTs.nx (ZTs.to hzts (fun q => by omega) (by omega) (Int.le_refl _) (by omega) rfl) (show ZTe cf228 ta ca229 na ma0 (cf228 48).toInt ys nf ma224 lo md3 x7_3 tv from (fun zz => tyv_1 ⟨by omega, by omega, by omega⟩ (by omega) (by omega) (by rw [hv_20_x7_3]; exact hsy) (ha_z166.trans (Ann.v18 han (by omega)).symm) (Or.inr ⟨(by rw [Ann.v22 han (by omega)]; omega), (fun r9 => ((hty_z166 zz).le (by omega) (by omega)))⟩))) (by omega) ez252)) (show K_mp_declare_7 tf ta na p0 p1 ma cf ca ma224 cf228 ca229 z252 from (fun y_f0 y_f1 y_f2 k hE => k7_35 y_f0 y_f1 y_f2 (k + 1) (Or.inr (Or.inl ⟨rfl, x7_3, rfl, rfl, rfl, rfl, rfl, Or.inr ⟨nc1, z5, ez5, cf7, e28, z29, ez29, Or.inl ⟨nc30, z32, ez32, Or.inr ⟨nc33, Or.inl ⟨nc161, z163, ez163, nc164, z166, ez166, ma169, cf170, v172, e188X, z190, ez190, z191, ez191, Or.inl ⟨nc192, cf196, ca197, v199, e223, ma224, hu_ma224, v199, ez225, cf228, ca229, e251, z252, ez252, hE⟩⟩⟩⟩⟩⟩)))) (show hi - md3 < (n_7 : Int) from by omega) hw (lv_sub hl [2, 3, 4, 0] rfl))
                · have nc192 : z191.toInt = (1 : Int) := (i_eq (x := z191) (y := 1)).mp c192
                  refine lv_iconst (v := 1) S.x S.b d_Mpg_declare_199 (by decide) ?_
                  refine lv_goto (tgt := 204) S.x S.b d_Mpg_declare_200 (by decide) ?_
                  refine lv_iconst (v := 1) S.x S.b d_Mpg_declare_204 (by decide) ?_
                  first | refine px_calli (pr := []) (px_runV (As := [.int 1, .int 1]) (rest := [.int x7_3, .ref (r 20)]) S (c_mp_lay l D cs h r g tf ta pf na ma169 wa ef ea xf xa (upd cf170 42 z190) ca_7 1 1  (show 0 ≤ (cf170 48).toInt from (oz_34de85669e e177 e14 k7_20 g14 g15 k7_16 k7_18)) (show (cf170 48).toInt < 1100 from (oz_75b62dc8f3 e177 e14 k7_15 g8 k7_31)) (show 0 ≤ (1 : Int) from oz_19c3a41681) (show (1 : Int) ≤ 5 from oz_abfa5d2d35) (show 0 ≤ (1 : Int) from oz_19c3a41681) (show (1 : Int) ≤ 4096 from oz_79b5d9fede) (show 0 ≤ (cf170 54).toInt from (oz_9bcc310e9c hkk54_e173 e23 k7_16 g12)) (show (cf170 54).toInt ≤ 40000000 from (oz_17a0157d43 hkk54_e173 e23 k7_19 g8 g13 k7_15 k7_31)) htk _) hT (pr := []) (pcs := [wdP cs h r g tf ta pf na ma169 wa (upd cf170 42 z190) ca_7 ef ea xf xa]) hw px_X.tt (px_recv hT hw 0 0 rfl rfl rfl) m12_189 m12_186 m12_188 ms_12_0 m1_21 q_Mpg_lay ⟨show 0 + 1 ≤ (4 * d + 22) from (oz_c3745992a4), show 8 + (3 + 11) + 0 ≤ (200 * d + 780) from (oz_f51a49eea8)⟩ hl.1 rfl (Nat.le_of_ble_eq_true rfl) d_Mpg_declare_205 ⟨Nat.le_of_ble_eq_true rfl, Nat.le_of_ble_eq_true rfl⟩) hw hA (fun v258 p257 H locs hp257 hw => ?_) | (refine px_calli (pr := []) (px_runV (As := [.int 1, .int 1]) (rest := [.int x7_3, .ref (r 20)]) S (c_mp_lay l D cs h r g tf ta pf na ma169 wa ef ea xf xa (upd cf170 42 z190) ca_7 1 1  (show 0 ≤ (cf170 48).toInt from by first | exact oz_34de85669e e177 e14 k7_20 g14 g15 k7_16 k7_18 | omega) (show (cf170 48).toInt < 1100 from by first | exact oz_75b62dc8f3 e177 e14 k7_15 g8 k7_31 | omega) (show 0 ≤ (1 : Int) from by first | exact oz_19c3a41681 | omega) (show (1 : Int) ≤ 5 from by first | exact oz_abfa5d2d35 | omega) (show 0 ≤ (1 : Int) from by first | exact oz_19c3a41681 | omega) (show (1 : Int) ≤ 4096 from by first | exact oz_79b5d9fede | omega) (show 0 ≤ (cf170 54).toInt from by first | exact oz_9bcc310e9c hkk54_e173 e23 k7_16 g12 | omega) (show (cf170 54).toInt ≤ 40000000 from by first | exact oz_17a0157d43 hkk54_e173 e23 k7_19 g8 g13 k7_15 k7_31 | omega) htk _) hT (pr := []) (pcs := [wdP cs h r g tf ta pf na ma169 wa (upd cf170 42 z190) ca_7 ef ea xf xa]) hw px_X.tt (px_recv hT hw 0 0 rfl rfl rfl) m12_189 m12_186 m12_188 ms_12_0 m1_21 q_Mpg_lay ⟨show 0 + 1 ≤ (4 * d + 22) from (by first | exact oz_c3745992a4 | omega), show 8 + (3 + 11) + 0 ≤ (200 * d + 780) from (by first | exact oz_f51a49eea8 | omega)⟩ hl.1 rfl (Nat.le_of_ble_eq_true rfl) d_Mpg_declare_205 ⟨Nat.le_of_ble_eq_true rfl, Nat.le_of_ble_eq_true rfl⟩) hw hA (fun v258 p257 H locs hp257 hw => ?_))
                  obtain ⟨cf255, ca256, rfl, e259, e260, e261, e262, e263, e264, e265, e266, e267, e268, e269, e270, e271, e272, e273, e274, e275, e276, e277, e278, e279, e280, e281, e282⟩ := hp257
                  have e259 : v258.toInt = (cf170 48).toInt := e259
                  have e260 : (cf255 48).toInt = (cf170 48).toInt + 1 := e260
                  have e261 : (cf170 54).toInt ≤ (cf255 54).toInt := e261
                  have e262 : (cf255 54).toInt ≤ (cf170 54).toInt + 4096 := e262
                  have e263 : (1 : Int) ≤ 3 → (cf255 54).toInt = (cf170 54).toInt + (1 : Int) := e263
                  have e264 : 4 ≤ (1 : Int) → (cf255 54).toInt = (cf170 54).toInt + 2 := e264
                  have e265 : (cf255 30).toInt = (cf170 30).toInt := e265
                  have e266 : (cf255 31).toInt = (cf170 31).toInt := e266
                  have e267 : (cf255 33).toInt = (cf170 33).toInt := e267
                  have e268 : (cf255 37).toInt = (cf170 37).toInt := e268
                  have e269 : (cf255 38).toInt = (cf170 38).toInt := e269
                  have e270 : (cf255 41).toInt = (cf170 41).toInt := e270
                  have e271 : (cf255 42).toInt = z190.toInt := e271
                  have e272 : (cf255 43).toInt = (cf170 43).toInt := e272
                  have e273 : (cf255 44).toInt = (cf170 44).toInt := e273
                  have e274 : (cf255 45).toInt = (cf170 45).toInt := e274
                  have e275 : (cf255 46).toInt = (cf170 46).toInt := e275
                  have e276 : (cf255 47).toInt = (cf170 47).toInt := e276
                  have e277 : (cf255 55).toInt = (cf170 55).toInt := e277
                  have e278 : (cf255 57).toInt = (cf170 57).toInt := e278
                  have e279 : (cf255 58).toInt = (cf170 58).toInt := e279
                  have e280 : (cf255 59).toInt = (cf170 59).toInt := e280
                  have e281 : LyU ca_7 ca256 (cf170 48) (1 : Int32) (cf170 54) (1 : Int32) (txo (cf170 43).toInt) := e281
                  have hlu : LyU ca_7 ca256 (cf170 48) (1 : Int32) (cf170 54) (1 : Int32) tx := (by rw [← htx]; exact (by rw [show (cf 43).toInt = (cf170 43).toInt by omega]; exact e281))
                  have hcl_e281 : CaG ca_7 ca256 (cf255 33).toInt (cf170 48).toInt := cag_ly hlu (by omega) (by omega)
                  have hsr : SyR ca256 ys (cf255 48).toInt (cf255 54).toInt tx := SyR.eq (SyR.ly (cells' := (cf255 54).toInt) (SyR.eq hsr (ns' := (cf170 48).toInt) (by omega) rfl) hlu rfl (by omega) (by omega) (by omega) ⟨by omega, by omega⟩ ⟨by omega, by omega⟩ (fun q => by omega) (fun q => by omega) (fun q => by omega)) (by omega) rfl
                  have hkt := hkt.cg hcl_e281 (by omega)
                  have hks := hks.cg hcl_e281 (by omega) (by omega) (n2 := (cf255 48).toInt) (by omega)
                  have hcg := hcg.tr hcl_e281 (by omega) (by omega)
                  have hft := hft.cg hcl_e281
                  have hfp := hfp.cg hcl_e281
                  have hzts : ZTs cf255 ta ca256 na ma0 (cf255 48).toInt ys nf ma169 lo mid_7 (na 17 p0.toNatClampNeg) x7_3 tv := ZTs.tr hzts (fun q => by omega) (FrC.rf (lo := 0) (hi := 0)) (by omega) hcl_e281 (by omega) (by omega)
                  have hty_z166 : ZTe cf255 ta ca256 na ma0 (cf255 48).toInt ys nf ma169 (x7_3.toInt + 1) md3 z166 0 := ZTe.tr hty_z166 (fun q => by omega) (FrC.rf (lo := 0) (hi := 0)) (by omega) hcl_e281 (by omega) (by omega)
                  have hs49 : (ca256 49 (cf170 48).toNatClampNeg).toInt = (1 : Int) := (by rw [hlu.2.1 (by omega) (by omega)]; rfl)
                  have hs52 : (ca256 52 (cf170 48).toNatClampNeg).toInt = (1 : Int) := (by rw [hlu.2.2.2.1]; rfl)
                  have hsy : SyV ca256 (cf255 48).toInt ys (cf170 48) := hlu.sv (by omega) (by omega) ⟨by omega, by omega⟩ (by omega)
                  have hs3 : Sy3 ca256 (cf 48).toInt (cf255 48).toInt := Sy3.eq (Sy3.ly (Sy3.eq hs3 (b' := (cf170 48).toInt) (by omega)) hlu rfl (by omega) (by omega)) (by omega)
                  have e282 : R_mp_lay (1 : Int32) (1 : Int32) (upd cf170 42 z190) ca_7 cf255 ca256 v258 := e282
                  have hwr : WrV cf255 (tf 6).toInt := WrV.eq hwr (by omega) (by omega)
                  have lv258 := Int32.le_toInt v258
                  have uv258 := Int32.toInt_lt v258
                  have hyv : (cf170 48) = v258 := i_eq.mpr (by omega); rw [hyv] at hsy hs49 hs52
                  refine px_iast S hT hw 0 16 (n := 2100) (f := (ma169 20)) (x := x7_3) (y := v258) rfl gp_20 (vp_in_iff.mpr (by constructor <;> omega)) d_Mpg_declare_208 (w' := wdP cs h r g tf ta pf na (va_up ma169 20 (upd (ma169 20) x7_3.toNatClampNeg v258)) wa cf255 ca256 ef ea xf xa) (ps' := [wdP cs h r g tf ta pf na (va_up ma169 20 (upd (ma169 20) x7_3.toNatClampNeg v258)) wa cf255 ca256 ef ea xf xa]) sp_20 rfl (fun H locs hw => ?_)
                  obtain ⟨ma283, hu_ma283⟩ : ∃ y : Nat → Nat → Int32, y = va_up ma169 20 (upd (ma169 20) x7_3.toNatClampNeg v258) := ⟨_, rfl⟩
                  have hw : pw D A s.heap _ _ [wdP cs h r g tf ta pf na ma283 wa cf255 ca256 ef ea xf xa] := (by rw [hu_ma283]; exact hw)
                  have hf1_ma283 : FrC x7_3.toInt (x7_3.toInt + 1) ma169 ma283 := (by rw [hu_ma283]; exact FrC.w FrC.rf (by omega) (by omega) (by omega))
                  have han : Ann na ma0 ma283 := (by rw [hu_ma283]; exact Ann.w20 han (by omega))
                  have hfc := hfc.tr hf1_ma283 (by omega) (by omega)
                  have hzts : ZTs cf255 ta ca256 na ma0 (cf255 48).toInt ys nf ma283 lo mid_7 (na 17 p0.toNatClampNeg) x7_3 tv := ZTs.tr hzts (fun q => by omega) hf1_ma283 (by omega) (CaG.rf (kn := 0) (ns := 5000)) (by omega) (by omega)
                  have hty_z166 : ZTe cf255 ta ca256 na ma0 (cf255 48).toInt ys nf ma283 (x7_3.toInt + 1) md3 z166 0 := ZTe.tr hty_z166 (fun q => by omega) hf1_ma283 (by omega) (CaG.rf (kn := 0) (ns := 5000)) (by omega) (by omega)
                  have hv_20_x7_3 : ma283 20 x7_3.toNatClampNeg = v258 := (by rw [hu_ma283, va_up_s, pk_us])
                  have hnhv_20_x7_3 : (ma283 20 x7_3.toNatClampNeg).toInt = v258.toInt := (by rw [hv_20_x7_3])
                  refine lv_aload_n S.x S.b d_Mpg_declare_209 rfl (lv_at hl 1 rfl) ?_
                  refine lv_iload S.x S.b d_Mpg_declare_210 (lv_at hl 0 rfl) ?_
                  refine lv_iconst (v := 1) S.x S.b d_Mpg_declare_212 (by decide) ?_
                  refine lv_iconst (v := 0) S.x S.b d_Mpg_declare_213 (by decide) ?_
                  refine lv_aload_n S.x S.b d_Mpg_declare_214 rfl (lv_at hl 1 rfl) ?_
                  refine gP_20 S hT hw 0 rfl m10_6 d_Mpg_declare_215 ?_
                  refine lv_iload_n S.x S.b d_Mpg_declare_218 rfl (lv_at hl 4 rfl) ?_
                  refine px_iald S hT hw 0 16 (n := 2100) (f := (ma283 20)) rfl gp_20 (x := x7_3) (vp_in_iff.mpr (by constructor <;> omega)) d_Mpg_declare_219 ?_
                  refine lv_topi (fun z284 ez284 => ?_)
                  have lz284 := Int32.le_toInt z284
                  have uz284 := Int32.toInt_lt z284
                  have hsz284 : v258 = z284 := (ez284.trans hv_20_x7_3).symm; subst hsz284
                  first | refine px_callv (pr := []) (px_runV (As := [.int z5, .int 1, .int 0, .int v258]) (rest := []) S (c_mp_know l D cs h r g tf ta pf na ma283 wa ef ea xf xa cf255 ca256 z5 1 0 v258  (show 0 ≤ (cf255 33).toInt from (oz_eb53d9d016 e267 e175 e12 k7_12 g4)) (show (cf255 33).toInt < 1100 from (oz_3ef51c39d5 e267 e175 e12 k7_13 g6 k7_31)) htk _) hT (pr := []) (pcs := [wdP cs h r g tf ta pf na ma283 wa cf255 ca256 ef ea xf xa]) hw px_X.tt (px_recv hT hw 0 0 rfl rfl rfl) m12_193 m12_190 m12_192 ms_12_1 m1_21 q_Mpg_know ⟨show 0 + 1 ≤ (4 * d + 22) from (oz_c3745992a4), show 8 + (5 + 11) + 0 ≤ (200 * d + 780) from (oz_7102db9304)⟩ hl.1 rfl (Nat.le_of_ble_eq_true rfl) d_Mpg_declare_220 ⟨Nat.le_of_ble_eq_true rfl, Nat.le_of_ble_eq_true rfl⟩) hw hA (fun p289 H locs hp289 hw => ?_) | (refine px_callv (pr := []) (px_runV (As := [.int z5, .int 1, .int 0, .int v258]) (rest := []) S (c_mp_know l D cs h r g tf ta pf na ma283 wa ef ea xf xa cf255 ca256 z5 1 0 v258  (show 0 ≤ (cf255 33).toInt from by first | exact oz_eb53d9d016 e267 e175 e12 k7_12 g4 | omega) (show (cf255 33).toInt < 1100 from by first | exact oz_3ef51c39d5 e267 e175 e12 k7_13 g6 k7_31 | omega) htk _) hT (pr := []) (pcs := [wdP cs h r g tf ta pf na ma283 wa cf255 ca256 ef ea xf xa]) hw px_X.tt (px_recv hT hw 0 0 rfl rfl rfl) m12_193 m12_190 m12_192 ms_12_1 m1_21 q_Mpg_know ⟨show 0 + 1 ≤ (4 * d + 22) from (by first | exact oz_c3745992a4 | omega), show 8 + (5 + 11) + 0 ≤ (200 * d + 780) from (by first | exact oz_7102db9304 | omega)⟩ hl.1 rfl (Nat.le_of_ble_eq_true rfl) d_Mpg_declare_220 ⟨Nat.le_of_ble_eq_true rfl, Nat.le_of_ble_eq_true rfl⟩) hw hA (fun p289 H locs hp289 hw => ?_))
                  obtain ⟨cf287, ca288, rfl, e291, e292, e293, e294, e295, e296, e297, e298, e299, e300, e301, e302, e303, e304, e305, e306, e307, e308, e309, e310⟩ := hp289
                  have e291 : (cf287 33).toInt = (cf255 33).toInt + 1 := e291
                  have e292 : (cf287 30).toInt = (cf255 30).toInt := e292
                  have e293 : (cf287 31).toInt = (cf255 31).toInt := e293
                  have e294 : (cf287 37).toInt = (cf255 37).toInt := e294
                  have e295 : (cf287 38).toInt = (cf255 38).toInt := e295
                  have e296 : (cf287 41).toInt = (cf255 41).toInt := e296
                  have e297 : (cf287 42).toInt = (cf255 42).toInt := e297
                  have e298 : (cf287 43).toInt = (cf255 43).toInt := e298
                  have e299 : (cf287 44).toInt = (cf255 44).toInt := e299
                  have e300 : (cf287 45).toInt = (cf255 45).toInt := e300
                  have e301 : (cf287 46).toInt = (cf255 46).toInt := e301
                  have e302 : (cf287 47).toInt = (cf255 47).toInt := e302
                  have e303 : (cf287 48).toInt = (cf255 48).toInt := e303
                  have e304 : (cf287 54).toInt = (cf255 54).toInt := e304
                  have e305 : (cf287 55).toInt = (cf255 55).toInt := e305
                  have e306 : (cf287 57).toInt = (cf255 57).toInt := e306
                  have e307 : (cf287 58).toInt = (cf255 58).toInt := e307
                  have e308 : (cf287 59).toInt = (cf255 59).toInt := e308
                  have e309 : KwU ca256 ca288 (cf255 33) z5 (1 : Int32) (0 : Int32) v258 := e309
                  have hcw_e309 : CaG ca256 ca288 (cf255 33).toInt (cf287 48).toInt := cag_kw e309 (by omega) (by omega)
                  have hkt : KnT (tf 6).toInt ca288 (cf287 33).toInt := KnT.eq (KnT.kw (KnT.eq hkt (n' := (cf255 33).toInt) (by omega)) e309 rfl (by omega) (by omega) ⟨by omega, by omega⟩) (by omega)
                  have hks : KnS ca288 (cf287 33).toInt (cf287 48).toInt ys := KnS.eq (KnS.kw (KnS.eq hks (n' := (cf255 33).toInt) (by omega) rfl) e309 rfl (by omega) (Or.inl ⟨by omega, hsy⟩)) (by omega) (by omega)
                  have hcg := hcg.tr hcw_e309 (by omega) (by omega)
                  have hft := hft.cg hcw_e309
                  have hfp := hfp.cg hcw_e309
                  have hsr := hsr.cg hcw_e309 (by omega)
                  have hzts : ZTs cf287 ta ca288 na ma0 (cf287 48).toInt ys nf ma283 lo mid_7 (na 17 p0.toNatClampNeg) x7_3 tv := ZTs.tr hzts (fun q => by omega) (FrC.rf (lo := 0) (hi := 0)) (by omega) hcw_e309 (by omega) (by omega)
                  have hty_z166 : ZTe cf287 ta ca288 na ma0 (cf287 48).toInt ys nf ma283 (x7_3.toInt + 1) md3 z166 0 := ZTe.tr hty_z166 (fun q => by omega) (FrC.rf (lo := 0) (hi := 0)) (by omega) hcw_e309 (by omega) (by omega)
                  have hs3 : Sy3 ca288 (cf 48).toInt (cf287 48).toInt := Sy3.eq (hs3.cg hcw_e309 (by omega)) (by omega)
                  have hsb_e309 := hsy.1.1
                  first | have hcy_e309 := cl_nat (x := v258) ((oz_f3ebed1ad0 e259 hsb_e309.1)) | (have hcy_e309 := cl_nat (x := v258) (by first | exact oz_f3ebed1ad0 e259 hsb_e309.1 | omega))
                  have hs49 : (ca288 49 v258.toNatClampNeg).toInt = _ := (congrArg Int32.toInt (hcw_e309.2.2 _ (by omega)).1).trans hs49
                  have hs52 : (ca288 52 v258.toNatClampNeg).toInt = _ := (congrArg Int32.toInt (hcw_e309.2.2 _ (by omega)).2.2.2).trans hs52
                  have hsy : SyV ca288 (cf287 48).toInt ys v258 := hsy.cg hcw_e309 (by omega) (by omega)
                  have e310 : R_mp_know z5 (1 : Int32) (0 : Int32) v258 cf255 ca256 cf287 ca288 := e310
                  have hwr : WrV cf287 (tf 6).toInt := WrV.eq hwr (by omega) (by omega)
                  refine lv_aload_n S.x S.b d_Mpg_declare_223 rfl (lv_at hl 1 rfl) ?_
                  refine gP_21 S hT hw 0 rfl m10_7 d_Mpg_declare_224 ?_
                  refine lv_iload_n S.x S.b d_Mpg_declare_227 rfl (lv_at hl 4 rfl) ?_
                  refine px_iald S hT hw 0 17 (n := 2100) (f := (na 21)) rfl gp_21 (x := x7_3) (vp_in_iff.mpr (by constructor <;> omega)) d_Mpg_declare_228 ?_
                  refine lv_topi (fun z311 ez311 => ?_)
                  have lz311 := Int32.le_toInt z311
                  have uz311 := Int32.toInt_lt z311
                  refine lv_istore_n (lv' := [(3, .int z311), (4, .int z5), (0, .ref h), (1, .int p0), (2, .int p1)]) S.x S.b d_Mpg_declare_229 rfl hl (by decide) rfl (fun ls hl => ?_)
                  refine lv_goto (tgt := 7) S.x S.b d_Mpg_declare_230 (by decide) ?_
                  first | exact ih7 ma283 cf287 ca288 md3 (wr_7 - wv4) z311 _ _ ls (show (cf287 30).toInt = 0 → (cf 30).toInt = 0 from by omega) (show WrV cf287 (tf 6).toInt from hwr) (show (cf287 37).toInt = (cf 37).toInt from (oz_0867352dd7 k7_2 e294 e18 e268 hkk37_e173)) (show (cf287 38).toInt = (cf 38).toInt from (oz_0867352dd7 k7_3 e295 e13 e269 e176)) (show (cf287 43).toInt = (cf 43).toInt from (oz_0867352dd7 k7_4 e298 e20 e272 hkk43_e173)) (show (cf287 44).toInt = (cf 44).toInt from (oz_0867352dd7 k7_5 e299 e21 e273 hkk44_e173)) (show (cf287 45).toInt = (cf 45).toInt from (oz_0867352dd7 k7_6 e300 e22 e274 hkk45_e173)) (show (cf287 46).toInt = (cf 46).toInt from (oz_0867352dd7 k7_7 e301 e15 e275 e178)) (show (cf287 47).toInt = (cf 47).toInt from (oz_0867352dd7 k7_8 e302 e16 e276 e179)) (show (cf287 41).toInt = (cf 41).toInt from (oz_0867352dd7 k7_9 e296 e27 e270 hkk41_e173)) (show (cf287 55).toInt = (cf 55).toInt from (oz_0867352dd7 k7_10 e305 e24 e277 hkk55_e173)) (show (cf287 59).toInt = (cf 59).toInt from (oz_0867352dd7 k7_11 e308 e26 e280 hkk59_e173)) (show (cf 33).toInt ≤ (cf287 33).toInt from (oz_a101ed4aa6 k7_12 e291 e12 e267 e175)) (show 6 * (cf287 33).toInt ≤ 6 * (cf 33).toInt + (w - (wr_7 - wv4)) from by omega) (show (cf 48).toInt ≤ (cf287 48).toInt from (oz_788511b878 k7_20 e303 k7_16 k7_18 e14 hsb_e309.2 e177)) (show 6 * (cf287 48).toInt ≤ 6 * (cf 48).toInt + (w - (wr_7 - wv4)) from by omega) (show (cf 54).toInt ≤ (cf287 54).toInt from (oz_39bc41608f k7_16 e304 e23 e261 hkk54_e173)) (show (cf 42).toInt ≤ (cf287 42).toInt from (oz_47ce8e110c k7_18 e297 k7_16 e19 e271 hkk42_e173 tz190)) (show (cf287 54).toInt - (cf 54).toInt ≤ 4 * ((cf287 42).toInt - (cf 42).toInt) from (oz_217fccdeec k7_18 e297 e304 e19 e23 e271 e263 hkk42_e173 hkk54_e173 tz190)) (show (cf287 54).toInt - (cf 54).toInt ≤ 4096 * ((cf287 48).toInt - (cf 48).toInt) from (oz_0e3be830c4 k7_19 e303 e304 e14 e23 e262 hsb_e309.2 e177 hkk54_e173)) (show (cf287 42).toInt - (cf 42).toInt ≤ 4096 * ((cf287 48).toInt - (cf 48).toInt) from (oz_f6b9fff360 k7_20 e297 e303 e14 e19 e271 hsb_e309.2 e177 hkk42_e173 tz190)) (show KnT (tf 6).toInt ca288 (cf287 33).toInt from (KnT.eq hkt (by omega))) (show KnS ca288 (cf287 33).toInt (cf287 48).toInt ys from (KnS.eq hks (by omega) (by omega))) (show CaG ca ca288 (cf 33).toInt (cf 48).toInt from (hcg.le (by omega) (by omega))) (show SyR ca288 ys (cf287 48).toInt (cf287 54).toInt tx from (SyR.eq hsr (by omega) (by omega))) (show Ann na ma0 ma283 from han) (show FrC lo hi ma ma283 from hfc) (show Sy3 ca288 (cf 48).toInt (cf287 48).toInt from (Sy3.eq hs3 (by omega))) (show lo ≤ md3 from hm1_md3) (show p0.toInt + 1 ≤ md3 from by omega) (show md3 ≤ hi from hm2_md3) (show 0 ≤ (wr_7 - wv4) from by omega) (show (wr_7 - wv4) ≤ w from by omega) (show RvV ta (tf 6).toInt na ma0 d md3 hi (wr_7 - wv4) z311 from (by rw [ez311]; exact hrv2)) (show ZTs cf287 ta ca288 na ma0 (cf287 48).toInt ys nf ma283 lo md3 (na 17 p0.toNatClampNeg) z311 tv from (ZTs.nx (ZTs.to hzts (fun q => by omega) (by omega) (Int.le_refl _) (by omega) rfl) (show ZTe cf287 ta ca288 na ma0 (cf287 48).toInt ys nf ma283 lo md3 x7_3 tv from (fun zz => tyv_1 ⟨by omega, by omega, by omega⟩ (by omega) (by omega) (by rw [hv_20_x7_3]; exact hsy) (ha_z166.trans (Ann.v18 han (by omega)).symm) (Or.inr ⟨(by rw [Ann.v22 han (by omega)]; omega), (fun r9 => ((hty_z166 zz).le (by omega) (by omega)))⟩))) (by omega) ez311)) (show K_mp_declare_7 tf ta na p0 p1 ma cf ca ma283 cf287 ca288 z311 from (fun y_f0 y_f1 y_f2 k hE => k7_35 y_f0 y_f1 y_f2 (k + 1) (Or.inr (Or.inl ⟨rfl, x7_3, rfl, rfl, rfl, rfl, rfl, Or.inr ⟨nc1, z5, ez5, cf7, e28, z29, ez29, Or.inl ⟨nc30, z32, ez32, Or.inr ⟨nc33, Or.inl ⟨nc161, z163, ez163, nc164, z166, ez166, ma169, cf170, v172, e188X, z190, ez190, z191, ez191, Or.inr ⟨nc192, cf255, ca256, v258, e282, ma283, hu_ma283, v258, ez284, cf287, ca288, e310, z311, ez311, hE⟩⟩⟩⟩⟩⟩)))) (show hi - md3 < (n_7 : Int) from by omega) hw (lv_sub hl [2, 3, 4, 0] rfl) | (exact ih7 ma283 cf287 ca288 md3 (wr_7 - wv4) z311 _ _ ls (show (cf287 30).toInt = 0 → (cf 30).toInt = 0 from by omega) (show WrV cf287 (tf 6).toInt from hwr) (show (cf287 37).toInt = (cf 37).toInt from by first | exact oz_0867352dd7 k7_2 e294 e18 e268 hkk37_e173 | omega) (show (cf287 38).toInt = (cf 38).toInt from by first | exact oz_0867352dd7 k7_3 e295 e13 e269 e176 | omega) (show (cf287 43).toInt = (cf 43).toInt from by first | exact oz_0867352dd7 k7_4 e298 e20 e272 hkk43_e173 | omega) (show (cf287 44).toInt = (cf 44).toInt from by first | exact oz_0867352dd7 k7_5 e299 e21 e273 hkk44_e173 | omega) (show (cf287 45).toInt = (cf 45).toInt from by first | exact oz_0867352dd7 k7_6 e300 e22 e274 hkk45_e173 | omega) (show (cf287 46).toInt = (cf 46).toInt from by first | exact oz_0867352dd7 k7_7 e301 e15 e275 e178 | omega) (show (cf287 47).toInt = (cf 47).toInt from by first | exact oz_0867352dd7 k7_8 e302 e16 e276 e179 | omega) (show (cf287 41).toInt = (cf 41).toInt from by first | exact oz_0867352dd7 k7_9 e296 e27 e270 hkk41_e173 | omega) (show (cf287 55).toInt = (cf 55).toInt from by first | exact oz_0867352dd7 k7_10 e305 e24 e277 hkk55_e173 | omega) (show (cf287 59).toInt = (cf 59).toInt from by first | exact oz_0867352dd7 k7_11 e308 e26 e280 hkk59_e173 | omega) (show (cf 33).toInt ≤ (cf287 33).toInt from by first | exact oz_a101ed4aa6 k7_12 e291 e12 e267 e175 | omega) (show 6 * (cf287 33).toInt ≤ 6 * (cf 33).toInt + (w - (wr_7 - wv4)) from by omega) (show (cf 48).toInt ≤ (cf287 48).toInt from by first | exact oz_788511b878 k7_20 e303 k7_16 k7_18 e14 hsb_e309.2 e177 | omega) (show 6 * (cf287 48).toInt ≤ 6 * (cf 48).toInt + (w - (wr_7 - wv4)) from by omega) (show (cf 54).toInt ≤ (cf287 54).toInt from by first | exact oz_39bc41608f k7_16 e304 e23 e261 hkk54_e173 | omega) (show (cf 42).toInt ≤ (cf287 42).toInt from by first | exact oz_47ce8e110c k7_18 e297 k7_16 e19 e271 hkk42_e173 tz190 | omega) (show (cf287 54).toInt - (cf 54).toInt ≤ 4 * ((cf287 42).toInt - (cf 42).toInt) from by first | exact oz_217fccdeec k7_18 e297 e304 e19 e23 e271 e263 hkk42_e173 hkk54_e173 tz190 | omega) (show (cf287 54).toInt - (cf 54).toInt ≤ 4096 * ((cf287 48).toInt - (cf 48).toInt) from by first | exact oz_0e3be830c4 k7_19 e303 e304 e14 e23 e262 hsb_e309.2 e177 hkk54_e173 | omega) (show (cf287 42).toInt - (cf 42).toInt ≤ 4096 * ((cf287 48).toInt - (cf 48).toInt) from by first | exact oz_f6b9fff360 k7_20 e297 e303 e14 e19 e271 hsb_e309.2 e177 hkk42_e173 tz190 | omega) (show KnT (tf 6).toInt ca288 (cf287 33).toInt from (KnT.eq hkt (by omega))) (show KnS ca288 (cf287 33).toInt (cf287 48).toInt ys from (KnS.eq hks (by omega) (by omega))) (show CaG ca ca288 (cf 33).toInt (cf 48).toInt from (hcg.le (by omega) (by omega))) (show SyR ca288 ys (cf287 48).toInt (cf287 54).toInt tx from (SyR.eq hsr (by omega) (by omega))) (show Ann na ma0 ma283 from han) (show FrC lo hi ma ma283 from hfc) (show Sy3 ca288 (cf 48).toInt (cf287 48).toInt from (Sy3.eq hs3 (by omega))) (show lo ≤ md3 from by first | exact hm1_md3 | omega) (show p0.toInt + 1 ≤ md3 from by omega) (show md3 ≤ hi from by first | exact hm2_md3 | omega) (show 0 ≤ (wr_7 - wv4) from by omega) (show (wr_7 - wv4) ≤ w from by omega) (show RvV ta (tf 6).toInt na ma0 d md3 hi (wr_7 - wv4) z311 from (by rw [ez311]; exact hrv2)) (show ZTs cf287 ta ca288 na ma0 (cf287 48).toInt ys nf ma283 lo md3 (na 17 p0.toNatClampNeg) z311 tv from (ZTs.nx (ZTs.to hzts (fun q => by omega) (by omega) (Int.le_refl _) (by omega) rfl) (show ZTe cf287 ta ca288 na ma0 (cf287 48).toInt ys nf ma283 lo md3 x7_3 tv from (fun zz => tyv_1 ⟨by omega, by omega, by omega⟩ (by omega) (by omega) (by rw [hv_20_x7_3]; exact hsy) (ha_z166.trans (Ann.v18 han (by omega)).symm) (Or.inr ⟨(by rw [Ann.v22 han (by omega)]; omega), (fun r9 => ((hty_z166 zz).le (by omega) (by omega)))⟩))) (by omega) ez311)) (show K_mp_declare_7 tf ta na p0 p1 ma cf ca ma283 cf287 ca288 z311 from (fun y_f0 y_f1 y_f2 k hE => k7_35 y_f0 y_f1 y_f2 (k + 1) (Or.inr (Or.inl ⟨rfl, x7_3, rfl, rfl, rfl, rfl, rfl, Or.inr ⟨nc1, z5, ez5, cf7, e28, z29, ez29, Or.inl ⟨nc30, z32, ez32, Or.inr ⟨nc33, Or.inl ⟨nc161, z163, ez163, nc164, z166, ez166, ma169, cf170, v172, e188X, z190, ez190, z191, ez191, Or.inr ⟨nc192, cf255, ca256, v258, e282, ma283, hu_ma283, v258, ez284, cf287, ca288, e310, z311, ez311, hE⟩⟩⟩⟩⟩⟩)))) (show hi - md3 < (n_7 : Int) from by omega) hw (lv_sub hl [2, 3, 4, 0] rfl))
            · have nc161 : ¬ p1.toInt = (0 : Int) := mt (i_eq (x := p1) (y := 0)).mpr c161
              refine lv_aload_n S.x S.b d_Mpg_declare_137 rfl (lv_at hl 1 rfl) ?_
              refine lv_aload_n S.x S.b d_Mpg_declare_138 rfl (lv_at hl 1 rfl) ?_
              refine gP_18 S hT hw 0 rfl m10_3 d_Mpg_declare_139 ?_
              refine lv_iload_n S.x S.b d_Mpg_declare_142 rfl (lv_at hl 4 rfl) ?_
              refine px_iald S hT hw 0 14 (n := 2100) (f := (ma_7 18)) rfl gp_18 (x := x7_3) (vp_in_iff.mpr (by constructor <;> omega)) d_Mpg_declare_143 ?_
              refine lv_topi (fun z312 ez312 => ?_)
              have lz312 := Int32.le_toInt z312
              have uz312 := Int32.toInt_lt z312
              have ha_z312 : z312 = ma0 18 x7_3.toNatClampNeg := ez312.trans (Ann.v18 han (by omega)); have hev_z312 := VcV.v11 hvc_x7_3 (by omega) (by omega) ha_z312; obtain ⟨hec_z312, h20_z312, hw_z312⟩ := hev_z312.ec; have hrg_z312 := EcV.rng hec_z312
              first | refine px_calli (pr := []) (px_runV (As := [.int z312]) (rest := []) S (c_mp_checkConstant l D cs ma0 ys (cf7 48).toInt nf (cf7 33).toInt d (x7_3.toInt + 1) md3 h r g tf ta pf na wa ca_7 ef ea xf xa ma_7 cf7 z312  (show 0 ≤ (x7_3.toInt + 1) from (oz_0073e084eb nc1)) (show md3 ≤ (pf 13).toInt from (oz_bbb5b20c1a g1 hm2_md3)) (show (pf 13).toInt ≤ 2100 from g2) (show (tf 6).toInt ≤ 2049 from g3) (show (cf7 33).toInt = (cf7 33).toInt from rfl) (show 0 ≤ (cf7 33).toInt from (oz_9921a0d148 e12 k7_12 g4)) (show (cf7 48).toInt = (cf7 48).toInt from rfl) (show (cf7 38).toInt = nf from (oz_e13fc83238 g9 e13 k7_3)) (show 0 ≤ nf from g10) (show 0 ≤ (cf7 46).toInt from (oz_e2fef14871 e15 k7_7 g19)) (show (cf7 46).toInt ≤ 1 from (oz_916d756328 e15 k7_7 g20)) (show 0 ≤ (cf7 47).toInt from (oz_e2fef14871 e16 k7_8 g21)) (show (cf7 47).toInt ≤ 1 from (oz_916d756328 e16 k7_8 g22)) htk (FsI.le (N' := (pf 13).toInt) hfs (by omega)) hwr (KnT.eq hkt (by omega)) (FnT.eq hft (by omega)) (KnS.eq hks (by omega) (by omega)) hfp han hec_z312 (by first | assumption | omega) _) hT (pr := []) (pcs := [wdP cs h r g tf ta pf na ma_7 wa cf7 ca_7 ef ea xf xa]) hw (oX_call (P := (fun A U H => (oP A g U H))) (pr := []) oG_P hw hA hP) (px_recv hT hw 0 0 rfl rfl rfl) m12_237 m12_234 m12_236 ms_12_12 m1_21 q_Mpg_checkConstant ⟨show (4 * d + 18) + 1 ≤ (4 * d + 22) from (oz_1b63056cd2), show 8 + (5 + 11) + (200 * d + 640) ≤ (200 * d + 780) from (oz_b29a9bf2f8)⟩ hl.1 rfl (Nat.le_of_ble_eq_true rfl) d_Mpg_declare_144 ⟨Nat.le_of_ble_eq_true rfl, Nat.le_of_ble_eq_true rfl⟩) hw hA (fun v318 p317 H locs hp317 hw => ?_) | (refine px_calli (pr := []) (px_runV (As := [.int z312]) (rest := []) S (c_mp_checkConstant l D cs ma0 ys (cf7 48).toInt nf (cf7 33).toInt d (x7_3.toInt + 1) md3 h r g tf ta pf na wa ca_7 ef ea xf xa ma_7 cf7 z312  (show 0 ≤ (x7_3.toInt + 1) from by first | exact oz_0073e084eb nc1 | omega) (show md3 ≤ (pf 13).toInt from by first | exact oz_bbb5b20c1a g1 hm2_md3 | omega) (show (pf 13).toInt ≤ 2100 from by first | exact g2 | omega) (show (tf 6).toInt ≤ 2049 from by first | exact g3 | omega) (show (cf7 33).toInt = (cf7 33).toInt from rfl) (show 0 ≤ (cf7 33).toInt from by first | exact oz_9921a0d148 e12 k7_12 g4 | omega) (show (cf7 48).toInt = (cf7 48).toInt from rfl) (show (cf7 38).toInt = nf from by first | exact oz_e13fc83238 g9 e13 k7_3 | omega) (show 0 ≤ nf from by first | exact g10 | omega) (show 0 ≤ (cf7 46).toInt from by first | exact oz_e2fef14871 e15 k7_7 g19 | omega) (show (cf7 46).toInt ≤ 1 from by first | exact oz_916d756328 e15 k7_7 g20 | omega) (show 0 ≤ (cf7 47).toInt from by first | exact oz_e2fef14871 e16 k7_8 g21 | omega) (show (cf7 47).toInt ≤ 1 from by first | exact oz_916d756328 e16 k7_8 g22 | omega) htk (FsI.le (N' := (pf 13).toInt) hfs (by omega)) hwr (KnT.eq hkt (by omega)) (FnT.eq hft (by omega)) (KnS.eq hks (by omega) (by omega)) hfp han hec_z312 (by first | assumption | omega) _) hT (pr := []) (pcs := [wdP cs h r g tf ta pf na ma_7 wa cf7 ca_7 ef ea xf xa]) hw (oX_call (P := (fun A U H => (oP A g U H))) (pr := []) oG_P hw hA hP) (px_recv hT hw 0 0 rfl rfl rfl) m12_237 m12_234 m12_236 ms_12_12 m1_21 q_Mpg_checkConstant ⟨show (4 * d + 18) + 1 ≤ (4 * d + 22) from (by first | exact oz_1b63056cd2 | omega), show 8 + (5 + 11) + (200 * d + 640) ≤ (200 * d + 780) from (by first | exact oz_b29a9bf2f8 | omega)⟩ hl.1 rfl (Nat.le_of_ble_eq_true rfl) d_Mpg_declare_144 ⟨Nat.le_of_ble_eq_true rfl, Nat.le_of_ble_eq_true rfl⟩) hw hA (fun v318 p317 H locs hp317 hw => ?_))
              obtain ⟨ma315, cf316, rfl, e319, e320, e321, e322, e323, e324, e325, e326, e327, e328, e329, e330⟩ := hp317
              have e319 : KpE cf7 cf316 := e319
              have hkz_e319 := e319.2
              have hkk37_e319 : (cf316 37).toInt = (cf7 37).toInt := (by rw [e319.1 37 (by decide) (by decide) (by decide) (by decide) (by decide)] <;> rfl)
              have hkk43_e319 : (cf316 43).toInt = (cf7 43).toInt := (by rw [e319.1 43 (by decide) (by decide) (by decide) (by decide) (by decide)] <;> rfl)
              have hkk44_e319 : (cf316 44).toInt = (cf7 44).toInt := (by rw [e319.1 44 (by decide) (by decide) (by decide) (by decide) (by decide)] <;> rfl)
              have hkk45_e319 : (cf316 45).toInt = (cf7 45).toInt := (by rw [e319.1 45 (by decide) (by decide) (by decide) (by decide) (by decide)] <;> rfl)
              have hkk41_e319 : (cf316 41).toInt = (cf7 41).toInt := (by rw [e319.1 41 (by decide) (by decide) (by decide) (by decide) (by decide)] <;> rfl)
              have hkk55_e319 : (cf316 55).toInt = (cf7 55).toInt := (by rw [e319.1 55 (by decide) (by decide) (by decide) (by decide) (by decide)] <;> rfl)
              have hkk59_e319 : (cf316 59).toInt = (cf7 59).toInt := (by rw [e319.1 59 (by decide) (by decide) (by decide) (by decide) (by decide)] <;> rfl)
              have hkk42_e319 : (cf316 42).toInt = (cf7 42).toInt := (by rw [e319.1 42 (by decide) (by decide) (by decide) (by decide) (by decide)] <;> rfl)
              have hkk54_e319 : (cf316 54).toInt = (cf7 54).toInt := (by rw [e319.1 54 (by decide) (by decide) (by decide) (by decide) (by decide)] <;> rfl)
              have hkk58_e319 : (cf316 58).toInt = (cf7 58).toInt := (by rw [e319.1 58 (by decide) (by decide) (by decide) (by decide) (by decide)] <;> rfl)
              have e320 : WrV cf316 (tf 6).toInt := e320
              have hwr := e320
              have hw0_e320 := hwr.1
              have e321 : (cf316 33).toInt = (cf7 33).toInt := e321
              have e322 : (cf316 38).toInt = (cf7 38).toInt := e322
              have e323 : (cf316 48).toInt = (cf7 48).toInt := e323
              have e324 : (cf316 46).toInt = (cf7 46).toInt := e324
              have e325 : (cf316 47).toInt = (cf7 47).toInt := e325
              have e326 : Ann na ma0 ma315 := e326
              have han := e326
              have e327 : FrC (x7_3.toInt + 1) md3 ma_7 ma315 := e327
              have hfc := hfc.tr e327 (by omega) (by omega)
              have hzts : ZTs cf316 ta ca_7 na ma0 (cf316 48).toInt ys nf ma315 lo mid_7 (na 17 p0.toNatClampNeg) x7_3 tv := ZTs.tr hzts (fun q => by omega) e327 (by omega) (CaG.rf (kn := 0) (ns := 5000)) (by omega) (by omega)
              have e328 := z_rng e328
              have e329 : v318.toInt = 0 → 1 ≤ (cf316 30).toInt := e329
              have e330 : R_mp_checkConstant tf ta na ca_7 z312 ma_7 cf7 ma315 cf316 v318 := e330
              have lv318 := Int32.le_toInt v318
              have uv318 := Int32.toInt_lt v318
              refine lv_pop S.x S.b d_Mpg_declare_147 rfl ?_
              refine lv_goto (tgt := 173) S.x S.b d_Mpg_declare_148 (by decide) ?_
              refine lv_aload_n S.x S.b d_Mpg_declare_173 rfl (lv_at hl 1 rfl) ?_
              refine lv_dup S.x S.b d_Mpg_declare_174 rfl ?_
              refine gP_42 (v := (cf316 42)) S hT hw 0 rfl rfl m10_33 d_Mpg_declare_175 ?_
              refine lv_iconst (v := 1) S.x S.b d_Mpg_declare_178 (by decide) ?_
              refine lv_iadd S.x S.b d_Mpg_declare_179 ?_
              have lr331 := Int32.le_toInt (cf316 42)
              have ur331 := Int32.toInt_lt (cf316 42)
              refine lv_topi (fun z332 ez332 => ?_)
              have tz332 : z332.toInt = ((cf316 42).toInt + (1 : Int) + 2147483648) % 4294967296 - 2147483648 := by rw [ez332]; exact i_add (cf316 42) 1
              have lz332 := Int32.le_toInt z332
              have uz332 := Int32.toInt_lt z332
              try replace tz332 : z332.toInt = (cf316 42).toInt + (1 : Int) := by omega
              refine pP_42 S hT hw 0 rfl m10_33 rfl rfl rfl d_Mpg_declare_180 (ps' := [wdP cs h r g tf ta pf na ma315 wa (upd cf316 42 z332) ca_7 ef ea xf xa]) rfl (fun H locs hw => ?_)
              refine lv_aload_n S.x S.b d_Mpg_declare_183 rfl (lv_at hl 1 rfl) ?_
              refine gP_20 S hT hw 0 rfl m10_6 d_Mpg_declare_184 ?_
              refine lv_iload_n S.x S.b d_Mpg_declare_187 rfl (lv_at hl 4 rfl) ?_
              refine lv_aload_n S.x S.b d_Mpg_declare_188 rfl (lv_at hl 1 rfl) ?_
              refine lv_aload_n S.x S.b d_Mpg_declare_189 rfl (lv_at hl 1 rfl) ?_
              refine gP_22 S hT hw 0 rfl m10_9 d_Mpg_declare_190 ?_
              refine lv_iload_n S.x S.b d_Mpg_declare_193 rfl (lv_at hl 2 rfl) ?_
              refine px_iald S hT hw 0 18 (n := 2100) (f := (ma315 22)) rfl gp_22 (x := p0) (vp_in_iff.mpr (by first | exact oz_a7e05de1cd g23 g25 g1 g2 | (constructor <;> omega))) d_Mpg_declare_194 ?_
              refine lv_topi (fun z333 ez333 => ?_)
              have lz333 := Int32.le_toInt z333
              have uz333 := Int32.toInt_lt z333
              have rz333 : z333.toInt = (ma0 22 p0.toNatClampNeg).toInt := (by rw [ez333, Ann.v22 han (by omega)])
              refine lv_iconst (v := 1) S.x S.b d_Mpg_declare_195 (by decide) ?_
              refine lv_icmp_ne (tgt := 203) S.x S.b d_Mpg_declare_196 (by decide) (fun c334 => ?_) (fun c334 => ?_)
              · have nc334 : ¬ z333.toInt = (1 : Int) := mt (i_eq (x := z333) (y := 1)).mpr c334
                refine lv_iconst (v := 0) S.x S.b d_Mpg_declare_203 (by decide) ?_
                refine lv_iconst (v := 1) S.x S.b d_Mpg_declare_204 (by decide) ?_
                first | refine px_calli (pr := []) (px_runV (As := [.int 0, .int 1]) (rest := [.int x7_3, .ref (r 20)]) S (c_mp_lay l D cs h r g tf ta pf na ma315 wa ef ea xf xa (upd cf316 42 z332) ca_7 0 1  (show 0 ≤ (cf316 48).toInt from (oz_34de85669e e323 e14 k7_20 g14 g15 k7_16 k7_18)) (show (cf316 48).toInt < 1100 from (oz_75b62dc8f3 e323 e14 k7_15 g8 k7_31)) (show 0 ≤ (0 : Int) from oz_5a341f00aa) (show (0 : Int) ≤ 5 from oz_01b865b26c) (show 0 ≤ (1 : Int) from oz_19c3a41681) (show (1 : Int) ≤ 4096 from oz_79b5d9fede) (show 0 ≤ (cf316 54).toInt from (oz_9bcc310e9c hkk54_e319 e23 k7_16 g12)) (show (cf316 54).toInt ≤ 40000000 from (oz_17a0157d43 hkk54_e319 e23 k7_19 g8 g13 k7_15 k7_31)) htk _) hT (pr := []) (pcs := [wdP cs h r g tf ta pf na ma315 wa (upd cf316 42 z332) ca_7 ef ea xf xa]) hw px_X.tt (px_recv hT hw 0 0 rfl rfl rfl) m12_189 m12_186 m12_188 ms_12_0 m1_21 q_Mpg_lay ⟨show 0 + 1 ≤ (4 * d + 22) from (oz_c3745992a4), show 8 + (3 + 11) + 0 ≤ (200 * d + 780) from (oz_f51a49eea8)⟩ hl.1 rfl (Nat.le_of_ble_eq_true rfl) d_Mpg_declare_205 ⟨Nat.le_of_ble_eq_true rfl, Nat.le_of_ble_eq_true rfl⟩) hw hA (fun v341 p340 H locs hp340 hw => ?_) | (refine px_calli (pr := []) (px_runV (As := [.int 0, .int 1]) (rest := [.int x7_3, .ref (r 20)]) S (c_mp_lay l D cs h r g tf ta pf na ma315 wa ef ea xf xa (upd cf316 42 z332) ca_7 0 1  (show 0 ≤ (cf316 48).toInt from by first | exact oz_34de85669e e323 e14 k7_20 g14 g15 k7_16 k7_18 | omega) (show (cf316 48).toInt < 1100 from by first | exact oz_75b62dc8f3 e323 e14 k7_15 g8 k7_31 | omega) (show 0 ≤ (0 : Int) from by first | exact oz_5a341f00aa | omega) (show (0 : Int) ≤ 5 from by first | exact oz_01b865b26c | omega) (show 0 ≤ (1 : Int) from by first | exact oz_19c3a41681 | omega) (show (1 : Int) ≤ 4096 from by first | exact oz_79b5d9fede | omega) (show 0 ≤ (cf316 54).toInt from by first | exact oz_9bcc310e9c hkk54_e319 e23 k7_16 g12 | omega) (show (cf316 54).toInt ≤ 40000000 from by first | exact oz_17a0157d43 hkk54_e319 e23 k7_19 g8 g13 k7_15 k7_31 | omega) htk _) hT (pr := []) (pcs := [wdP cs h r g tf ta pf na ma315 wa (upd cf316 42 z332) ca_7 ef ea xf xa]) hw px_X.tt (px_recv hT hw 0 0 rfl rfl rfl) m12_189 m12_186 m12_188 ms_12_0 m1_21 q_Mpg_lay ⟨show 0 + 1 ≤ (4 * d + 22) from (by first | exact oz_c3745992a4 | omega), show 8 + (3 + 11) + 0 ≤ (200 * d + 780) from (by first | exact oz_f51a49eea8 | omega)⟩ hl.1 rfl (Nat.le_of_ble_eq_true rfl) d_Mpg_declare_205 ⟨Nat.le_of_ble_eq_true rfl, Nat.le_of_ble_eq_true rfl⟩) hw hA (fun v341 p340 H locs hp340 hw => ?_))
                obtain ⟨cf338, ca339, rfl, e342, e343, e344, e345, e346, e347, e348, e349, e350, e351, e352, e353, e354, e355, e356, e357, e358, e359, e360, e361, e362, e363, e364, e365⟩ := hp340
                have e342 : v341.toInt = (cf316 48).toInt := e342
                have e343 : (cf338 48).toInt = (cf316 48).toInt + 1 := e343
                have e344 : (cf316 54).toInt ≤ (cf338 54).toInt := e344
                have e345 : (cf338 54).toInt ≤ (cf316 54).toInt + 4096 := e345
                have e346 : (0 : Int) ≤ 3 → (cf338 54).toInt = (cf316 54).toInt + (1 : Int) := e346
                have e347 : 4 ≤ (0 : Int) → (cf338 54).toInt = (cf316 54).toInt + 2 := e347
                have e348 : (cf338 30).toInt = (cf316 30).toInt := e348
                have e349 : (cf338 31).toInt = (cf316 31).toInt := e349
                have e350 : (cf338 33).toInt = (cf316 33).toInt := e350
                have e351 : (cf338 37).toInt = (cf316 37).toInt := e351
                have e352 : (cf338 38).toInt = (cf316 38).toInt := e352
                have e353 : (cf338 41).toInt = (cf316 41).toInt := e353
                have e354 : (cf338 42).toInt = z332.toInt := e354
                have e355 : (cf338 43).toInt = (cf316 43).toInt := e355
                have e356 : (cf338 44).toInt = (cf316 44).toInt := e356
                have e357 : (cf338 45).toInt = (cf316 45).toInt := e357
                have e358 : (cf338 46).toInt = (cf316 46).toInt := e358
                have e359 : (cf338 47).toInt = (cf316 47).toInt := e359
                have e360 : (cf338 55).toInt = (cf316 55).toInt := e360
                have e361 : (cf338 57).toInt = (cf316 57).toInt := e361
                have e362 : (cf338 58).toInt = (cf316 58).toInt := e362
                have e363 : (cf338 59).toInt = (cf316 59).toInt := e363
                have e364 : LyU ca_7 ca339 (cf316 48) (0 : Int32) (cf316 54) (1 : Int32) (txo (cf316 43).toInt) := e364
                have hlu : LyU ca_7 ca339 (cf316 48) (0 : Int32) (cf316 54) (1 : Int32) tx := (by rw [← htx]; exact (by rw [show (cf 43).toInt = (cf316 43).toInt by omega]; exact e364))
                have hcl_e364 : CaG ca_7 ca339 (cf338 33).toInt (cf316 48).toInt := cag_ly hlu (by omega) (by omega)
                have hsr : SyR ca339 ys (cf338 48).toInt (cf338 54).toInt tx := SyR.eq (SyR.ly (cells' := (cf338 54).toInt) (SyR.eq hsr (ns' := (cf316 48).toInt) (by omega) rfl) hlu rfl (by omega) (by omega) (by omega) ⟨by omega, by omega⟩ ⟨by omega, by omega⟩ (fun q => by omega) (fun q => by omega) (fun q => by omega)) (by omega) rfl
                have hkt := hkt.cg hcl_e364 (by omega)
                have hks := hks.cg hcl_e364 (by omega) (by omega) (n2 := (cf338 48).toInt) (by omega)
                have hcg := hcg.tr hcl_e364 (by omega) (by omega)
                have hft := hft.cg hcl_e364
                have hfp := hfp.cg hcl_e364
                have hzts : ZTs cf338 ta ca339 na ma0 (cf338 48).toInt ys nf ma315 lo mid_7 (na 17 p0.toNatClampNeg) x7_3 tv := ZTs.tr hzts (fun q => by omega) (FrC.rf (lo := 0) (hi := 0)) (by omega) hcl_e364 (by omega) (by omega)
                have hs49 : (ca339 49 (cf316 48).toNatClampNeg).toInt = (0 : Int) := (by rw [hlu.2.1 (by omega) (by omega)]; rfl)
                have hs52 : (ca339 52 (cf316 48).toNatClampNeg).toInt = (1 : Int) := (by rw [hlu.2.2.2.1]; rfl)
                have hsy : SyV ca339 (cf338 48).toInt ys (cf316 48) := hlu.sv (by omega) (by omega) ⟨by omega, by omega⟩ (by omega)
                have hs3 : Sy3 ca339 (cf 48).toInt (cf338 48).toInt := Sy3.eq (Sy3.ly (Sy3.eq hs3 (b' := (cf316 48).toInt) (by omega)) hlu rfl (by omega) (by omega)) (by omega)
                have e365 : R_mp_lay (0 : Int32) (1 : Int32) (upd cf316 42 z332) ca_7 cf338 ca339 v341 := e365
                have hwr : WrV cf338 (tf 6).toInt := WrV.eq hwr (by omega) (by omega)
                have lv341 := Int32.le_toInt v341
                have uv341 := Int32.toInt_lt v341
                have hyv : (cf316 48) = v341 := i_eq.mpr (by omega); rw [hyv] at hsy hs49 hs52
                refine px_iast S hT hw 0 16 (n := 2100) (f := (ma315 20)) (x := x7_3) (y := v341) rfl gp_20 (vp_in_iff.mpr (by constructor <;> omega)) d_Mpg_declare_208 (w' := wdP cs h r g tf ta pf na (va_up ma315 20 (upd (ma315 20) x7_3.toNatClampNeg v341)) wa cf338 ca339 ef ea xf xa) (ps' := [wdP cs h r g tf ta pf na (va_up ma315 20 (upd (ma315 20) x7_3.toNatClampNeg v341)) wa cf338 ca339 ef ea xf xa]) sp_20 rfl (fun H locs hw => ?_)
                obtain ⟨ma366, hu_ma366⟩ : ∃ y : Nat → Nat → Int32, y = va_up ma315 20 (upd (ma315 20) x7_3.toNatClampNeg v341) := ⟨_, rfl⟩
                have hw : pw D A s.heap _ _ [wdP cs h r g tf ta pf na ma366 wa cf338 ca339 ef ea xf xa] := (by rw [hu_ma366]; exact hw)
                have hf1_ma366 : FrC x7_3.toInt (x7_3.toInt + 1) ma315 ma366 := (by rw [hu_ma366]; exact FrC.w FrC.rf (by omega) (by omega) (by omega))
                have han : Ann na ma0 ma366 := (by rw [hu_ma366]; exact Ann.w20 han (by omega))
                have hfc := hfc.tr hf1_ma366 (by omega) (by omega)
                have hzts : ZTs cf338 ta ca339 na ma0 (cf338 48).toInt ys nf ma366 lo mid_7 (na 17 p0.toNatClampNeg) x7_3 tv := ZTs.tr hzts (fun q => by omega) hf1_ma366 (by omega) (CaG.rf (kn := 0) (ns := 5000)) (by omega) (by omega)
                have hv_20_x7_3 : ma366 20 x7_3.toNatClampNeg = v341 := (by rw [hu_ma366, va_up_s, pk_us])
                have hnhv_20_x7_3 : (ma366 20 x7_3.toNatClampNeg).toInt = v341.toInt := (by rw [hv_20_x7_3])
                refine lv_aload_n S.x S.b d_Mpg_declare_209 rfl (lv_at hl 1 rfl) ?_
                refine lv_iload S.x S.b d_Mpg_declare_210 (lv_at hl 0 rfl) ?_
                refine lv_iconst (v := 1) S.x S.b d_Mpg_declare_212 (by decide) ?_
                refine lv_iconst (v := 0) S.x S.b d_Mpg_declare_213 (by decide) ?_
                refine lv_aload_n S.x S.b d_Mpg_declare_214 rfl (lv_at hl 1 rfl) ?_
                refine gP_20 S hT hw 0 rfl m10_6 d_Mpg_declare_215 ?_
                refine lv_iload_n S.x S.b d_Mpg_declare_218 rfl (lv_at hl 4 rfl) ?_
                refine px_iald S hT hw 0 16 (n := 2100) (f := (ma366 20)) rfl gp_20 (x := x7_3) (vp_in_iff.mpr (by constructor <;> omega)) d_Mpg_declare_219 ?_
                refine lv_topi (fun z367 ez367 => ?_)
                have lz367 := Int32.le_toInt z367
                have uz367 := Int32.toInt_lt z367
                have hsz367 : v341 = z367 := (ez367.trans hv_20_x7_3).symm; subst hsz367
                first | refine px_callv (pr := []) (px_runV (As := [.int z5, .int 1, .int 0, .int v341]) (rest := []) S (c_mp_know l D cs h r g tf ta pf na ma366 wa ef ea xf xa cf338 ca339 z5 1 0 v341  (show 0 ≤ (cf338 33).toInt from (oz_eb53d9d016 e350 e321 e12 k7_12 g4)) (show (cf338 33).toInt < 1100 from (oz_3ef51c39d5 e350 e321 e12 k7_13 g6 k7_31)) htk _) hT (pr := []) (pcs := [wdP cs h r g tf ta pf na ma366 wa cf338 ca339 ef ea xf xa]) hw px_X.tt (px_recv hT hw 0 0 rfl rfl rfl) m12_193 m12_190 m12_192 ms_12_1 m1_21 q_Mpg_know ⟨show 0 + 1 ≤ (4 * d + 22) from (oz_c3745992a4), show 8 + (5 + 11) + 0 ≤ (200 * d + 780) from (oz_7102db9304)⟩ hl.1 rfl (Nat.le_of_ble_eq_true rfl) d_Mpg_declare_220 ⟨Nat.le_of_ble_eq_true rfl, Nat.le_of_ble_eq_true rfl⟩) hw hA (fun p372 H locs hp372 hw => ?_) | (refine px_callv (pr := []) (px_runV (As := [.int z5, .int 1, .int 0, .int v341]) (rest := []) S (c_mp_know l D cs h r g tf ta pf na ma366 wa ef ea xf xa cf338 ca339 z5 1 0 v341  (show 0 ≤ (cf338 33).toInt from by first | exact oz_eb53d9d016 e350 e321 e12 k7_12 g4 | omega) (show (cf338 33).toInt < 1100 from by first | exact oz_3ef51c39d5 e350 e321 e12 k7_13 g6 k7_31 | omega) htk _) hT (pr := []) (pcs := [wdP cs h r g tf ta pf na ma366 wa cf338 ca339 ef ea xf xa]) hw px_X.tt (px_recv hT hw 0 0 rfl rfl rfl) m12_193 m12_190 m12_192 ms_12_1 m1_21 q_Mpg_know ⟨show 0 + 1 ≤ (4 * d + 22) from (by first | exact oz_c3745992a4 | omega), show 8 + (5 + 11) + 0 ≤ (200 * d + 780) from (by first | exact oz_7102db9304 | omega)⟩ hl.1 rfl (Nat.le_of_ble_eq_true rfl) d_Mpg_declare_220 ⟨Nat.le_of_ble_eq_true rfl, Nat.le_of_ble_eq_true rfl⟩) hw hA (fun p372 H locs hp372 hw => ?_))
                obtain ⟨cf370, ca371, rfl, e374, e375, e376, e377, e378, e379, e380, e381, e382, e383, e384, e385, e386, e387, e388, e389, e390, e391, e392, e393⟩ := hp372
                have e374 : (cf370 33).toInt = (cf338 33).toInt + 1 := e374
                have e375 : (cf370 30).toInt = (cf338 30).toInt := e375
                have e376 : (cf370 31).toInt = (cf338 31).toInt := e376
                have e377 : (cf370 37).toInt = (cf338 37).toInt := e377
                have e378 : (cf370 38).toInt = (cf338 38).toInt := e378
                have e379 : (cf370 41).toInt = (cf338 41).toInt := e379
                have e380 : (cf370 42).toInt = (cf338 42).toInt := e380
                have e381 : (cf370 43).toInt = (cf338 43).toInt := e381
                have e382 : (cf370 44).toInt = (cf338 44).toInt := e382
                have e383 : (cf370 45).toInt = (cf338 45).toInt := e383
                have e384 : (cf370 46).toInt = (cf338 46).toInt := e384
                have e385 : (cf370 47).toInt = (cf338 47).toInt := e385
                have e386 : (cf370 48).toInt = (cf338 48).toInt := e386
                have e387 : (cf370 54).toInt = (cf338 54).toInt := e387
                have e388 : (cf370 55).toInt = (cf338 55).toInt := e388
                have e389 : (cf370 57).toInt = (cf338 57).toInt := e389
                have e390 : (cf370 58).toInt = (cf338 58).toInt := e390
                have e391 : (cf370 59).toInt = (cf338 59).toInt := e391
                have e392 : KwU ca339 ca371 (cf338 33) z5 (1 : Int32) (0 : Int32) v341 := e392
                have hcw_e392 : CaG ca339 ca371 (cf338 33).toInt (cf370 48).toInt := cag_kw e392 (by omega) (by omega)
                have hkt : KnT (tf 6).toInt ca371 (cf370 33).toInt := KnT.eq (KnT.kw (KnT.eq hkt (n' := (cf338 33).toInt) (by omega)) e392 rfl (by omega) (by omega) ⟨by omega, by omega⟩) (by omega)
                have hks : KnS ca371 (cf370 33).toInt (cf370 48).toInt ys := KnS.eq (KnS.kw (KnS.eq hks (n' := (cf338 33).toInt) (by omega) rfl) e392 rfl (by omega) (Or.inl ⟨by omega, hsy⟩)) (by omega) (by omega)
                have hcg := hcg.tr hcw_e392 (by omega) (by omega)
                have hft := hft.cg hcw_e392
                have hfp := hfp.cg hcw_e392
                have hsr := hsr.cg hcw_e392 (by omega)
                have hzts : ZTs cf370 ta ca371 na ma0 (cf370 48).toInt ys nf ma366 lo mid_7 (na 17 p0.toNatClampNeg) x7_3 tv := ZTs.tr hzts (fun q => by omega) (FrC.rf (lo := 0) (hi := 0)) (by omega) hcw_e392 (by omega) (by omega)
                have hs3 : Sy3 ca371 (cf 48).toInt (cf370 48).toInt := Sy3.eq (hs3.cg hcw_e392 (by omega)) (by omega)
                have hsb_e392 := hsy.1.1
                first | have hcy_e392 := cl_nat (x := v341) ((oz_f3ebed1ad0 e342 hsb_e392.1)) | (have hcy_e392 := cl_nat (x := v341) (by first | exact oz_f3ebed1ad0 e342 hsb_e392.1 | omega))
                have hs49 : (ca371 49 v341.toNatClampNeg).toInt = _ := (congrArg Int32.toInt (hcw_e392.2.2 _ (by omega)).1).trans hs49
                have hs52 : (ca371 52 v341.toNatClampNeg).toInt = _ := (congrArg Int32.toInt (hcw_e392.2.2 _ (by omega)).2.2.2).trans hs52
                have hsy : SyV ca371 (cf370 48).toInt ys v341 := hsy.cg hcw_e392 (by omega) (by omega)
                have e393 : R_mp_know z5 (1 : Int32) (0 : Int32) v341 cf338 ca339 cf370 ca371 := e393
                have hwr : WrV cf370 (tf 6).toInt := WrV.eq hwr (by omega) (by omega)
                refine lv_aload_n S.x S.b d_Mpg_declare_223 rfl (lv_at hl 1 rfl) ?_
                refine gP_21 S hT hw 0 rfl m10_7 d_Mpg_declare_224 ?_
                refine lv_iload_n S.x S.b d_Mpg_declare_227 rfl (lv_at hl 4 rfl) ?_
                refine px_iald S hT hw 0 17 (n := 2100) (f := (na 21)) rfl gp_21 (x := x7_3) (vp_in_iff.mpr (by constructor <;> omega)) d_Mpg_declare_228 ?_
                refine lv_topi (fun z394 ez394 => ?_)
                have lz394 := Int32.le_toInt z394
                have uz394 := Int32.toInt_lt z394
                refine lv_istore_n (lv' := [(3, .int z394), (4, .int z5), (0, .ref h), (1, .int p0), (2, .int p1)]) S.x S.b d_Mpg_declare_229 rfl hl (by decide) rfl (fun ls hl => ?_)
                refine lv_goto (tgt := 7) S.x S.b d_Mpg_declare_230 (by decide) ?_
                first | exact ih7 ma366 cf370 ca371 md3 (wr_7 - wv4) z394 _ _ ls (show (cf370 30).toInt = 0 → (cf 30).toInt = 0 from by omega) (show WrV cf370 (tf 6).toInt from hwr) (show (cf370 37).toInt = (cf 37).toInt from (oz_0867352dd7 k7_2 e377 e18 e351 hkk37_e319)) (show (cf370 38).toInt = (cf 38).toInt from (oz_0867352dd7 k7_3 e378 e13 e352 e322)) (show (cf370 43).toInt = (cf 43).toInt from (oz_0867352dd7 k7_4 e381 e20 e355 hkk43_e319)) (show (cf370 44).toInt = (cf 44).toInt from (oz_0867352dd7 k7_5 e382 e21 e356 hkk44_e319)) (show (cf370 45).toInt = (cf 45).toInt from (oz_0867352dd7 k7_6 e383 e22 e357 hkk45_e319)) (show (cf370 46).toInt = (cf 46).toInt from (oz_0867352dd7 k7_7 e384 e15 e358 e324)) (show (cf370 47).toInt = (cf 47).toInt from (oz_0867352dd7 k7_8 e385 e16 e359 e325)) (show (cf370 41).toInt = (cf 41).toInt from (oz_0867352dd7 k7_9 e379 e27 e353 hkk41_e319)) (show (cf370 55).toInt = (cf 55).toInt from (oz_0867352dd7 k7_10 e388 e24 e360 hkk55_e319)) (show (cf370 59).toInt = (cf 59).toInt from (oz_0867352dd7 k7_11 e391 e26 e363 hkk59_e319)) (show (cf 33).toInt ≤ (cf370 33).toInt from (oz_a101ed4aa6 k7_12 e374 e12 e350 e321)) (show 6 * (cf370 33).toInt ≤ 6 * (cf 33).toInt + (w - (wr_7 - wv4)) from by omega) (show (cf 48).toInt ≤ (cf370 48).toInt from (oz_788511b878 k7_20 e386 k7_16 k7_18 e14 hsb_e392.2 e323)) (show 6 * (cf370 48).toInt ≤ 6 * (cf 48).toInt + (w - (wr_7 - wv4)) from by omega) (show (cf 54).toInt ≤ (cf370 54).toInt from (oz_39bc41608f k7_16 e387 e23 e344 hkk54_e319)) (show (cf 42).toInt ≤ (cf370 42).toInt from (oz_47ce8e110c k7_18 e380 k7_16 e19 e354 hkk42_e319 tz332)) (show (cf370 54).toInt - (cf 54).toInt ≤ 4 * ((cf370 42).toInt - (cf 42).toInt) from (oz_0159125df4 k7_18 e380 e387 e19 e23 e354 e346 hkk42_e319 hkk54_e319 tz332)) (show (cf370 54).toInt - (cf 54).toInt ≤ 4096 * ((cf370 48).toInt - (cf 48).toInt) from (oz_0e3be830c4 k7_19 e386 e387 e14 e23 e345 hsb_e392.2 e323 hkk54_e319)) (show (cf370 42).toInt - (cf 42).toInt ≤ 4096 * ((cf370 48).toInt - (cf 48).toInt) from (oz_f6b9fff360 k7_20 e380 e386 e14 e19 e354 hsb_e392.2 e323 hkk42_e319 tz332)) (show KnT (tf 6).toInt ca371 (cf370 33).toInt from (KnT.eq hkt (by omega))) (show KnS ca371 (cf370 33).toInt (cf370 48).toInt ys from (KnS.eq hks (by omega) (by omega))) (show CaG ca ca371 (cf 33).toInt (cf 48).toInt from (hcg.le (by omega) (by omega))) (show SyR ca371 ys (cf370 48).toInt (cf370 54).toInt tx from (SyR.eq hsr (by omega) (by omega))) (show Ann na ma0 ma366 from han) (show FrC lo hi ma ma366 from hfc) (show Sy3 ca371 (cf 48).toInt (cf370 48).toInt from (Sy3.eq hs3 (by omega))) (show lo ≤ md3 from hm1_md3) (show p0.toInt + 1 ≤ md3 from by omega) (show md3 ≤ hi from hm2_md3) (show 0 ≤ (wr_7 - wv4) from by omega) (show (wr_7 - wv4) ≤ w from by omega) (show RvV ta (tf 6).toInt na ma0 d md3 hi (wr_7 - wv4) z394 from (by rw [ez394]; exact hrv2)) (show ZTs cf370 ta ca371 na ma0 (cf370 48).toInt ys nf ma366 lo md3 (na 17 p0.toNatClampNeg) z394 tv from (ZTs.nx (ZTs.to hzts (fun q => by omega) (by omega) (Int.le_refl _) (by omega) rfl) (show ZTe cf370 ta ca371 na ma0 (cf370 48).toInt ys nf ma366 lo md3 x7_3 tv from (fun zz => tyv_1 ⟨by omega, by omega, by omega⟩ (by omega) (by omega) (by rw [hv_20_x7_3]; exact hsy) (ha_z312.trans (Ann.v18 han (by omega)).symm) (Or.inr ⟨(by rw [Ann.v22 han (by omega)]; omega), (fun r9 => absurd r9 (by omega))⟩))) (by omega) ez394)) (show K_mp_declare_7 tf ta na p0 p1 ma cf ca ma366 cf370 ca371 z394 from (fun y_f0 y_f1 y_f2 k hE => k7_35 y_f0 y_f1 y_f2 (k + 1) (Or.inr (Or.inl ⟨rfl, x7_3, rfl, rfl, rfl, rfl, rfl, Or.inr ⟨nc1, z5, ez5, cf7, e28, z29, ez29, Or.inl ⟨nc30, z32, ez32, Or.inr ⟨nc33, Or.inr ⟨nc161, z312, ez312, ma315, cf316, v318, e330, z332, ez332, z333, ez333, Or.inl ⟨nc334, cf338, ca339, v341, e365, ma366, hu_ma366, v341, ez367, cf370, ca371, e393, z394, ez394, hE⟩⟩⟩⟩⟩⟩)))) (show hi - md3 < (n_7 : Int) from by omega) hw (lv_sub hl [2, 3, 4, 0] rfl) | (exact ih7 ma366 cf370 ca371 md3 (wr_7 - wv4) z394 _ _ ls (show (cf370 30).toInt = 0 → (cf 30).toInt = 0 from by omega) (show WrV cf370 (tf 6).toInt from hwr) (show (cf370 37).toInt = (cf 37).toInt from by first | exact oz_0867352dd7 k7_2 e377 e18 e351 hkk37_e319 | omega) (show (cf370 38).toInt = (cf 38).toInt from by first | exact oz_0867352dd7 k7_3 e378 e13 e352 e322 | omega) (show (cf370 43).toInt = (cf 43).toInt from by first | exact oz_0867352dd7 k7_4 e381 e20 e355 hkk43_e319 | omega) (show (cf370 44).toInt = (cf 44).toInt from by first | exact oz_0867352dd7 k7_5 e382 e21 e356 hkk44_e319 | omega) (show (cf370 45).toInt = (cf 45).toInt from by first | exact oz_0867352dd7 k7_6 e383 e22 e357 hkk45_e319 | omega) (show (cf370 46).toInt = (cf 46).toInt from by first | exact oz_0867352dd7 k7_7 e384 e15 e358 e324 | omega) (show (cf370 47).toInt = (cf 47).toInt from by first | exact oz_0867352dd7 k7_8 e385 e16 e359 e325 | omega) (show (cf370 41).toInt = (cf 41).toInt from by first | exact oz_0867352dd7 k7_9 e379 e27 e353 hkk41_e319 | omega) (show (cf370 55).toInt = (cf 55).toInt from by first | exact oz_0867352dd7 k7_10 e388 e24 e360 hkk55_e319 | omega) (show (cf370 59).toInt = (cf 59).toInt from by first | exact oz_0867352dd7 k7_11 e391 e26 e363 hkk59_e319 | omega) (show (cf 33).toInt ≤ (cf370 33).toInt from by first | exact oz_a101ed4aa6 k7_12 e374 e12 e350 e321 | omega) (show 6 * (cf370 33).toInt ≤ 6 * (cf 33).toInt + (w - (wr_7 - wv4)) from by omega) (show (cf 48).toInt ≤ (cf370 48).toInt from by first | exact oz_788511b878 k7_20 e386 k7_16 k7_18 e14 hsb_e392.2 e323 | omega) (show 6 * (cf370 48).toInt ≤ 6 * (cf 48).toInt + (w - (wr_7 - wv4)) from by omega) (show (cf 54).toInt ≤ (cf370 54).toInt from by first | exact oz_39bc41608f k7_16 e387 e23 e344 hkk54_e319 | omega) (show (cf 42).toInt ≤ (cf370 42).toInt from by first | exact oz_47ce8e110c k7_18 e380 k7_16 e19 e354 hkk42_e319 tz332 | omega) (show (cf370 54).toInt - (cf 54).toInt ≤ 4 * ((cf370 42).toInt - (cf 42).toInt) from by first | exact oz_0159125df4 k7_18 e380 e387 e19 e23 e354 e346 hkk42_e319 hkk54_e319 tz332 | omega) (show (cf370 54).toInt - (cf 54).toInt ≤ 4096 * ((cf370 48).toInt - (cf 48).toInt) from by first | exact oz_0e3be830c4 k7_19 e386 e387 e14 e23 e345 hsb_e392.2 e323 hkk54_e319 | omega) (show (cf370 42).toInt - (cf 42).toInt ≤ 4096 * ((cf370 48).toInt - (cf 48).toInt) from by first | exact oz_f6b9fff360 k7_20 e380 e386 e14 e19 e354 hsb_e392.2 e323 hkk42_e319 tz332 | omega) (show KnT (tf 6).toInt ca371 (cf370 33).toInt from (KnT.eq hkt (by omega))) (show KnS ca371 (cf370 33).toInt (cf370 48).toInt ys from (KnS.eq hks (by omega) (by omega))) (show CaG ca ca371 (cf 33).toInt (cf 48).toInt from (hcg.le (by omega) (by omega))) (show SyR ca371 ys (cf370 48).toInt (cf370 54).toInt tx from (SyR.eq hsr (by omega) (by omega))) (show Ann na ma0 ma366 from han) (show FrC lo hi ma ma366 from hfc) (show Sy3 ca371 (cf 48).toInt (cf370 48).toInt from (Sy3.eq hs3 (by omega))) (show lo ≤ md3 from by first | exact hm1_md3 | omega) (show p0.toInt + 1 ≤ md3 from by omega) (show md3 ≤ hi from by first | exact hm2_md3 | omega) (show 0 ≤ (wr_7 - wv4) from by omega) (show (wr_7 - wv4) ≤ w from by omega) (show RvV ta (tf 6).toInt na ma0 d md3 hi (wr_7 - wv4) z394 from (by rw [ez394]; exact hrv2)) (show ZTs cf370 ta ca371 na ma0 (cf370 48).toInt ys nf ma366 lo md3 (na 17 p0.toNatClampNeg) z394 tv from (ZTs.nx (ZTs.to hzts (fun q => by omega) (by omega) (Int.le_refl _) (by omega) rfl) (show ZTe cf370 ta ca371 na ma0 (cf370 48).toInt ys nf ma366 lo md3 x7_3 tv from (fun zz => tyv_1 ⟨by omega, by omega, by omega⟩ (by omega) (by omega) (by rw [hv_20_x7_3]; exact hsy) (ha_z312.trans (Ann.v18 han (by omega)).symm) (Or.inr ⟨(by rw [Ann.v22 han (by omega)]; omega), (fun r9 => absurd r9 (by omega))⟩))) (by omega) ez394)) (show K_mp_declare_7 tf ta na p0 p1 ma cf ca ma366 cf370 ca371 z394 from (fun y_f0 y_f1 y_f2 k hE => k7_35 y_f0 y_f1 y_f2 (k + 1) (Or.inr (Or.inl ⟨rfl, x7_3, rfl, rfl, rfl, rfl, rfl, Or.inr ⟨nc1, z5, ez5, cf7, e28, z29, ez29, Or.inl ⟨nc30, z32, ez32, Or.inr ⟨nc33, Or.inr ⟨nc161, z312, ez312, ma315, cf316, v318, e330, z332, ez332, z333, ez333, Or.inl ⟨nc334, cf338, ca339, v341, e365, ma366, hu_ma366, v341, ez367, cf370, ca371, e393, z394, ez394, hE⟩⟩⟩⟩⟩⟩)))) (show hi - md3 < (n_7 : Int) from by omega) hw (lv_sub hl [2, 3, 4, 0] rfl))
              · have nc334 : z333.toInt = (1 : Int) := (i_eq (x := z333) (y := 1)).mp c334
                refine lv_iconst (v := 1) S.x S.b d_Mpg_declare_199 (by decide) ?_
                refine lv_goto (tgt := 204) S.x S.b d_Mpg_declare_200 (by decide) ?_
                refine lv_iconst (v := 1) S.x S.b d_Mpg_declare_204 (by decide) ?_
                first | refine px_calli (pr := []) (px_runV (As := [.int 1, .int 1]) (rest := [.int x7_3, .ref (r 20)]) S (c_mp_lay l D cs h r g tf ta pf na ma315 wa ef ea xf xa (upd cf316 42 z332) ca_7 1 1  (show 0 ≤ (cf316 48).toInt from (oz_34de85669e e323 e14 k7_20 g14 g15 k7_16 k7_18)) (show (cf316 48).toInt < 1100 from (oz_75b62dc8f3 e323 e14 k7_15 g8 k7_31)) (show 0 ≤ (1 : Int) from oz_19c3a41681) (show (1 : Int) ≤ 5 from oz_abfa5d2d35) (show 0 ≤ (1 : Int) from oz_19c3a41681) (show (1 : Int) ≤ 4096 from oz_79b5d9fede) (show 0 ≤ (cf316 54).toInt from (oz_9bcc310e9c hkk54_e319 e23 k7_16 g12)) (show (cf316 54).toInt ≤ 40000000 from (oz_17a0157d43 hkk54_e319 e23 k7_19 g8 g13 k7_15 k7_31)) htk _) hT (pr := []) (pcs := [wdP cs h r g tf ta pf na ma315 wa (upd cf316 42 z332) ca_7 ef ea xf xa]) hw px_X.tt (px_recv hT hw 0 0 rfl rfl rfl) m12_189 m12_186 m12_188 ms_12_0 m1_21 q_Mpg_lay ⟨show 0 + 1 ≤ (4 * d + 22) from (oz_c3745992a4), show 8 + (3 + 11) + 0 ≤ (200 * d + 780) from (oz_f51a49eea8)⟩ hl.1 rfl (Nat.le_of_ble_eq_true rfl) d_Mpg_declare_205 ⟨Nat.le_of_ble_eq_true rfl, Nat.le_of_ble_eq_true rfl⟩) hw hA (fun v400 p399 H locs hp399 hw => ?_) | (refine px_calli (pr := []) (px_runV (As := [.int 1, .int 1]) (rest := [.int x7_3, .ref (r 20)]) S (c_mp_lay l D cs h r g tf ta pf na ma315 wa ef ea xf xa (upd cf316 42 z332) ca_7 1 1  (show 0 ≤ (cf316 48).toInt from by first | exact oz_34de85669e e323 e14 k7_20 g14 g15 k7_16 k7_18 | omega) (show (cf316 48).toInt < 1100 from by first | exact oz_75b62dc8f3 e323 e14 k7_15 g8 k7_31 | omega) (show 0 ≤ (1 : Int) from by first | exact oz_19c3a41681 | omega) (show (1 : Int) ≤ 5 from by first | exact oz_abfa5d2d35 | omega) (show 0 ≤ (1 : Int) from by first | exact oz_19c3a41681 | omega) (show (1 : Int) ≤ 4096 from by first | exact oz_79b5d9fede | omega) (show 0 ≤ (cf316 54).toInt from by first | exact oz_9bcc310e9c hkk54_e319 e23 k7_16 g12 | omega) (show (cf316 54).toInt ≤ 40000000 from by first | exact oz_17a0157d43 hkk54_e319 e23 k7_19 g8 g13 k7_15 k7_31 | omega) htk _) hT (pr := []) (pcs := [wdP cs h r g tf ta pf na ma315 wa (upd cf316 42 z332) ca_7 ef ea xf xa]) hw px_X.tt (px_recv hT hw 0 0 rfl rfl rfl) m12_189 m12_186 m12_188 ms_12_0 m1_21 q_Mpg_lay ⟨show 0 + 1 ≤ (4 * d + 22) from (by first | exact oz_c3745992a4 | omega), show 8 + (3 + 11) + 0 ≤ (200 * d + 780) from (by first | exact oz_f51a49eea8 | omega)⟩ hl.1 rfl (Nat.le_of_ble_eq_true rfl) d_Mpg_declare_205 ⟨Nat.le_of_ble_eq_true rfl, Nat.le_of_ble_eq_true rfl⟩) hw hA (fun v400 p399 H locs hp399 hw => ?_))
                obtain ⟨cf397, ca398, rfl, e401, e402, e403, e404, e405, e406, e407, e408, e409, e410, e411, e412, e413, e414, e415, e416, e417, e418, e419, e420, e421, e422, e423, e424⟩ := hp399
                have e401 : v400.toInt = (cf316 48).toInt := e401
                have e402 : (cf397 48).toInt = (cf316 48).toInt + 1 := e402
                have e403 : (cf316 54).toInt ≤ (cf397 54).toInt := e403
                have e404 : (cf397 54).toInt ≤ (cf316 54).toInt + 4096 := e404
                have e405 : (1 : Int) ≤ 3 → (cf397 54).toInt = (cf316 54).toInt + (1 : Int) := e405
                have e406 : 4 ≤ (1 : Int) → (cf397 54).toInt = (cf316 54).toInt + 2 := e406
                have e407 : (cf397 30).toInt = (cf316 30).toInt := e407
                have e408 : (cf397 31).toInt = (cf316 31).toInt := e408
                have e409 : (cf397 33).toInt = (cf316 33).toInt := e409
                have e410 : (cf397 37).toInt = (cf316 37).toInt := e410
                have e411 : (cf397 38).toInt = (cf316 38).toInt := e411
                have e412 : (cf397 41).toInt = (cf316 41).toInt := e412
                have e413 : (cf397 42).toInt = z332.toInt := e413
                have e414 : (cf397 43).toInt = (cf316 43).toInt := e414
                have e415 : (cf397 44).toInt = (cf316 44).toInt := e415
                have e416 : (cf397 45).toInt = (cf316 45).toInt := e416
                have e417 : (cf397 46).toInt = (cf316 46).toInt := e417
                have e418 : (cf397 47).toInt = (cf316 47).toInt := e418
                have e419 : (cf397 55).toInt = (cf316 55).toInt := e419
                have e420 : (cf397 57).toInt = (cf316 57).toInt := e420
                have e421 : (cf397 58).toInt = (cf316 58).toInt := e421
                have e422 : (cf397 59).toInt = (cf316 59).toInt := e422
                have e423 : LyU ca_7 ca398 (cf316 48) (1 : Int32) (cf316 54) (1 : Int32) (txo (cf316 43).toInt) := e423
                have hlu : LyU ca_7 ca398 (cf316 48) (1 : Int32) (cf316 54) (1 : Int32) tx := (by rw [← htx]; exact (by rw [show (cf 43).toInt = (cf316 43).toInt by omega]; exact e423))
                have hcl_e423 : CaG ca_7 ca398 (cf397 33).toInt (cf316 48).toInt := cag_ly hlu (by omega) (by omega)
                have hsr : SyR ca398 ys (cf397 48).toInt (cf397 54).toInt tx := SyR.eq (SyR.ly (cells' := (cf397 54).toInt) (SyR.eq hsr (ns' := (cf316 48).toInt) (by omega) rfl) hlu rfl (by omega) (by omega) (by omega) ⟨by omega, by omega⟩ ⟨by omega, by omega⟩ (fun q => by omega) (fun q => by omega) (fun q => by omega)) (by omega) rfl
                have hkt := hkt.cg hcl_e423 (by omega)
                have hks := hks.cg hcl_e423 (by omega) (by omega) (n2 := (cf397 48).toInt) (by omega)
                have hcg := hcg.tr hcl_e423 (by omega) (by omega)
                have hft := hft.cg hcl_e423
                have hfp := hfp.cg hcl_e423
                have hzts : ZTs cf397 ta ca398 na ma0 (cf397 48).toInt ys nf ma315 lo mid_7 (na 17 p0.toNatClampNeg) x7_3 tv := ZTs.tr hzts (fun q => by omega) (FrC.rf (lo := 0) (hi := 0)) (by omega) hcl_e423 (by omega) (by omega)
                have hs49 : (ca398 49 (cf316 48).toNatClampNeg).toInt = (1 : Int) := (by rw [hlu.2.1 (by omega) (by omega)]; rfl)
                have hs52 : (ca398 52 (cf316 48).toNatClampNeg).toInt = (1 : Int) := (by rw [hlu.2.2.2.1]; rfl)
                have hsy : SyV ca398 (cf397 48).toInt ys (cf316 48) := hlu.sv (by omega) (by omega) ⟨by omega, by omega⟩ (by omega)
                have hs3 : Sy3 ca398 (cf 48).toInt (cf397 48).toInt := Sy3.eq (Sy3.ly (Sy3.eq hs3 (b' := (cf316 48).toInt) (by omega)) hlu rfl (by omega) (by omega)) (by omega)
                have e424 : R_mp_lay (1 : Int32) (1 : Int32) (upd cf316 42 z332) ca_7 cf397 ca398 v400 := e424
                have hwr : WrV cf397 (tf 6).toInt := WrV.eq hwr (by omega) (by omega)
                have lv400 := Int32.le_toInt v400
                have uv400 := Int32.toInt_lt v400
                have hyv : (cf316 48) = v400 := i_eq.mpr (by omega); rw [hyv] at hsy hs49 hs52
                refine px_iast S hT hw 0 16 (n := 2100) (f := (ma315 20)) (x := x7_3) (y := v400) rfl gp_20 (vp_in_iff.mpr (by constructor <;> omega)) d_Mpg_declare_208 (w' := wdP cs h r g tf ta pf na (va_up ma315 20 (upd (ma315 20) x7_3.toNatClampNeg v400)) wa cf397 ca398 ef ea xf xa) (ps' := [wdP cs h r g tf ta pf na (va_up ma315 20 (upd (ma315 20) x7_3.toNatClampNeg v400)) wa cf397 ca398 ef ea xf xa]) sp_20 rfl (fun H locs hw => ?_)
                obtain ⟨ma425, hu_ma425⟩ : ∃ y : Nat → Nat → Int32, y = va_up ma315 20 (upd (ma315 20) x7_3.toNatClampNeg v400) := ⟨_, rfl⟩
                have hw : pw D A s.heap _ _ [wdP cs h r g tf ta pf na ma425 wa cf397 ca398 ef ea xf xa] := (by rw [hu_ma425]; exact hw)
                have hf1_ma425 : FrC x7_3.toInt (x7_3.toInt + 1) ma315 ma425 := (by rw [hu_ma425]; exact FrC.w FrC.rf (by omega) (by omega) (by omega))
                have han : Ann na ma0 ma425 := (by rw [hu_ma425]; exact Ann.w20 han (by omega))
                have hfc := hfc.tr hf1_ma425 (by omega) (by omega)
                have hzts : ZTs cf397 ta ca398 na ma0 (cf397 48).toInt ys nf ma425 lo mid_7 (na 17 p0.toNatClampNeg) x7_3 tv := ZTs.tr hzts (fun q => by omega) hf1_ma425 (by omega) (CaG.rf (kn := 0) (ns := 5000)) (by omega) (by omega)
                have hv_20_x7_3 : ma425 20 x7_3.toNatClampNeg = v400 := (by rw [hu_ma425, va_up_s, pk_us])
                have hnhv_20_x7_3 : (ma425 20 x7_3.toNatClampNeg).toInt = v400.toInt := (by rw [hv_20_x7_3])
                refine lv_aload_n S.x S.b d_Mpg_declare_209 rfl (lv_at hl 1 rfl) ?_
                refine lv_iload S.x S.b d_Mpg_declare_210 (lv_at hl 0 rfl) ?_
                refine lv_iconst (v := 1) S.x S.b d_Mpg_declare_212 (by decide) ?_
                refine lv_iconst (v := 0) S.x S.b d_Mpg_declare_213 (by decide) ?_
                refine lv_aload_n S.x S.b d_Mpg_declare_214 rfl (lv_at hl 1 rfl) ?_
                refine gP_20 S hT hw 0 rfl m10_6 d_Mpg_declare_215 ?_
                refine lv_iload_n S.x S.b d_Mpg_declare_218 rfl (lv_at hl 4 rfl) ?_
                refine px_iald S hT hw 0 16 (n := 2100) (f := (ma425 20)) rfl gp_20 (x := x7_3) (vp_in_iff.mpr (by constructor <;> omega)) d_Mpg_declare_219 ?_
                refine lv_topi (fun z426 ez426 => ?_)
                have lz426 := Int32.le_toInt z426
                have uz426 := Int32.toInt_lt z426
                have hsz426 : v400 = z426 := (ez426.trans hv_20_x7_3).symm; subst hsz426
                first | refine px_callv (pr := []) (px_runV (As := [.int z5, .int 1, .int 0, .int v400]) (rest := []) S (c_mp_know l D cs h r g tf ta pf na ma425 wa ef ea xf xa cf397 ca398 z5 1 0 v400  (show 0 ≤ (cf397 33).toInt from (oz_eb53d9d016 e409 e321 e12 k7_12 g4)) (show (cf397 33).toInt < 1100 from (oz_3ef51c39d5 e409 e321 e12 k7_13 g6 k7_31)) htk _) hT (pr := []) (pcs := [wdP cs h r g tf ta pf na ma425 wa cf397 ca398 ef ea xf xa]) hw px_X.tt (px_recv hT hw 0 0 rfl rfl rfl) m12_193 m12_190 m12_192 ms_12_1 m1_21 q_Mpg_know ⟨show 0 + 1 ≤ (4 * d + 22) from (oz_c3745992a4), show 8 + (5 + 11) + 0 ≤ (200 * d + 780) from (oz_7102db9304)⟩ hl.1 rfl (Nat.le_of_ble_eq_true rfl) d_Mpg_declare_220 ⟨Nat.le_of_ble_eq_true rfl, Nat.le_of_ble_eq_true rfl⟩) hw hA (fun p431 H locs hp431 hw => ?_) | (refine px_callv (pr := []) (px_runV (As := [.int z5, .int 1, .int 0, .int v400]) (rest := []) S (c_mp_know l D cs h r g tf ta pf na ma425 wa ef ea xf xa cf397 ca398 z5 1 0 v400  (show 0 ≤ (cf397 33).toInt from by first | exact oz_eb53d9d016 e409 e321 e12 k7_12 g4 | omega) (show (cf397 33).toInt < 1100 from by first | exact oz_3ef51c39d5 e409 e321 e12 k7_13 g6 k7_31 | omega) htk _) hT (pr := []) (pcs := [wdP cs h r g tf ta pf na ma425 wa cf397 ca398 ef ea xf xa]) hw px_X.tt (px_recv hT hw 0 0 rfl rfl rfl) m12_193 m12_190 m12_192 ms_12_1 m1_21 q_Mpg_know ⟨show 0 + 1 ≤ (4 * d + 22) from (by first | exact oz_c3745992a4 | omega), show 8 + (5 + 11) + 0 ≤ (200 * d + 780) from (by first | exact oz_7102db9304 | omega)⟩ hl.1 rfl (Nat.le_of_ble_eq_true rfl) d_Mpg_declare_220 ⟨Nat.le_of_ble_eq_true rfl, Nat.le_of_ble_eq_true rfl⟩) hw hA (fun p431 H locs hp431 hw => ?_))
                obtain ⟨cf429, ca430, rfl, e433, e434, e435, e436, e437, e438, e439, e440, e441, e442, e443, e444, e445, e446, e447, e448, e449, e450, e451, e452⟩ := hp431
                have e433 : (cf429 33).toInt = (cf397 33).toInt + 1 := e433
                have e434 : (cf429 30).toInt = (cf397 30).toInt := e434
                have e435 : (cf429 31).toInt = (cf397 31).toInt := e435
                have e436 : (cf429 37).toInt = (cf397 37).toInt := e436
                have e437 : (cf429 38).toInt = (cf397 38).toInt := e437
                have e438 : (cf429 41).toInt = (cf397 41).toInt := e438
                have e439 : (cf429 42).toInt = (cf397 42).toInt := e439
                have e440 : (cf429 43).toInt = (cf397 43).toInt := e440
                have e441 : (cf429 44).toInt = (cf397 44).toInt := e441
                have e442 : (cf429 45).toInt = (cf397 45).toInt := e442
                have e443 : (cf429 46).toInt = (cf397 46).toInt := e443
                have e444 : (cf429 47).toInt = (cf397 47).toInt := e444
                have e445 : (cf429 48).toInt = (cf397 48).toInt := e445
                have e446 : (cf429 54).toInt = (cf397 54).toInt := e446
                have e447 : (cf429 55).toInt = (cf397 55).toInt := e447
                have e448 : (cf429 57).toInt = (cf397 57).toInt := e448
                have e449 : (cf429 58).toInt = (cf397 58).toInt := e449
                have e450 : (cf429 59).toInt = (cf397 59).toInt := e450
                have e451 : KwU ca398 ca430 (cf397 33) z5 (1 : Int32) (0 : Int32) v400 := e451
                have hcw_e451 : CaG ca398 ca430 (cf397 33).toInt (cf429 48).toInt := cag_kw e451 (by omega) (by omega)
                have hkt : KnT (tf 6).toInt ca430 (cf429 33).toInt := KnT.eq (KnT.kw (KnT.eq hkt (n' := (cf397 33).toInt) (by omega)) e451 rfl (by omega) (by omega) ⟨by omega, by omega⟩) (by omega)
                have hks : KnS ca430 (cf429 33).toInt (cf429 48).toInt ys := KnS.eq (KnS.kw (KnS.eq hks (n' := (cf397 33).toInt) (by omega) rfl) e451 rfl (by omega) (Or.inl ⟨by omega, hsy⟩)) (by omega) (by omega)
                have hcg := hcg.tr hcw_e451 (by omega) (by omega)
                have hft := hft.cg hcw_e451
                have hfp := hfp.cg hcw_e451
                have hsr := hsr.cg hcw_e451 (by omega)
                have hzts : ZTs cf429 ta ca430 na ma0 (cf429 48).toInt ys nf ma425 lo mid_7 (na 17 p0.toNatClampNeg) x7_3 tv := ZTs.tr hzts (fun q => by omega) (FrC.rf (lo := 0) (hi := 0)) (by omega) hcw_e451 (by omega) (by omega)
                have hs3 : Sy3 ca430 (cf 48).toInt (cf429 48).toInt := Sy3.eq (hs3.cg hcw_e451 (by omega)) (by omega)
                have hsb_e451 := hsy.1.1
                first | have hcy_e451 := cl_nat (x := v400) ((oz_f3ebed1ad0 e401 hsb_e451.1)) | (have hcy_e451 := cl_nat (x := v400) (by first | exact oz_f3ebed1ad0 e401 hsb_e451.1 | omega))
                have hs49 : (ca430 49 v400.toNatClampNeg).toInt = _ := (congrArg Int32.toInt (hcw_e451.2.2 _ (by omega)).1).trans hs49
                have hs52 : (ca430 52 v400.toNatClampNeg).toInt = _ := (congrArg Int32.toInt (hcw_e451.2.2 _ (by omega)).2.2.2).trans hs52
                have hsy : SyV ca430 (cf429 48).toInt ys v400 := hsy.cg hcw_e451 (by omega) (by omega)
                have e452 : R_mp_know z5 (1 : Int32) (0 : Int32) v400 cf397 ca398 cf429 ca430 := e452
                have hwr : WrV cf429 (tf 6).toInt := WrV.eq hwr (by omega) (by omega)
                refine lv_aload_n S.x S.b d_Mpg_declare_223 rfl (lv_at hl 1 rfl) ?_
                refine gP_21 S hT hw 0 rfl m10_7 d_Mpg_declare_224 ?_
                refine lv_iload_n S.x S.b d_Mpg_declare_227 rfl (lv_at hl 4 rfl) ?_
                refine px_iald S hT hw 0 17 (n := 2100) (f := (na 21)) rfl gp_21 (x := x7_3) (vp_in_iff.mpr (by constructor <;> omega)) d_Mpg_declare_228 ?_
                refine lv_topi (fun z453 ez453 => ?_)
                have lz453 := Int32.le_toInt z453
                have uz453 := Int32.toInt_lt z453
                refine lv_istore_n (lv' := [(3, .int z453), (4, .int z5), (0, .ref h), (1, .int p0), (2, .int p1)]) S.x S.b d_Mpg_declare_229 rfl hl (by decide) rfl (fun ls hl => ?_)
                refine lv_goto (tgt := 7) S.x S.b d_Mpg_declare_230 (by decide) ?_
                first | exact ih7 ma425 cf429 ca430 md3 (wr_7 - wv4) z453 _ _ ls (show (cf429 30).toInt = 0 → (cf 30).toInt = 0 from by omega) (show WrV cf429 (tf 6).toInt from hwr) (show (cf429 37).toInt = (cf 37).toInt from (oz_0867352dd7 k7_2 e436 e18 e410 hkk37_e319)) (show (cf429 38).toInt = (cf 38).toInt from (oz_0867352dd7 k7_3 e437 e13 e411 e322)) (show (cf429 43).toInt = (cf 43).toInt from (oz_0867352dd7 k7_4 e440 e20 e414 hkk43_e319)) (show (cf429 44).toInt = (cf 44).toInt from (oz_0867352dd7 k7_5 e441 e21 e415 hkk44_e319)) (show (cf429 45).toInt = (cf 45).toInt from (oz_0867352dd7 k7_6 e442 e22 e416 hkk45_e319)) (show (cf429 46).toInt = (cf 46).toInt from (oz_0867352dd7 k7_7 e443 e15 e417 e324)) (show (cf429 47).toInt = (cf 47).toInt from (oz_0867352dd7 k7_8 e444 e16 e418 e325)) (show (cf429 41).toInt = (cf 41).toInt from (oz_0867352dd7 k7_9 e438 e27 e412 hkk41_e319)) (show (cf429 55).toInt = (cf 55).toInt from (oz_0867352dd7 k7_10 e447 e24 e419 hkk55_e319)) (show (cf429 59).toInt = (cf 59).toInt from (oz_0867352dd7 k7_11 e450 e26 e422 hkk59_e319)) (show (cf 33).toInt ≤ (cf429 33).toInt from (oz_a101ed4aa6 k7_12 e433 e12 e409 e321)) (show 6 * (cf429 33).toInt ≤ 6 * (cf 33).toInt + (w - (wr_7 - wv4)) from by omega) (show (cf 48).toInt ≤ (cf429 48).toInt from (oz_788511b878 k7_20 e445 k7_16 k7_18 e14 hsb_e451.2 e323)) (show 6 * (cf429 48).toInt ≤ 6 * (cf 48).toInt + (w - (wr_7 - wv4)) from by omega) (show (cf 54).toInt ≤ (cf429 54).toInt from (oz_39bc41608f k7_16 e446 e23 e403 hkk54_e319)) (show (cf 42).toInt ≤ (cf429 42).toInt from (oz_47ce8e110c k7_18 e439 k7_16 e19 e413 hkk42_e319 tz332)) (show (cf429 54).toInt - (cf 54).toInt ≤ 4 * ((cf429 42).toInt - (cf 42).toInt) from (oz_217fccdeec k7_18 e439 e446 e19 e23 e413 e405 hkk42_e319 hkk54_e319 tz332)) (show (cf429 54).toInt - (cf 54).toInt ≤ 4096 * ((cf429 48).toInt - (cf 48).toInt) from (oz_0e3be830c4 k7_19 e445 e446 e14 e23 e404 hsb_e451.2 e323 hkk54_e319)) (show (cf429 42).toInt - (cf 42).toInt ≤ 4096 * ((cf429 48).toInt - (cf 48).toInt) from (oz_f6b9fff360 k7_20 e439 e445 e14 e19 e413 hsb_e451.2 e323 hkk42_e319 tz332)) (show KnT (tf 6).toInt ca430 (cf429 33).toInt from (KnT.eq hkt (by omega))) (show KnS ca430 (cf429 33).toInt (cf429 48).toInt ys from (KnS.eq hks (by omega) (by omega))) (show CaG ca ca430 (cf 33).toInt (cf 48).toInt from (hcg.le (by omega) (by omega))) (show SyR ca430 ys (cf429 48).toInt (cf429 54).toInt tx from (SyR.eq hsr (by omega) (by omega))) (show Ann na ma0 ma425 from han) (show FrC lo hi ma ma425 from hfc) (show Sy3 ca430 (cf 48).toInt (cf429 48).toInt from (Sy3.eq hs3 (by omega))) (show lo ≤ md3 from hm1_md3) (show p0.toInt + 1 ≤ md3 from by omega) (show md3 ≤ hi from hm2_md3) (show 0 ≤ (wr_7 - wv4) from by omega) (show (wr_7 - wv4) ≤ w from by omega) (show RvV ta (tf 6).toInt na ma0 d md3 hi (wr_7 - wv4) z453 from (by rw [ez453]; exact hrv2)) (show ZTs cf429 ta ca430 na ma0 (cf429 48).toInt ys nf ma425 lo md3 (na 17 p0.toNatClampNeg) z453 tv from (ZTs.nx (ZTs.to hzts (fun q => by omega) (by omega) (Int.le_refl _) (by omega) rfl) (show ZTe cf429 ta ca430 na ma0 (cf429 48).toInt ys nf ma425 lo md3 x7_3 tv from (fun zz => tyv_1 ⟨by omega, by omega, by omega⟩ (by omega) (by omega) (by rw [hv_20_x7_3]; exact hsy) (ha_z312.trans (Ann.v18 han (by omega)).symm) (Or.inr ⟨(by rw [Ann.v22 han (by omega)]; omega), (fun r9 => absurd r9 (by omega))⟩))) (by omega) ez453)) (show K_mp_declare_7 tf ta na p0 p1 ma cf ca ma425 cf429 ca430 z453 from (fun y_f0 y_f1 y_f2 k hE => k7_35 y_f0 y_f1 y_f2 (k + 1) (Or.inr (Or.inl ⟨rfl, x7_3, rfl, rfl, rfl, rfl, rfl, Or.inr ⟨nc1, z5, ez5, cf7, e28, z29, ez29, Or.inl ⟨nc30, z32, ez32, Or.inr ⟨nc33, Or.inr ⟨nc161, z312, ez312, ma315, cf316, v318, e330, z332, ez332, z333, ez333, Or.inr ⟨nc334, cf397, ca398, v400, e424, ma425, hu_ma425, v400, ez426, cf429, ca430, e452, z453, ez453, hE⟩⟩⟩⟩⟩⟩)))) (show hi - md3 < (n_7 : Int) from by omega) hw (lv_sub hl [2, 3, 4, 0] rfl) | (exact ih7 ma425 cf429 ca430 md3 (wr_7 - wv4) z453 _ _ ls (show (cf429 30).toInt = 0 → (cf 30).toInt = 0 from by omega) (show WrV cf429 (tf 6).toInt from hwr) (show (cf429 37).toInt = (cf 37).toInt from by first | exact oz_0867352dd7 k7_2 e436 e18 e410 hkk37_e319 | omega) (show (cf429 38).toInt = (cf 38).toInt from by first | exact oz_0867352dd7 k7_3 e437 e13 e411 e322 | omega) (show (cf429 43).toInt = (cf 43).toInt from by first | exact oz_0867352dd7 k7_4 e440 e20 e414 hkk43_e319 | omega) (show (cf429 44).toInt = (cf 44).toInt from by first | exact oz_0867352dd7 k7_5 e441 e21 e415 hkk44_e319 | omega) (show (cf429 45).toInt = (cf 45).toInt from by first | exact oz_0867352dd7 k7_6 e442 e22 e416 hkk45_e319 | omega) (show (cf429 46).toInt = (cf 46).toInt from by first | exact oz_0867352dd7 k7_7 e443 e15 e417 e324 | omega) (show (cf429 47).toInt = (cf 47).toInt from by first | exact oz_0867352dd7 k7_8 e444 e16 e418 e325 | omega) (show (cf429 41).toInt = (cf 41).toInt from by first | exact oz_0867352dd7 k7_9 e438 e27 e412 hkk41_e319 | omega) (show (cf429 55).toInt = (cf 55).toInt from by first | exact oz_0867352dd7 k7_10 e447 e24 e419 hkk55_e319 | omega) (show (cf429 59).toInt = (cf 59).toInt from by first | exact oz_0867352dd7 k7_11 e450 e26 e422 hkk59_e319 | omega) (show (cf 33).toInt ≤ (cf429 33).toInt from by first | exact oz_a101ed4aa6 k7_12 e433 e12 e409 e321 | omega) (show 6 * (cf429 33).toInt ≤ 6 * (cf 33).toInt + (w - (wr_7 - wv4)) from by omega) (show (cf 48).toInt ≤ (cf429 48).toInt from by first | exact oz_788511b878 k7_20 e445 k7_16 k7_18 e14 hsb_e451.2 e323 | omega) (show 6 * (cf429 48).toInt ≤ 6 * (cf 48).toInt + (w - (wr_7 - wv4)) from by omega) (show (cf 54).toInt ≤ (cf429 54).toInt from by first | exact oz_39bc41608f k7_16 e446 e23 e403 hkk54_e319 | omega) (show (cf 42).toInt ≤ (cf429 42).toInt from by first | exact oz_47ce8e110c k7_18 e439 k7_16 e19 e413 hkk42_e319 tz332 | omega) (show (cf429 54).toInt - (cf 54).toInt ≤ 4 * ((cf429 42).toInt - (cf 42).toInt) from by first | exact oz_217fccdeec k7_18 e439 e446 e19 e23 e413 e405 hkk42_e319 hkk54_e319 tz332 | omega) (show (cf429 54).toInt - (cf 54).toInt ≤ 4096 * ((cf429 48).toInt - (cf 48).toInt) from by first | exact oz_0e3be830c4 k7_19 e445 e446 e14 e23 e404 hsb_e451.2 e323 hkk54_e319 | omega) (show (cf429 42).toInt - (cf 42).toInt ≤ 4096 * ((cf429 48).toInt - (cf 48).toInt) from by first | exact oz_f6b9fff360 k7_20 e439 e445 e14 e19 e413 hsb_e451.2 e323 hkk42_e319 tz332 | omega) (show KnT (tf 6).toInt ca430 (cf429 33).toInt from (KnT.eq hkt (by omega))) (show KnS ca430 (cf429 33).toInt (cf429 48).toInt ys from (KnS.eq hks (by omega) (by omega))) (show CaG ca ca430 (cf 33).toInt (cf 48).toInt from (hcg.le (by omega) (by omega))) (show SyR ca430 ys (cf429 48).toInt (cf429 54).toInt tx from (SyR.eq hsr (by omega) (by omega))) (show Ann na ma0 ma425 from han) (show FrC lo hi ma ma425 from hfc) (show Sy3 ca430 (cf 48).toInt (cf429 48).toInt from (Sy3.eq hs3 (by omega))) (show lo ≤ md3 from by first | exact hm1_md3 | omega) (show p0.toInt + 1 ≤ md3 from by omega) (show md3 ≤ hi from by first | exact hm2_md3 | omega) (show 0 ≤ (wr_7 - wv4) from by omega) (show (wr_7 - wv4) ≤ w from by omega) (show RvV ta (tf 6).toInt na ma0 d md3 hi (wr_7 - wv4) z453 from (by rw [ez453]; exact hrv2)) (show ZTs cf429 ta ca430 na ma0 (cf429 48).toInt ys nf ma425 lo md3 (na 17 p0.toNatClampNeg) z453 tv from (ZTs.nx (ZTs.to hzts (fun q => by omega) (by omega) (Int.le_refl _) (by omega) rfl) (show ZTe cf429 ta ca430 na ma0 (cf429 48).toInt ys nf ma425 lo md3 x7_3 tv from (fun zz => tyv_1 ⟨by omega, by omega, by omega⟩ (by omega) (by omega) (by rw [hv_20_x7_3]; exact hsy) (ha_z312.trans (Ann.v18 han (by omega)).symm) (Or.inr ⟨(by rw [Ann.v22 han (by omega)]; omega), (fun r9 => absurd r9 (by omega))⟩))) (by omega) ez453)) (show K_mp_declare_7 tf ta na p0 p1 ma cf ca ma425 cf429 ca430 z453 from (fun y_f0 y_f1 y_f2 k hE => k7_35 y_f0 y_f1 y_f2 (k + 1) (Or.inr (Or.inl ⟨rfl, x7_3, rfl, rfl, rfl, rfl, rfl, Or.inr ⟨nc1, z5, ez5, cf7, e28, z29, ez29, Or.inl ⟨nc30, z32, ez32, Or.inr ⟨nc33, Or.inr ⟨nc161, z312, ez312, ma315, cf316, v318, e330, z332, ez332, z333, ez333, Or.inr ⟨nc334, cf397, ca398, v400, e424, ma425, hu_ma425, v400, ez426, cf429, ca430, e452, z453, ez453, hE⟩⟩⟩⟩⟩⟩)))) (show hi - md3 < (n_7 : Int) from by omega) hw (lv_sub hl [2, 3, 4, 0] rfl))
        · have nc30 : ¬ z29.toInt < (0 : Int) := mt (i_lt (x := z29) (y := 0)).mpr c30
          refine lv_aload_n S.x S.b d_Mpg_declare_34 rfl (lv_at hl 1 rfl) ?_
          refine lv_aload_n S.x S.b d_Mpg_declare_35 rfl (lv_at hl 1 rfl) ?_
          refine gP_42 (v := (cf7 42)) S hT hw 0 rfl rfl m10_33 d_Mpg_declare_36 ?_
          refine lv_aload_n S.x S.b d_Mpg_declare_39 rfl (lv_at hl 1 rfl) ?_
          refine lv_iload_n S.x S.b d_Mpg_declare_40 rfl (lv_at hl 4 rfl) ?_
          refine lv_aload_n S.x S.b d_Mpg_declare_41 rfl (lv_at hl 1 rfl) ?_
          refine gP_22 S hT hw 0 rfl m10_9 d_Mpg_declare_42 ?_
          refine lv_iload_n S.x S.b d_Mpg_declare_45 rfl (lv_at hl 2 rfl) ?_
          refine px_iald S hT hw 0 18 (n := 2100) (f := (ma_7 22)) rfl gp_22 (x := p0) (vp_in_iff.mpr (by first | exact oz_a7e05de1cd g23 g25 g1 g2 | (constructor <;> omega))) d_Mpg_declare_46 ?_
          refine lv_topi (fun z454 ez454 => ?_)
          have lz454 := Int32.le_toInt z454
          have uz454 := Int32.toInt_lt z454
          have rz454 : z454.toInt = (ma0 22 p0.toNatClampNeg).toInt := (by rw [ez454, Ann.v22 han (by omega)])
          refine lv_iconst (v := 1) S.x S.b d_Mpg_declare_47 (by decide) ?_
          refine lv_icmp_ne (tgt := 55) S.x S.b d_Mpg_declare_48 (by decide) (fun c455 => ?_) (fun c455 => ?_)
          · have nc455 : ¬ z454.toInt = (1 : Int) := mt (i_eq (x := z454) (y := 1)).mpr c455
            refine lv_iconst (v := 0) S.x S.b d_Mpg_declare_55 (by decide) ?_
            first | refine px_calli (pr := []) (px_runV (As := [.int x7_3, .int 0]) (rest := [.int (cf7 42), .ref h]) S (c_mp_declareArray l D cs ma0 ys nf tx d mid_7 md3 wv4 h r g tf ta pf na wa ca_7 ef ea xf xa ma_7 cf7 x7_3 0  (show 0 ≤ mid_7 from (oz_06d7f15a5c k7_29 g23)) (show md3 ≤ (pf 13).toInt from (oz_bbb5b20c1a g1 hm2_md3)) (show (pf 13).toInt ≤ 2100 from g2) (show (tf 6).toInt ≤ 2049 from g3) (show 0 ≤ (cf7 33).toInt from (oz_9921a0d148 e12 k7_12 g4)) (show 0 ≤ wv4 from hm3_md3) (show 6 * (cf7 33).toInt + wv4 ≤ 6540 from by omega) (show 0 ≤ (cf7 48).toInt from (oz_cfab8a20ba e14 k7_20 g14 g15 k7_16 k7_18)) (show 6 * (cf7 48).toInt + wv4 ≤ 6540 from by omega) (show (cf7 38).toInt = nf from (oz_e13fc83238 g9 e13 k7_3)) (show 0 ≤ nf from g10) (show 0 ≤ (cf7 37).toInt from (oz_e2fef14871 e18 k7_2 g11)) (show 0 ≤ (cf7 54).toInt from (oz_9921a0d148 e23 k7_16 g12)) (show (cf7 54).toInt ≤ 4096 * (cf7 48).toInt from (oz_591883cc22 e14 e23 k7_19 g13)) (show 0 ≤ (cf7 42).toInt from (oz_4d7634dc29 e19 k7_18 g14 k7_16)) (show (cf7 42).toInt ≤ 4 + 4096 * (cf7 48).toInt from (oz_28f1d15c37 e14 e19 k7_20 g15)) (show 0 ≤ (cf7 44).toInt from (oz_e2fef14871 e21 k7_5 g16)) (show 0 ≤ (cf7 45).toInt from (oz_e2fef14871 e22 k7_6 g17)) (show ys ≤ (cf7 48).toInt ∨ tx = 1 from by omega) (show 0 ≤ (cf7 46).toInt from (oz_e2fef14871 e15 k7_7 g19)) (show (cf7 46).toInt ≤ 1 from (oz_916d756328 e15 k7_7 g20)) (show 0 ≤ (cf7 47).toInt from (oz_e2fef14871 e16 k7_8 g21)) (show (cf7 47).toInt ≤ 1 from (oz_916d756328 e16 k7_8 g22)) (show 0 ≤ (na 17 x7_3.toNatClampNeg).toInt from (oz_df71656335 rz29 nc30)) (show 0 ≤ (0 : Int) from oz_5a341f00aa) (show (0 : Int) ≤ 1 from oz_6e68cd0f48) htk (FsI.le (N' := (pf 13).toInt) hfs (by omega)) hwr (KnT.eq hkt (by omega)) (FnT.eq hft (by omega)) (KnS.eq hks (by omega) (by omega)) hfp (SyR.eq hsr (by omega) (by omega)) han hvc_x7_3 _) hT (pr := []) (pcs := [wdP cs h r g tf ta pf na ma_7 wa cf7 ca_7 ef ea xf xa]) hw (oX_call (P := (fun A U H => (oP A g U H))) (pr := []) oG_P hw hA hP) (px_recv hT hw 0 0 rfl rfl rfl) m13_33 m13_30 m13_32 ms_13_5 m1_21 q_Mpg_declareArray ⟨show (4 * d + 20) + 1 ≤ (4 * d + 22) from (oz_895ed6c208), show 8 + (6 + 11) + (200 * d + 700) ≤ (200 * d + 780) from (oz_1aa4e22bf7)⟩ hl.1 rfl (Nat.le_of_ble_eq_true rfl) d_Mpg_declare_56 ⟨Nat.le_of_ble_eq_true rfl, Nat.le_of_ble_eq_true rfl⟩) hw hA (fun v462 p461 H locs hp461 hw => ?_) | (refine px_calli (pr := []) (px_runV (As := [.int x7_3, .int 0]) (rest := [.int (cf7 42), .ref h]) S (c_mp_declareArray l D cs ma0 ys nf tx d mid_7 md3 wv4 h r g tf ta pf na wa ca_7 ef ea xf xa ma_7 cf7 x7_3 0  (show 0 ≤ mid_7 from by first | exact oz_06d7f15a5c k7_29 g23 | omega) (show md3 ≤ (pf 13).toInt from by first | exact oz_bbb5b20c1a g1 hm2_md3 | omega) (show (pf 13).toInt ≤ 2100 from by first | exact g2 | omega) (show (tf 6).toInt ≤ 2049 from by first | exact g3 | omega) (show 0 ≤ (cf7 33).toInt from by first | exact oz_9921a0d148 e12 k7_12 g4 | omega) (show 0 ≤ wv4 from by first | exact hm3_md3 | omega) (show 6 * (cf7 33).toInt + wv4 ≤ 6540 from by omega) (show 0 ≤ (cf7 48).toInt from by first | exact oz_cfab8a20ba e14 k7_20 g14 g15 k7_16 k7_18 | omega) (show 6 * (cf7 48).toInt + wv4 ≤ 6540 from by omega) (show (cf7 38).toInt = nf from by first | exact oz_e13fc83238 g9 e13 k7_3 | omega) (show 0 ≤ nf from by first | exact g10 | omega) (show 0 ≤ (cf7 37).toInt from by first | exact oz_e2fef14871 e18 k7_2 g11 | omega) (show 0 ≤ (cf7 54).toInt from by first | exact oz_9921a0d148 e23 k7_16 g12 | omega) (show (cf7 54).toInt ≤ 4096 * (cf7 48).toInt from by first | exact oz_591883cc22 e14 e23 k7_19 g13 | omega) (show 0 ≤ (cf7 42).toInt from by first | exact oz_4d7634dc29 e19 k7_18 g14 k7_16 | omega) (show (cf7 42).toInt ≤ 4 + 4096 * (cf7 48).toInt from by first | exact oz_28f1d15c37 e14 e19 k7_20 g15 | omega) (show 0 ≤ (cf7 44).toInt from by first | exact oz_e2fef14871 e21 k7_5 g16 | omega) (show 0 ≤ (cf7 45).toInt from by first | exact oz_e2fef14871 e22 k7_6 g17 | omega) (show ys ≤ (cf7 48).toInt ∨ tx = 1 from by omega) (show 0 ≤ (cf7 46).toInt from by first | exact oz_e2fef14871 e15 k7_7 g19 | omega) (show (cf7 46).toInt ≤ 1 from by first | exact oz_916d756328 e15 k7_7 g20 | omega) (show 0 ≤ (cf7 47).toInt from by first | exact oz_e2fef14871 e16 k7_8 g21 | omega) (show (cf7 47).toInt ≤ 1 from by first | exact oz_916d756328 e16 k7_8 g22 | omega) (show 0 ≤ (na 17 x7_3.toNatClampNeg).toInt from by first | exact oz_df71656335 rz29 nc30 | omega) (show 0 ≤ (0 : Int) from by first | exact oz_5a341f00aa | omega) (show (0 : Int) ≤ 1 from by first | exact oz_6e68cd0f48 | omega) htk (FsI.le (N' := (pf 13).toInt) hfs (by omega)) hwr (KnT.eq hkt (by omega)) (FnT.eq hft (by omega)) (KnS.eq hks (by omega) (by omega)) hfp (SyR.eq hsr (by omega) (by omega)) han hvc_x7_3 _) hT (pr := []) (pcs := [wdP cs h r g tf ta pf na ma_7 wa cf7 ca_7 ef ea xf xa]) hw (oX_call (P := (fun A U H => (oP A g U H))) (pr := []) oG_P hw hA hP) (px_recv hT hw 0 0 rfl rfl rfl) m13_33 m13_30 m13_32 ms_13_5 m1_21 q_Mpg_declareArray ⟨show (4 * d + 20) + 1 ≤ (4 * d + 22) from (by first | exact oz_895ed6c208 | omega), show 8 + (6 + 11) + (200 * d + 700) ≤ (200 * d + 780) from (by first | exact oz_1aa4e22bf7 | omega)⟩ hl.1 rfl (Nat.le_of_ble_eq_true rfl) d_Mpg_declare_56 ⟨Nat.le_of_ble_eq_true rfl, Nat.le_of_ble_eq_true rfl⟩) hw hA (fun v462 p461 H locs hp461 hw => ?_))
            obtain ⟨ma459, cf460, rfl, e463, e464, e465, e466, e467, e468, e469, e470, e471, e472, e473, e474, e475, e476, e477, e478, e479, e480, e481, e482, e483, e484, e485, e486, e487⟩ := hp461
            have e463 : (cf460 30).toInt = 0 → (cf7 30).toInt = 0 := e463
            have e464 : WrV cf460 (tf 6).toInt := e464
            have hwr := e464
            have hw0_e464 := hwr.1
            have e465 : (cf460 33).toInt = (cf7 33).toInt := e465
            have e466 : (cf460 37).toInt = (cf7 37).toInt := e466
            have e467 : (cf460 38).toInt = (cf7 38).toInt := e467
            have e468 : (cf460 41).toInt = (cf7 41).toInt := e468
            have e469 : (cf460 42).toInt = (cf7 42).toInt := e469
            have e470 : (cf460 43).toInt = (cf7 43).toInt := e470
            have e471 : (cf460 44).toInt = (cf7 44).toInt := e471
            have e472 : (cf460 45).toInt = (cf7 45).toInt := e472
            have e473 : (cf460 46).toInt = (cf7 46).toInt := e473
            have e474 : (cf460 47).toInt = (cf7 47).toInt := e474
            have e475 : (cf460 48).toInt = (cf7 48).toInt := e475
            have e476 : (cf460 54).toInt = (cf7 54).toInt := e476
            have e477 : (cf460 55).toInt = (cf7 55).toInt := e477
            have e478 : (cf460 59).toInt = (cf7 59).toInt := e478
            have e479 : Ann na ma0 ma459 := e479
            have han := e479
            have e480 : FrC mid_7 md3 ma_7 ma459 := e480
            have hfc := hfc.tr e480 (by omega) (by omega)
            have hzts : ZTs cf460 ta ca_7 na ma0 (cf460 48).toInt ys nf ma459 lo mid_7 (na 17 p0.toNatClampNeg) x7_3 tv := ZTs.tr hzts (fun q => by omega) e480 (by omega) (CaG.rf (kn := 0) (ns := 5000)) (by omega) (by omega)
            have e481 : 0 ≤ (cf460 58).toInt := e481
            have e482 : (cf460 58).toInt ≤ 4096 := e482
            have e483 : 0 ≤ v462.toInt := e483
            have e484 : v462.toInt ≤ 4096 := e484
            have e485 : (cf460 58).toInt ≤ 4 * v462.toInt := e485
            have e486 : ZAv cf460 ta na ma459 x7_3 (cf460 58).toInt := e486
            have hanv := han
            have e487 : R_mp_declareArray tf ta na ca_7 x7_3 (0 : Int32) ma_7 cf7 ma459 cf460 v462 := e487
            have lv462 := Int32.le_toInt v462
            have uv462 := Int32.toInt_lt v462
            refine lv_iadd S.x S.b d_Mpg_declare_59 ?_
            have lr488 := Int32.le_toInt (cf7 42)
            have ur488 := Int32.toInt_lt (cf7 42)
            refine lv_topi (fun z489 ez489 => ?_)
            have tz489 : z489.toInt = ((cf7 42).toInt + v462.toInt + 2147483648) % 4294967296 - 2147483648 := by rw [ez489]; exact i_add (cf7 42) v462
            have lz489 := Int32.le_toInt z489
            have uz489 := Int32.toInt_lt z489
            try replace tz489 : z489.toInt = (cf7 42).toInt + v462.toInt := by omega
            refine pP_42 S hT hw 0 rfl m10_33 rfl rfl rfl d_Mpg_declare_60 (ps' := [wdP cs h r g tf ta pf na ma459 wa (upd cf460 42 z489) ca_7 ef ea xf xa]) rfl (fun H locs hw => ?_)
            refine lv_aload_n S.x S.b d_Mpg_declare_63 rfl (lv_at hl 1 rfl) ?_
            refine gP_20 S hT hw 0 rfl m10_6 d_Mpg_declare_64 ?_
            refine lv_iload_n S.x S.b d_Mpg_declare_67 rfl (lv_at hl 4 rfl) ?_
            refine lv_aload_n S.x S.b d_Mpg_declare_68 rfl (lv_at hl 1 rfl) ?_
            refine lv_aload_n S.x S.b d_Mpg_declare_69 rfl (lv_at hl 1 rfl) ?_
            refine gP_22 S hT hw 0 rfl m10_9 d_Mpg_declare_70 ?_
            refine lv_iload_n S.x S.b d_Mpg_declare_73 rfl (lv_at hl 2 rfl) ?_
            refine px_iald S hT hw 0 18 (n := 2100) (f := (ma459 22)) rfl gp_22 (x := p0) (vp_in_iff.mpr (by first | exact oz_a7e05de1cd g23 g25 g1 g2 | (constructor <;> omega))) d_Mpg_declare_74 ?_
            refine lv_topi (fun z490 ez490 => ?_)
            have lz490 := Int32.le_toInt z490
            have uz490 := Int32.toInt_lt z490
            have rz490 : z490.toInt = (ma0 22 p0.toNatClampNeg).toInt := (by rw [ez490, Ann.v22 han (by omega)])
            refine lv_iconst (v := 1) S.x S.b d_Mpg_declare_75 (by decide) ?_
            refine lv_icmp_ne (tgt := 83) S.x S.b d_Mpg_declare_76 (by decide) (fun c491 => ?_) (fun c491 => ?_)
            · have nc491 : ¬ z490.toInt = (1 : Int) := mt (i_eq (x := z490) (y := 1)).mpr c491
              refine lv_iconst (v := 2) S.x S.b d_Mpg_declare_83 (by decide) ?_
              refine lv_aload_n S.x S.b d_Mpg_declare_84 rfl (lv_at hl 1 rfl) ?_
              refine gP_58 (v := (cf460 58)) S hT hw 0 rfl rfl m10_55 d_Mpg_declare_85 ?_
              first | refine px_calli (pr := []) (px_runV (As := [.int 2, .int (cf460 58)]) (rest := [.int x7_3, .ref (r 20)]) S (c_mp_lay l D cs h r g tf ta pf na ma459 wa ef ea xf xa (upd cf460 42 z489) ca_7 2 (cf460 58)  (show 0 ≤ (cf460 48).toInt from (oz_34de85669e e475 e14 k7_20 g14 g15 k7_16 k7_18)) (show (cf460 48).toInt < 1100 from (oz_75b62dc8f3 e475 e14 k7_15 g8 k7_31)) (show 0 ≤ (2 : Int) from oz_42ded8c576) (show (2 : Int) ≤ 5 from oz_3a8f75ef2d) (show 0 ≤ (cf460 58).toInt from e481) (show (cf460 58).toInt ≤ 4096 from e482) (show 0 ≤ (cf460 54).toInt from (oz_9bcc310e9c e476 e23 k7_16 g12)) (show (cf460 54).toInt ≤ 40000000 from (oz_17a0157d43 e476 e23 k7_19 g8 g13 k7_15 k7_31)) htk _) hT (pr := []) (pcs := [wdP cs h r g tf ta pf na ma459 wa (upd cf460 42 z489) ca_7 ef ea xf xa]) hw px_X.tt (px_recv hT hw 0 0 rfl rfl rfl) m12_189 m12_186 m12_188 ms_12_0 m1_21 q_Mpg_lay ⟨show 0 + 1 ≤ (4 * d + 22) from (oz_c3745992a4), show 8 + (3 + 11) + 0 ≤ (200 * d + 780) from (oz_f51a49eea8)⟩ hl.1 rfl (Nat.le_of_ble_eq_true rfl) d_Mpg_declare_88 ⟨Nat.le_of_ble_eq_true rfl, Nat.le_of_ble_eq_true rfl⟩) hw hA (fun v498 p497 H locs hp497 hw => ?_) | (refine px_calli (pr := []) (px_runV (As := [.int 2, .int (cf460 58)]) (rest := [.int x7_3, .ref (r 20)]) S (c_mp_lay l D cs h r g tf ta pf na ma459 wa ef ea xf xa (upd cf460 42 z489) ca_7 2 (cf460 58)  (show 0 ≤ (cf460 48).toInt from by first | exact oz_34de85669e e475 e14 k7_20 g14 g15 k7_16 k7_18 | omega) (show (cf460 48).toInt < 1100 from by first | exact oz_75b62dc8f3 e475 e14 k7_15 g8 k7_31 | omega) (show 0 ≤ (2 : Int) from by first | exact oz_42ded8c576 | omega) (show (2 : Int) ≤ 5 from by first | exact oz_3a8f75ef2d | omega) (show 0 ≤ (cf460 58).toInt from by first | exact e481 | omega) (show (cf460 58).toInt ≤ 4096 from by first | exact e482 | omega) (show 0 ≤ (cf460 54).toInt from by first | exact oz_9bcc310e9c e476 e23 k7_16 g12 | omega) (show (cf460 54).toInt ≤ 40000000 from by first | exact oz_17a0157d43 e476 e23 k7_19 g8 g13 k7_15 k7_31 | omega) htk _) hT (pr := []) (pcs := [wdP cs h r g tf ta pf na ma459 wa (upd cf460 42 z489) ca_7 ef ea xf xa]) hw px_X.tt (px_recv hT hw 0 0 rfl rfl rfl) m12_189 m12_186 m12_188 ms_12_0 m1_21 q_Mpg_lay ⟨show 0 + 1 ≤ (4 * d + 22) from (by first | exact oz_c3745992a4 | omega), show 8 + (3 + 11) + 0 ≤ (200 * d + 780) from (by first | exact oz_f51a49eea8 | omega)⟩ hl.1 rfl (Nat.le_of_ble_eq_true rfl) d_Mpg_declare_88 ⟨Nat.le_of_ble_eq_true rfl, Nat.le_of_ble_eq_true rfl⟩) hw hA (fun v498 p497 H locs hp497 hw => ?_))
              obtain ⟨cf495, ca496, rfl, e499, e500, e501, e502, e503, e504, e505, e506, e507, e508, e509, e510, e511, e512, e513, e514, e515, e516, e517, e518, e519, e520, e521, e522⟩ := hp497
              have e499 : v498.toInt = (cf460 48).toInt := e499
              have e500 : (cf495 48).toInt = (cf460 48).toInt + 1 := e500
              have e501 : (cf460 54).toInt ≤ (cf495 54).toInt := e501
              have e502 : (cf495 54).toInt ≤ (cf460 54).toInt + 4096 := e502
              have e503 : (2 : Int) ≤ 3 → (cf495 54).toInt = (cf460 54).toInt + (cf460 58).toInt := e503
              have e504 : 4 ≤ (2 : Int) → (cf495 54).toInt = (cf460 54).toInt + 2 := e504
              have e505 : (cf495 30).toInt = (cf460 30).toInt := e505
              have e506 : (cf495 31).toInt = (cf460 31).toInt := e506
              have e507 : (cf495 33).toInt = (cf460 33).toInt := e507
              have e508 : (cf495 37).toInt = (cf460 37).toInt := e508
              have e509 : (cf495 38).toInt = (cf460 38).toInt := e509
              have e510 : (cf495 41).toInt = (cf460 41).toInt := e510
              have e511 : (cf495 42).toInt = z489.toInt := e511
              have e512 : (cf495 43).toInt = (cf460 43).toInt := e512
              have e513 : (cf495 44).toInt = (cf460 44).toInt := e513
              have e514 : (cf495 45).toInt = (cf460 45).toInt := e514
              have e515 : (cf495 46).toInt = (cf460 46).toInt := e515
              have e516 : (cf495 47).toInt = (cf460 47).toInt := e516
              have e517 : (cf495 55).toInt = (cf460 55).toInt := e517
              have e518 : (cf495 57).toInt = (cf460 57).toInt := e518
              have e519 : (cf495 58).toInt = (cf460 58).toInt := e519
              have e520 : (cf495 59).toInt = (cf460 59).toInt := e520
              have e521 : LyU ca_7 ca496 (cf460 48) (2 : Int32) (cf460 54) (cf460 58) (txo (cf460 43).toInt) := e521
              have hlu : LyU ca_7 ca496 (cf460 48) (2 : Int32) (cf460 54) (cf460 58) tx := (by rw [← htx]; exact (by rw [show (cf 43).toInt = (cf460 43).toInt by omega]; exact e521))
              have hcl_e521 : CaG ca_7 ca496 (cf495 33).toInt (cf460 48).toInt := cag_ly hlu (by omega) (by omega)
              have hsr : SyR ca496 ys (cf495 48).toInt (cf495 54).toInt tx := SyR.eq (SyR.ly (cells' := (cf495 54).toInt) (SyR.eq hsr (ns' := (cf460 48).toInt) (by omega) rfl) hlu rfl (by omega) (by omega) (by omega) ⟨by omega, by omega⟩ ⟨by omega, by omega⟩ (fun q => by omega) (fun q => by omega) (fun q => by omega)) (by omega) rfl
              have hkt := hkt.cg hcl_e521 (by omega)
              have hks := hks.cg hcl_e521 (by omega) (by omega) (n2 := (cf495 48).toInt) (by omega)
              have hcg := hcg.tr hcl_e521 (by omega) (by omega)
              have hft := hft.cg hcl_e521
              have hfp := hfp.cg hcl_e521
              have hzts : ZTs cf495 ta ca496 na ma0 (cf495 48).toInt ys nf ma459 lo mid_7 (na 17 p0.toNatClampNeg) x7_3 tv := ZTs.tr hzts (fun q => by omega) (FrC.rf (lo := 0) (hi := 0)) (by omega) hcl_e521 (by omega) (by omega)
              have hs49 : (ca496 49 (cf460 48).toNatClampNeg).toInt = (2 : Int) := (by rw [hlu.2.1 (by omega) (by omega)]; rfl)
              have hs52 : (ca496 52 (cf460 48).toNatClampNeg).toInt = (cf460 58).toInt := (by rw [hlu.2.2.2.1])
              have hsy : SyA ca496 (cf495 48).toInt ys (cf460 48) := hlu.sa (by omega) (by omega) ⟨by omega, by omega⟩ (by omega)
              have hs3 : Sy3 ca496 (cf 48).toInt (cf495 48).toInt := Sy3.eq (Sy3.ly (Sy3.eq hs3 (b' := (cf460 48).toInt) (by omega)) hlu rfl (by omega) (by omega)) (by omega)
              have e522 : R_mp_lay (2 : Int32) (cf460 58) (upd cf460 42 z489) ca_7 cf495 ca496 v498 := e522
              have hwr : WrV cf495 (tf 6).toInt := WrV.eq hwr (by omega) (by omega)
              have lv498 := Int32.le_toInt v498
              have uv498 := Int32.toInt_lt v498
              have hyv : (cf460 48) = v498 := i_eq.mpr (by omega); rw [hyv] at hsy hs49 hs52
              refine px_iast S hT hw 0 16 (n := 2100) (f := (ma459 20)) (x := x7_3) (y := v498) rfl gp_20 (vp_in_iff.mpr (by constructor <;> omega)) d_Mpg_declare_91 (w' := wdP cs h r g tf ta pf na (va_up ma459 20 (upd (ma459 20) x7_3.toNatClampNeg v498)) wa cf495 ca496 ef ea xf xa) (ps' := [wdP cs h r g tf ta pf na (va_up ma459 20 (upd (ma459 20) x7_3.toNatClampNeg v498)) wa cf495 ca496 ef ea xf xa]) sp_20 rfl (fun H locs hw => ?_)
              obtain ⟨ma523, hu_ma523⟩ : ∃ y : Nat → Nat → Int32, y = va_up ma459 20 (upd (ma459 20) x7_3.toNatClampNeg v498) := ⟨_, rfl⟩
              have hw : pw D A s.heap _ _ [wdP cs h r g tf ta pf na ma523 wa cf495 ca496 ef ea xf xa] := (by rw [hu_ma523]; exact hw)
              have hf1_ma523 : FrC x7_3.toInt (x7_3.toInt + 1) ma459 ma523 := (by rw [hu_ma523]; exact FrC.w FrC.rf (by omega) (by omega) (by omega))
              have han : Ann na ma0 ma523 := (by rw [hu_ma523]; exact Ann.w20 han (by omega))
              have hfc := hfc.tr hf1_ma523 (by omega) (by omega)
              have hzts : ZTs cf495 ta ca496 na ma0 (cf495 48).toInt ys nf ma523 lo mid_7 (na 17 p0.toNatClampNeg) x7_3 tv := ZTs.tr hzts (fun q => by omega) hf1_ma523 (by omega) (CaG.rf (kn := 0) (ns := 5000)) (by omega) (by omega)
              have hv_20_x7_3 : ma523 20 x7_3.toNatClampNeg = v498 := (by rw [hu_ma523, va_up_s, pk_us])
              have hnhv_20_x7_3 : (ma523 20 x7_3.toNatClampNeg).toInt = v498.toInt := (by rw [hv_20_x7_3])
              refine lv_aload_n S.x S.b d_Mpg_declare_92 rfl (lv_at hl 1 rfl) ?_
              refine lv_iload S.x S.b d_Mpg_declare_93 (lv_at hl 0 rfl) ?_
              refine lv_aload_n S.x S.b d_Mpg_declare_95 rfl (lv_at hl 1 rfl) ?_
              refine gP_22 S hT hw 0 rfl m10_9 d_Mpg_declare_96 ?_
              refine lv_iload_n S.x S.b d_Mpg_declare_99 rfl (lv_at hl 2 rfl) ?_
              refine px_iald S hT hw 0 18 (n := 2100) (f := (ma523 22)) rfl gp_22 (x := p0) (vp_in_iff.mpr (by first | exact oz_a7e05de1cd g23 g25 g1 g2 | (constructor <;> omega))) d_Mpg_declare_100 ?_
              refine lv_topi (fun z524 ez524 => ?_)
              have lz524 := Int32.le_toInt z524
              have uz524 := Int32.toInt_lt z524
              have rz524 : z524.toInt = (ma0 22 p0.toNatClampNeg).toInt := (by rw [ez524, Ann.v22 han (by omega)])
              refine lv_iconst (v := 1) S.x S.b d_Mpg_declare_101 (by decide) ?_
              refine lv_icmp_ne (tgt := 109) S.x S.b d_Mpg_declare_102 (by decide) (fun c525 => ?_) (fun c525 => ?_)
              · have nc525 : ¬ z524.toInt = (1 : Int) := mt (i_eq (x := z524) (y := 1)).mpr c525
                refine lv_iconst (v := 2) S.x S.b d_Mpg_declare_109 (by decide) ?_
                refine lv_iconst (v := 0) S.x S.b d_Mpg_declare_110 (by decide) ?_
                refine lv_aload_n S.x S.b d_Mpg_declare_111 rfl (lv_at hl 1 rfl) ?_
                refine gP_20 S hT hw 0 rfl m10_6 d_Mpg_declare_112 ?_
                refine lv_iload_n S.x S.b d_Mpg_declare_115 rfl (lv_at hl 4 rfl) ?_
                refine px_iald S hT hw 0 16 (n := 2100) (f := (ma523 20)) rfl gp_20 (x := x7_3) (vp_in_iff.mpr (by constructor <;> omega)) d_Mpg_declare_116 ?_
                refine lv_topi (fun z527 ez527 => ?_)
                have lz527 := Int32.le_toInt z527
                have uz527 := Int32.toInt_lt z527
                have hsz527 : v498 = z527 := (ez527.trans hv_20_x7_3).symm; subst hsz527
                first | refine px_callv (pr := []) (px_runV (As := [.int z5, .int 2, .int 0, .int v498]) (rest := []) S (c_mp_know l D cs h r g tf ta pf na ma523 wa ef ea xf xa cf495 ca496 z5 2 0 v498  (show 0 ≤ (cf495 33).toInt from (oz_eb53d9d016 e507 e465 e12 k7_12 g4)) (show (cf495 33).toInt < 1100 from (oz_3ef51c39d5 e507 e465 e12 k7_13 g6 k7_31)) htk _) hT (pr := []) (pcs := [wdP cs h r g tf ta pf na ma523 wa cf495 ca496 ef ea xf xa]) hw px_X.tt (px_recv hT hw 0 0 rfl rfl rfl) m12_193 m12_190 m12_192 ms_12_1 m1_21 q_Mpg_know ⟨show 0 + 1 ≤ (4 * d + 22) from (oz_c3745992a4), show 8 + (5 + 11) + 0 ≤ (200 * d + 780) from (oz_7102db9304)⟩ hl.1 rfl (Nat.le_of_ble_eq_true rfl) d_Mpg_declare_117 ⟨Nat.le_of_ble_eq_true rfl, Nat.le_of_ble_eq_true rfl⟩) hw hA (fun p532 H locs hp532 hw => ?_) | (refine px_callv (pr := []) (px_runV (As := [.int z5, .int 2, .int 0, .int v498]) (rest := []) S (c_mp_know l D cs h r g tf ta pf na ma523 wa ef ea xf xa cf495 ca496 z5 2 0 v498  (show 0 ≤ (cf495 33).toInt from by first | exact oz_eb53d9d016 e507 e465 e12 k7_12 g4 | omega) (show (cf495 33).toInt < 1100 from by first | exact oz_3ef51c39d5 e507 e465 e12 k7_13 g6 k7_31 | omega) htk _) hT (pr := []) (pcs := [wdP cs h r g tf ta pf na ma523 wa cf495 ca496 ef ea xf xa]) hw px_X.tt (px_recv hT hw 0 0 rfl rfl rfl) m12_193 m12_190 m12_192 ms_12_1 m1_21 q_Mpg_know ⟨show 0 + 1 ≤ (4 * d + 22) from (by first | exact oz_c3745992a4 | omega), show 8 + (5 + 11) + 0 ≤ (200 * d + 780) from (by first | exact oz_7102db9304 | omega)⟩ hl.1 rfl (Nat.le_of_ble_eq_true rfl) d_Mpg_declare_117 ⟨Nat.le_of_ble_eq_true rfl, Nat.le_of_ble_eq_true rfl⟩) hw hA (fun p532 H locs hp532 hw => ?_))
                obtain ⟨cf530, ca531, rfl, e534, e535, e536, e537, e538, e539, e540, e541, e542, e543, e544, e545, e546, e547, e548, e549, e550, e551, e552, e553⟩ := hp532
                have e534 : (cf530 33).toInt = (cf495 33).toInt + 1 := e534
                have e535 : (cf530 30).toInt = (cf495 30).toInt := e535
                have e536 : (cf530 31).toInt = (cf495 31).toInt := e536
                have e537 : (cf530 37).toInt = (cf495 37).toInt := e537
                have e538 : (cf530 38).toInt = (cf495 38).toInt := e538
                have e539 : (cf530 41).toInt = (cf495 41).toInt := e539
                have e540 : (cf530 42).toInt = (cf495 42).toInt := e540
                have e541 : (cf530 43).toInt = (cf495 43).toInt := e541
                have e542 : (cf530 44).toInt = (cf495 44).toInt := e542
                have e543 : (cf530 45).toInt = (cf495 45).toInt := e543
                have e544 : (cf530 46).toInt = (cf495 46).toInt := e544
                have e545 : (cf530 47).toInt = (cf495 47).toInt := e545
                have e546 : (cf530 48).toInt = (cf495 48).toInt := e546
                have e547 : (cf530 54).toInt = (cf495 54).toInt := e547
                have e548 : (cf530 55).toInt = (cf495 55).toInt := e548
                have e549 : (cf530 57).toInt = (cf495 57).toInt := e549
                have e550 : (cf530 58).toInt = (cf495 58).toInt := e550
                have e551 : (cf530 59).toInt = (cf495 59).toInt := e551
                have e552 : KwU ca496 ca531 (cf495 33) z5 (2 : Int32) (0 : Int32) v498 := e552
                have hcw_e552 : CaG ca496 ca531 (cf495 33).toInt (cf530 48).toInt := cag_kw e552 (by omega) (by omega)
                have hkt : KnT (tf 6).toInt ca531 (cf530 33).toInt := KnT.eq (KnT.kw (KnT.eq hkt (n' := (cf495 33).toInt) (by omega)) e552 rfl (by omega) (by omega) ⟨by omega, by omega⟩) (by omega)
                have hks : KnS ca531 (cf530 33).toInt (cf530 48).toInt ys := KnS.eq (KnS.kw (KnS.eq hks (n' := (cf495 33).toInt) (by omega) rfl) e552 rfl (by omega) (Or.inr (Or.inl ⟨by omega, hsy⟩))) (by omega) (by omega)
                have hcg := hcg.tr hcw_e552 (by omega) (by omega)
                have hft := hft.cg hcw_e552
                have hfp := hfp.cg hcw_e552
                have hsr := hsr.cg hcw_e552 (by omega)
                have hzts : ZTs cf530 ta ca531 na ma0 (cf530 48).toInt ys nf ma523 lo mid_7 (na 17 p0.toNatClampNeg) x7_3 tv := ZTs.tr hzts (fun q => by omega) (FrC.rf (lo := 0) (hi := 0)) (by omega) hcw_e552 (by omega) (by omega)
                have hs3 : Sy3 ca531 (cf 48).toInt (cf530 48).toInt := Sy3.eq (hs3.cg hcw_e552 (by omega)) (by omega)
                have hsb_e552 := hsy.1.1
                first | have hcy_e552 := cl_nat (x := v498) ((oz_f3ebed1ad0 e499 hsb_e552.1)) | (have hcy_e552 := cl_nat (x := v498) (by first | exact oz_f3ebed1ad0 e499 hsb_e552.1 | omega))
                have hs49 : (ca531 49 v498.toNatClampNeg).toInt = _ := (congrArg Int32.toInt (hcw_e552.2.2 _ (by omega)).1).trans hs49
                have hs52 : (ca531 52 v498.toNatClampNeg).toInt = _ := (congrArg Int32.toInt (hcw_e552.2.2 _ (by omega)).2.2.2).trans hs52
                have hsy : SyA ca531 (cf530 48).toInt ys v498 := hsy.cg hcw_e552 (by omega) (by omega)
                have e553 : R_mp_know z5 (2 : Int32) (0 : Int32) v498 cf495 ca496 cf530 ca531 := e553
                have hwr : WrV cf530 (tf 6).toInt := WrV.eq hwr (by omega) (by omega)
                refine lv_goto (tgt := 223) S.x S.b d_Mpg_declare_120 (by decide) ?_
                refine lv_aload_n S.x S.b d_Mpg_declare_223 rfl (lv_at hl 1 rfl) ?_
                refine gP_21 S hT hw 0 rfl m10_7 d_Mpg_declare_224 ?_
                refine lv_iload_n S.x S.b d_Mpg_declare_227 rfl (lv_at hl 4 rfl) ?_
                refine px_iald S hT hw 0 17 (n := 2100) (f := (na 21)) rfl gp_21 (x := x7_3) (vp_in_iff.mpr (by constructor <;> omega)) d_Mpg_declare_228 ?_
                refine lv_topi (fun z554 ez554 => ?_)
                have lz554 := Int32.le_toInt z554
                have uz554 := Int32.toInt_lt z554
                refine lv_istore_n (lv' := [(3, .int z554), (4, .int z5), (0, .ref h), (1, .int p0), (2, .int p1)]) S.x S.b d_Mpg_declare_229 rfl hl (by decide) rfl (fun ls hl => ?_)
                refine lv_goto (tgt := 7) S.x S.b d_Mpg_declare_230 (by decide) ?_
                first | exact ih7 ma523 cf530 ca531 md3 (wr_7 - wv4) z554 _ _ ls (show (cf530 30).toInt = 0 → (cf 30).toInt = 0 from by omega) (show WrV cf530 (tf 6).toInt from hwr) (show (cf530 37).toInt = (cf 37).toInt from (oz_0867352dd7 k7_2 e537 e18 e508 e466)) (show (cf530 38).toInt = (cf 38).toInt from (oz_0867352dd7 k7_3 e538 e13 e509 e467)) (show (cf530 43).toInt = (cf 43).toInt from (oz_0867352dd7 k7_4 e541 e20 e512 e470)) (show (cf530 44).toInt = (cf 44).toInt from (oz_0867352dd7 k7_5 e542 e21 e513 e471)) (show (cf530 45).toInt = (cf 45).toInt from (oz_0867352dd7 k7_6 e543 e22 e514 e472)) (show (cf530 46).toInt = (cf 46).toInt from (oz_0867352dd7 k7_7 e544 e15 e515 e473)) (show (cf530 47).toInt = (cf 47).toInt from (oz_0867352dd7 k7_8 e545 e16 e516 e474)) (show (cf530 41).toInt = (cf 41).toInt from (oz_0867352dd7 k7_9 e539 e27 e510 e468)) (show (cf530 55).toInt = (cf 55).toInt from (oz_0867352dd7 k7_10 e548 e24 e517 e477)) (show (cf530 59).toInt = (cf 59).toInt from (oz_0867352dd7 k7_11 e551 e26 e520 e478)) (show (cf 33).toInt ≤ (cf530 33).toInt from (oz_a101ed4aa6 k7_12 e534 e12 e507 e465)) (show 6 * (cf530 33).toInt ≤ 6 * (cf 33).toInt + (w - (wr_7 - wv4)) from by omega) (show (cf 48).toInt ≤ (cf530 48).toInt from (oz_788511b878 k7_20 e546 k7_16 k7_18 e14 hsb_e552.2 e475)) (show 6 * (cf530 48).toInt ≤ 6 * (cf 48).toInt + (w - (wr_7 - wv4)) from by omega) (show (cf 54).toInt ≤ (cf530 54).toInt from (oz_39bc41608f k7_16 e547 e23 e501 e476)) (show (cf 42).toInt ≤ (cf530 42).toInt from (oz_a38eb904f0 k7_18 e540 k7_16 e19 e511 tz489 e483)) (show (cf530 54).toInt - (cf 54).toInt ≤ 4 * ((cf530 42).toInt - (cf 42).toInt) from (oz_23efd63b06 k7_18 e540 e547 e19 e23 e511 e503 e476 e485 tz489)) (show (cf530 54).toInt - (cf 54).toInt ≤ 4096 * ((cf530 48).toInt - (cf 48).toInt) from (oz_0e3be830c4 k7_19 e546 e547 e14 e23 e502 hsb_e552.2 e475 e476)) (show (cf530 42).toInt - (cf 42).toInt ≤ 4096 * ((cf530 48).toInt - (cf 48).toInt) from (oz_7cb314f517 k7_20 e540 e546 e14 e19 e511 hsb_e552.2 e475 tz489 e484)) (show KnT (tf 6).toInt ca531 (cf530 33).toInt from (KnT.eq hkt (by omega))) (show KnS ca531 (cf530 33).toInt (cf530 48).toInt ys from (KnS.eq hks (by omega) (by omega))) (show CaG ca ca531 (cf 33).toInt (cf 48).toInt from (hcg.le (by omega) (by omega))) (show SyR ca531 ys (cf530 48).toInt (cf530 54).toInt tx from (SyR.eq hsr (by omega) (by omega))) (show Ann na ma0 ma523 from han) (show FrC lo hi ma ma523 from hfc) (show Sy3 ca531 (cf 48).toInt (cf530 48).toInt from (Sy3.eq hs3 (by omega))) (show lo ≤ md3 from hm1_md3) (show p0.toInt + 1 ≤ md3 from by omega) (show md3 ≤ hi from hm2_md3) (show 0 ≤ (wr_7 - wv4) from by omega) (show (wr_7 - wv4) ≤ w from by omega) (show RvV ta (tf 6).toInt na ma0 d md3 hi (wr_7 - wv4) z554 from (by rw [ez554]; exact hrv2)) (show ZTs cf530 ta ca531 na ma0 (cf530 48).toInt ys nf ma523 lo md3 (na 17 p0.toNatClampNeg) z554 tv from (ZTs.nx (ZTs.to hzts (fun q => by omega) (by omega) (Int.le_refl _) (by omega) rfl) (show ZTe cf530 ta ca531 na ma0 (cf530 48).toInt ys nf ma523 lo md3 x7_3 tv from (fun zz => tyv_2 ⟨by omega, by omega, by omega⟩ (by omega) (by omega) (by rw [hv_20_x7_3]; exact hsy) (by show (ca531 49 (ma523 20 x7_3.toNatClampNeg).toNatClampNeg).toInt ≤ 3; rw [hv_20_x7_3]; omega) (by show AvC ta na _ x7_3 (ca531 52 (ma523 20 x7_3.toNatClampNeg).toNatClampNeg).toInt; rw [hv_20_x7_3, hs52]; exact ZAv.to e486 (fun q => by omega) hanv han (by omega) zz))) (by omega) ez554)) (show K_mp_declare_7 tf ta na p0 p1 ma cf ca ma523 cf530 ca531 z554 from (fun y_f0 y_f1 y_f2 k hE => k7_35 y_f0 y_f1 y_f2 (k + 1) (Or.inr (Or.inl ⟨rfl, x7_3, rfl, rfl, rfl, rfl, rfl, Or.inr ⟨nc1, z5, ez5, cf7, e28, z29, ez29, Or.inr ⟨nc30, z454, ez454, Or.inl ⟨nc455, ma459, cf460, v462, e487, z489, ez489, z490, ez490, nc491, cf495, ca496, v498, e522, ma523, hu_ma523, z524, ez524, nc525, v498, ez527, cf530, ca531, e553, z554, ez554, hE⟩⟩⟩⟩)))) (show hi - md3 < (n_7 : Int) from by omega) hw (lv_sub hl [2, 3, 4, 0] rfl) | (exact ih7 ma523 cf530 ca531 md3 (wr_7 - wv4) z554 _ _ ls (show (cf530 30).toInt = 0 → (cf 30).toInt = 0 from by omega) (show WrV cf530 (tf 6).toInt from hwr) (show (cf530 37).toInt = (cf 37).toInt from by first | exact oz_0867352dd7 k7_2 e537 e18 e508 e466 | omega) (show (cf530 38).toInt = (cf 38).toInt from by first | exact oz_0867352dd7 k7_3 e538 e13 e509 e467 | omega) (show (cf530 43).toInt = (cf 43).toInt from by first | exact oz_0867352dd7 k7_4 e541 e20 e512 e470 | omega) (show (cf530 44).toInt = (cf 44).toInt from by first | exact oz_0867352dd7 k7_5 e542 e21 e513 e471 | omega) (show (cf530 45).toInt = (cf 45).toInt from by first | exact oz_0867352dd7 k7_6 e543 e22 e514 e472 | omega) (show (cf530 46).toInt = (cf 46).toInt from by first | exact oz_0867352dd7 k7_7 e544 e15 e515 e473 | omega) (show (cf530 47).toInt = (cf 47).toInt from by first | exact oz_0867352dd7 k7_8 e545 e16 e516 e474 | omega) (show (cf530 41).toInt = (cf 41).toInt from by first | exact oz_0867352dd7 k7_9 e539 e27 e510 e468 | omega) (show (cf530 55).toInt = (cf 55).toInt from by first | exact oz_0867352dd7 k7_10 e548 e24 e517 e477 | omega) (show (cf530 59).toInt = (cf 59).toInt from by first | exact oz_0867352dd7 k7_11 e551 e26 e520 e478 | omega) (show (cf 33).toInt ≤ (cf530 33).toInt from by first | exact oz_a101ed4aa6 k7_12 e534 e12 e507 e465 | omega) (show 6 * (cf530 33).toInt ≤ 6 * (cf 33).toInt + (w - (wr_7 - wv4)) from by omega) (show (cf 48).toInt ≤ (cf530 48).toInt from by first | exact oz_788511b878 k7_20 e546 k7_16 k7_18 e14 hsb_e552.2 e475 | omega) (show 6 * (cf530 48).toInt ≤ 6 * (cf 48).toInt + (w - (wr_7 - wv4)) from by omega) (show (cf 54).toInt ≤ (cf530 54).toInt from by first | exact oz_39bc41608f k7_16 e547 e23 e501 e476 | omega) (show (cf 42).toInt ≤ (cf530 42).toInt from by first | exact oz_a38eb904f0 k7_18 e540 k7_16 e19 e511 tz489 e483 | omega) (show (cf530 54).toInt - (cf 54).toInt ≤ 4 * ((cf530 42).toInt - (cf 42).toInt) from by first | exact oz_23efd63b06 k7_18 e540 e547 e19 e23 e511 e503 e476 e485 tz489 | omega) (show (cf530 54).toInt - (cf 54).toInt ≤ 4096 * ((cf530 48).toInt - (cf 48).toInt) from by first | exact oz_0e3be830c4 k7_19 e546 e547 e14 e23 e502 hsb_e552.2 e475 e476 | omega) (show (cf530 42).toInt - (cf 42).toInt ≤ 4096 * ((cf530 48).toInt - (cf 48).toInt) from by first | exact oz_7cb314f517 k7_20 e540 e546 e14 e19 e511 hsb_e552.2 e475 tz489 e484 | omega) (show KnT (tf 6).toInt ca531 (cf530 33).toInt from (KnT.eq hkt (by omega))) (show KnS ca531 (cf530 33).toInt (cf530 48).toInt ys from (KnS.eq hks (by omega) (by omega))) (show CaG ca ca531 (cf 33).toInt (cf 48).toInt from (hcg.le (by omega) (by omega))) (show SyR ca531 ys (cf530 48).toInt (cf530 54).toInt tx from (SyR.eq hsr (by omega) (by omega))) (show Ann na ma0 ma523 from han) (show FrC lo hi ma ma523 from hfc) (show Sy3 ca531 (cf 48).toInt (cf530 48).toInt from (Sy3.eq hs3 (by omega))) (show lo ≤ md3 from by first | exact hm1_md3 | omega) (show p0.toInt + 1 ≤ md3 from by omega) (show md3 ≤ hi from by first | exact hm2_md3 | omega) (show 0 ≤ (wr_7 - wv4) from by omega) (show (wr_7 - wv4) ≤ w from by omega) (show RvV ta (tf 6).toInt na ma0 d md3 hi (wr_7 - wv4) z554 from (by rw [ez554]; exact hrv2)) (show ZTs cf530 ta ca531 na ma0 (cf530 48).toInt ys nf ma523 lo md3 (na 17 p0.toNatClampNeg) z554 tv from (ZTs.nx (ZTs.to hzts (fun q => by omega) (by omega) (Int.le_refl _) (by omega) rfl) (show ZTe cf530 ta ca531 na ma0 (cf530 48).toInt ys nf ma523 lo md3 x7_3 tv from (fun zz => tyv_2 ⟨by omega, by omega, by omega⟩ (by omega) (by omega) (by rw [hv_20_x7_3]; exact hsy) (by show (ca531 49 (ma523 20 x7_3.toNatClampNeg).toNatClampNeg).toInt ≤ 3; rw [hv_20_x7_3]; omega) (by show AvC ta na _ x7_3 (ca531 52 (ma523 20 x7_3.toNatClampNeg).toNatClampNeg).toInt; rw [hv_20_x7_3, hs52]; exact ZAv.to e486 (fun q => by omega) hanv han (by omega) zz))) (by omega) ez554)) (show K_mp_declare_7 tf ta na p0 p1 ma cf ca ma523 cf530 ca531 z554 from (fun y_f0 y_f1 y_f2 k hE => k7_35 y_f0 y_f1 y_f2 (k + 1) (Or.inr (Or.inl ⟨rfl, x7_3, rfl, rfl, rfl, rfl, rfl, Or.inr ⟨nc1, z5, ez5, cf7, e28, z29, ez29, Or.inr ⟨nc30, z454, ez454, Or.inl ⟨nc455, ma459, cf460, v462, e487, z489, ez489, z490, ez490, nc491, cf495, ca496, v498, e522, ma523, hu_ma523, z524, ez524, nc525, v498, ez527, cf530, ca531, e553, z554, ez554, hE⟩⟩⟩⟩)))) (show hi - md3 < (n_7 : Int) from by omega) hw (lv_sub hl [2, 3, 4, 0] rfl))
              · have nc525 : z524.toInt = (1 : Int) := (i_eq (x := z524) (y := 1)).mp c525
                exfalso
                omega
            · have nc491 : z490.toInt = (1 : Int) := (i_eq (x := z490) (y := 1)).mp c491
              exfalso
              omega
          · have nc455 : z454.toInt = (1 : Int) := (i_eq (x := z454) (y := 1)).mp c455
            refine lv_iconst (v := 1) S.x S.b d_Mpg_declare_51 (by decide) ?_
            refine lv_goto (tgt := 56) S.x S.b d_Mpg_declare_52 (by decide) ?_
            first | refine px_calli (pr := []) (px_runV (As := [.int x7_3, .int 1]) (rest := [.int (cf7 42), .ref h]) S (c_mp_declareArray l D cs ma0 ys nf tx d mid_7 md3 wv4 h r g tf ta pf na wa ca_7 ef ea xf xa ma_7 cf7 x7_3 1  (show 0 ≤ mid_7 from (oz_06d7f15a5c k7_29 g23)) (show md3 ≤ (pf 13).toInt from (oz_bbb5b20c1a g1 hm2_md3)) (show (pf 13).toInt ≤ 2100 from g2) (show (tf 6).toInt ≤ 2049 from g3) (show 0 ≤ (cf7 33).toInt from (oz_9921a0d148 e12 k7_12 g4)) (show 0 ≤ wv4 from hm3_md3) (show 6 * (cf7 33).toInt + wv4 ≤ 6540 from by omega) (show 0 ≤ (cf7 48).toInt from (oz_cfab8a20ba e14 k7_20 g14 g15 k7_16 k7_18)) (show 6 * (cf7 48).toInt + wv4 ≤ 6540 from by omega) (show (cf7 38).toInt = nf from (oz_e13fc83238 g9 e13 k7_3)) (show 0 ≤ nf from g10) (show 0 ≤ (cf7 37).toInt from (oz_e2fef14871 e18 k7_2 g11)) (show 0 ≤ (cf7 54).toInt from (oz_9921a0d148 e23 k7_16 g12)) (show (cf7 54).toInt ≤ 4096 * (cf7 48).toInt from (oz_591883cc22 e14 e23 k7_19 g13)) (show 0 ≤ (cf7 42).toInt from (oz_4d7634dc29 e19 k7_18 g14 k7_16)) (show (cf7 42).toInt ≤ 4 + 4096 * (cf7 48).toInt from (oz_28f1d15c37 e14 e19 k7_20 g15)) (show 0 ≤ (cf7 44).toInt from (oz_e2fef14871 e21 k7_5 g16)) (show 0 ≤ (cf7 45).toInt from (oz_e2fef14871 e22 k7_6 g17)) (show ys ≤ (cf7 48).toInt ∨ tx = 1 from by omega) (show 0 ≤ (cf7 46).toInt from (oz_e2fef14871 e15 k7_7 g19)) (show (cf7 46).toInt ≤ 1 from (oz_916d756328 e15 k7_7 g20)) (show 0 ≤ (cf7 47).toInt from (oz_e2fef14871 e16 k7_8 g21)) (show (cf7 47).toInt ≤ 1 from (oz_916d756328 e16 k7_8 g22)) (show 0 ≤ (na 17 x7_3.toNatClampNeg).toInt from (oz_df71656335 rz29 nc30)) (show 0 ≤ (1 : Int) from oz_19c3a41681) (show (1 : Int) ≤ 1 from oz_f9181dc4bb) htk (FsI.le (N' := (pf 13).toInt) hfs (by omega)) hwr (KnT.eq hkt (by omega)) (FnT.eq hft (by omega)) (KnS.eq hks (by omega) (by omega)) hfp (SyR.eq hsr (by omega) (by omega)) han hvc_x7_3 _) hT (pr := []) (pcs := [wdP cs h r g tf ta pf na ma_7 wa cf7 ca_7 ef ea xf xa]) hw (oX_call (P := (fun A U H => (oP A g U H))) (pr := []) oG_P hw hA hP) (px_recv hT hw 0 0 rfl rfl rfl) m13_33 m13_30 m13_32 ms_13_5 m1_21 q_Mpg_declareArray ⟨show (4 * d + 20) + 1 ≤ (4 * d + 22) from (oz_895ed6c208), show 8 + (6 + 11) + (200 * d + 700) ≤ (200 * d + 780) from (oz_1aa4e22bf7)⟩ hl.1 rfl (Nat.le_of_ble_eq_true rfl) d_Mpg_declare_56 ⟨Nat.le_of_ble_eq_true rfl, Nat.le_of_ble_eq_true rfl⟩) hw hA (fun v560 p559 H locs hp559 hw => ?_) | (refine px_calli (pr := []) (px_runV (As := [.int x7_3, .int 1]) (rest := [.int (cf7 42), .ref h]) S (c_mp_declareArray l D cs ma0 ys nf tx d mid_7 md3 wv4 h r g tf ta pf na wa ca_7 ef ea xf xa ma_7 cf7 x7_3 1  (show 0 ≤ mid_7 from by first | exact oz_06d7f15a5c k7_29 g23 | omega) (show md3 ≤ (pf 13).toInt from by first | exact oz_bbb5b20c1a g1 hm2_md3 | omega) (show (pf 13).toInt ≤ 2100 from by first | exact g2 | omega) (show (tf 6).toInt ≤ 2049 from by first | exact g3 | omega) (show 0 ≤ (cf7 33).toInt from by first | exact oz_9921a0d148 e12 k7_12 g4 | omega) (show 0 ≤ wv4 from by first | exact hm3_md3 | omega) (show 6 * (cf7 33).toInt + wv4 ≤ 6540 from by omega) (show 0 ≤ (cf7 48).toInt from by first | exact oz_cfab8a20ba e14 k7_20 g14 g15 k7_16 k7_18 | omega) (show 6 * (cf7 48).toInt + wv4 ≤ 6540 from by omega) (show (cf7 38).toInt = nf from by first | exact oz_e13fc83238 g9 e13 k7_3 | omega) (show 0 ≤ nf from by first | exact g10 | omega) (show 0 ≤ (cf7 37).toInt from by first | exact oz_e2fef14871 e18 k7_2 g11 | omega) (show 0 ≤ (cf7 54).toInt from by first | exact oz_9921a0d148 e23 k7_16 g12 | omega) (show (cf7 54).toInt ≤ 4096 * (cf7 48).toInt from by first | exact oz_591883cc22 e14 e23 k7_19 g13 | omega) (show 0 ≤ (cf7 42).toInt from by first | exact oz_4d7634dc29 e19 k7_18 g14 k7_16 | omega) (show (cf7 42).toInt ≤ 4 + 4096 * (cf7 48).toInt from by first | exact oz_28f1d15c37 e14 e19 k7_20 g15 | omega) (show 0 ≤ (cf7 44).toInt from by first | exact oz_e2fef14871 e21 k7_5 g16 | omega) (show 0 ≤ (cf7 45).toInt from by first | exact oz_e2fef14871 e22 k7_6 g17 | omega) (show ys ≤ (cf7 48).toInt ∨ tx = 1 from by omega) (show 0 ≤ (cf7 46).toInt from by first | exact oz_e2fef14871 e15 k7_7 g19 | omega) (show (cf7 46).toInt ≤ 1 from by first | exact oz_916d756328 e15 k7_7 g20 | omega) (show 0 ≤ (cf7 47).toInt from by first | exact oz_e2fef14871 e16 k7_8 g21 | omega) (show (cf7 47).toInt ≤ 1 from by first | exact oz_916d756328 e16 k7_8 g22 | omega) (show 0 ≤ (na 17 x7_3.toNatClampNeg).toInt from by first | exact oz_df71656335 rz29 nc30 | omega) (show 0 ≤ (1 : Int) from by first | exact oz_19c3a41681 | omega) (show (1 : Int) ≤ 1 from by first | exact oz_f9181dc4bb | omega) htk (FsI.le (N' := (pf 13).toInt) hfs (by omega)) hwr (KnT.eq hkt (by omega)) (FnT.eq hft (by omega)) (KnS.eq hks (by omega) (by omega)) hfp (SyR.eq hsr (by omega) (by omega)) han hvc_x7_3 _) hT (pr := []) (pcs := [wdP cs h r g tf ta pf na ma_7 wa cf7 ca_7 ef ea xf xa]) hw (oX_call (P := (fun A U H => (oP A g U H))) (pr := []) oG_P hw hA hP) (px_recv hT hw 0 0 rfl rfl rfl) m13_33 m13_30 m13_32 ms_13_5 m1_21 q_Mpg_declareArray ⟨show (4 * d + 20) + 1 ≤ (4 * d + 22) from (by first | exact oz_895ed6c208 | omega), show 8 + (6 + 11) + (200 * d + 700) ≤ (200 * d + 780) from (by first | exact oz_1aa4e22bf7 | omega)⟩ hl.1 rfl (Nat.le_of_ble_eq_true rfl) d_Mpg_declare_56 ⟨Nat.le_of_ble_eq_true rfl, Nat.le_of_ble_eq_true rfl⟩) hw hA (fun v560 p559 H locs hp559 hw => ?_))
            obtain ⟨ma557, cf558, rfl, e561, e562, e563, e564, e565, e566, e567, e568, e569, e570, e571, e572, e573, e574, e575, e576, e577, e578, e579, e580, e581, e582, e583, e584, e585⟩ := hp559
            have e561 : (cf558 30).toInt = 0 → (cf7 30).toInt = 0 := e561
            have e562 : WrV cf558 (tf 6).toInt := e562
            have hwr := e562
            have hw0_e562 := hwr.1
            have e563 : (cf558 33).toInt = (cf7 33).toInt := e563
            have e564 : (cf558 37).toInt = (cf7 37).toInt := e564
            have e565 : (cf558 38).toInt = (cf7 38).toInt := e565
            have e566 : (cf558 41).toInt = (cf7 41).toInt := e566
            have e567 : (cf558 42).toInt = (cf7 42).toInt := e567
            have e568 : (cf558 43).toInt = (cf7 43).toInt := e568
            have e569 : (cf558 44).toInt = (cf7 44).toInt := e569
            have e570 : (cf558 45).toInt = (cf7 45).toInt := e570
            have e571 : (cf558 46).toInt = (cf7 46).toInt := e571
            have e572 : (cf558 47).toInt = (cf7 47).toInt := e572
            have e573 : (cf558 48).toInt = (cf7 48).toInt := e573
            have e574 : (cf558 54).toInt = (cf7 54).toInt := e574
            have e575 : (cf558 55).toInt = (cf7 55).toInt := e575
            have e576 : (cf558 59).toInt = (cf7 59).toInt := e576
            have e577 : Ann na ma0 ma557 := e577
            have han := e577
            have e578 : FrC mid_7 md3 ma_7 ma557 := e578
            have hfc := hfc.tr e578 (by omega) (by omega)
            have hzts : ZTs cf558 ta ca_7 na ma0 (cf558 48).toInt ys nf ma557 lo mid_7 (na 17 p0.toNatClampNeg) x7_3 tv := ZTs.tr hzts (fun q => by omega) e578 (by omega) (CaG.rf (kn := 0) (ns := 5000)) (by omega) (by omega)
            have e579 : 0 ≤ (cf558 58).toInt := e579
            have e580 : (cf558 58).toInt ≤ 4096 := e580
            have e581 : 0 ≤ v560.toInt := e581
            have e582 : v560.toInt ≤ 4096 := e582
            have e583 : (cf558 58).toInt ≤ 4 * v560.toInt := e583
            have e584 : ZAv cf558 ta na ma557 x7_3 (cf558 58).toInt := e584
            have hanv := han
            have e585 : R_mp_declareArray tf ta na ca_7 x7_3 (1 : Int32) ma_7 cf7 ma557 cf558 v560 := e585
            have lv560 := Int32.le_toInt v560
            have uv560 := Int32.toInt_lt v560
            refine lv_iadd S.x S.b d_Mpg_declare_59 ?_
            have lr586 := Int32.le_toInt (cf7 42)
            have ur586 := Int32.toInt_lt (cf7 42)
            refine lv_topi (fun z587 ez587 => ?_)
            have tz587 : z587.toInt = ((cf7 42).toInt + v560.toInt + 2147483648) % 4294967296 - 2147483648 := by rw [ez587]; exact i_add (cf7 42) v560
            have lz587 := Int32.le_toInt z587
            have uz587 := Int32.toInt_lt z587
            try replace tz587 : z587.toInt = (cf7 42).toInt + v560.toInt := by omega
            refine pP_42 S hT hw 0 rfl m10_33 rfl rfl rfl d_Mpg_declare_60 (ps' := [wdP cs h r g tf ta pf na ma557 wa (upd cf558 42 z587) ca_7 ef ea xf xa]) rfl (fun H locs hw => ?_)
            refine lv_aload_n S.x S.b d_Mpg_declare_63 rfl (lv_at hl 1 rfl) ?_
            refine gP_20 S hT hw 0 rfl m10_6 d_Mpg_declare_64 ?_
            refine lv_iload_n S.x S.b d_Mpg_declare_67 rfl (lv_at hl 4 rfl) ?_
            refine lv_aload_n S.x S.b d_Mpg_declare_68 rfl (lv_at hl 1 rfl) ?_
            refine lv_aload_n S.x S.b d_Mpg_declare_69 rfl (lv_at hl 1 rfl) ?_
            refine gP_22 S hT hw 0 rfl m10_9 d_Mpg_declare_70 ?_
            refine lv_iload_n S.x S.b d_Mpg_declare_73 rfl (lv_at hl 2 rfl) ?_
            refine px_iald S hT hw 0 18 (n := 2100) (f := (ma557 22)) rfl gp_22 (x := p0) (vp_in_iff.mpr (by first | exact oz_a7e05de1cd g23 g25 g1 g2 | (constructor <;> omega))) d_Mpg_declare_74 ?_
            refine lv_topi (fun z588 ez588 => ?_)
            have lz588 := Int32.le_toInt z588
            have uz588 := Int32.toInt_lt z588
            have rz588 : z588.toInt = (ma0 22 p0.toNatClampNeg).toInt := (by rw [ez588, Ann.v22 han (by omega)])
            refine lv_iconst (v := 1) S.x S.b d_Mpg_declare_75 (by decide) ?_
            refine lv_icmp_ne (tgt := 83) S.x S.b d_Mpg_declare_76 (by decide) (fun c589 => ?_) (fun c589 => ?_)
            · have nc589 : ¬ z588.toInt = (1 : Int) := mt (i_eq (x := z588) (y := 1)).mpr c589
              exfalso
              omega
            · have nc589 : z588.toInt = (1 : Int) := (i_eq (x := z588) (y := 1)).mp c589
              refine lv_iconst (v := 3) S.x S.b d_Mpg_declare_79 (by decide) ?_
              refine lv_goto (tgt := 84) S.x S.b d_Mpg_declare_80 (by decide) ?_
              refine lv_aload_n S.x S.b d_Mpg_declare_84 rfl (lv_at hl 1 rfl) ?_
              refine gP_58 (v := (cf558 58)) S hT hw 0 rfl rfl m10_55 d_Mpg_declare_85 ?_
              first | refine px_calli (pr := []) (px_runV (As := [.int 3, .int (cf558 58)]) (rest := [.int x7_3, .ref (r 20)]) S (c_mp_lay l D cs h r g tf ta pf na ma557 wa ef ea xf xa (upd cf558 42 z587) ca_7 3 (cf558 58)  (show 0 ≤ (cf558 48).toInt from (oz_34de85669e e573 e14 k7_20 g14 g15 k7_16 k7_18)) (show (cf558 48).toInt < 1100 from (oz_75b62dc8f3 e573 e14 k7_15 g8 k7_31)) (show 0 ≤ (3 : Int) from oz_e98d287a2d) (show (3 : Int) ≤ 5 from oz_e1644ce341) (show 0 ≤ (cf558 58).toInt from e579) (show (cf558 58).toInt ≤ 4096 from e580) (show 0 ≤ (cf558 54).toInt from (oz_9bcc310e9c e574 e23 k7_16 g12)) (show (cf558 54).toInt ≤ 40000000 from (oz_17a0157d43 e574 e23 k7_19 g8 g13 k7_15 k7_31)) htk _) hT (pr := []) (pcs := [wdP cs h r g tf ta pf na ma557 wa (upd cf558 42 z587) ca_7 ef ea xf xa]) hw px_X.tt (px_recv hT hw 0 0 rfl rfl rfl) m12_189 m12_186 m12_188 ms_12_0 m1_21 q_Mpg_lay ⟨show 0 + 1 ≤ (4 * d + 22) from (oz_c3745992a4), show 8 + (3 + 11) + 0 ≤ (200 * d + 780) from (oz_f51a49eea8)⟩ hl.1 rfl (Nat.le_of_ble_eq_true rfl) d_Mpg_declare_88 ⟨Nat.le_of_ble_eq_true rfl, Nat.le_of_ble_eq_true rfl⟩) hw hA (fun v596 p595 H locs hp595 hw => ?_) | (refine px_calli (pr := []) (px_runV (As := [.int 3, .int (cf558 58)]) (rest := [.int x7_3, .ref (r 20)]) S (c_mp_lay l D cs h r g tf ta pf na ma557 wa ef ea xf xa (upd cf558 42 z587) ca_7 3 (cf558 58)  (show 0 ≤ (cf558 48).toInt from by first | exact oz_34de85669e e573 e14 k7_20 g14 g15 k7_16 k7_18 | omega) (show (cf558 48).toInt < 1100 from by first | exact oz_75b62dc8f3 e573 e14 k7_15 g8 k7_31 | omega) (show 0 ≤ (3 : Int) from by first | exact oz_e98d287a2d | omega) (show (3 : Int) ≤ 5 from by first | exact oz_e1644ce341 | omega) (show 0 ≤ (cf558 58).toInt from by first | exact e579 | omega) (show (cf558 58).toInt ≤ 4096 from by first | exact e580 | omega) (show 0 ≤ (cf558 54).toInt from by first | exact oz_9bcc310e9c e574 e23 k7_16 g12 | omega) (show (cf558 54).toInt ≤ 40000000 from by first | exact oz_17a0157d43 e574 e23 k7_19 g8 g13 k7_15 k7_31 | omega) htk _) hT (pr := []) (pcs := [wdP cs h r g tf ta pf na ma557 wa (upd cf558 42 z587) ca_7 ef ea xf xa]) hw px_X.tt (px_recv hT hw 0 0 rfl rfl rfl) m12_189 m12_186 m12_188 ms_12_0 m1_21 q_Mpg_lay ⟨show 0 + 1 ≤ (4 * d + 22) from (by first | exact oz_c3745992a4 | omega), show 8 + (3 + 11) + 0 ≤ (200 * d + 780) from (by first | exact oz_f51a49eea8 | omega)⟩ hl.1 rfl (Nat.le_of_ble_eq_true rfl) d_Mpg_declare_88 ⟨Nat.le_of_ble_eq_true rfl, Nat.le_of_ble_eq_true rfl⟩) hw hA (fun v596 p595 H locs hp595 hw => ?_))
              obtain ⟨cf593, ca594, rfl, e597, e598, e599, e600, e601, e602, e603, e604, e605, e606, e607, e608, e609, e610, e611, e612, e613, e614, e615, e616, e617, e618, e619, e620⟩ := hp595
              have e597 : v596.toInt = (cf558 48).toInt := e597
              have e598 : (cf593 48).toInt = (cf558 48).toInt + 1 := e598
              have e599 : (cf558 54).toInt ≤ (cf593 54).toInt := e599
              have e600 : (cf593 54).toInt ≤ (cf558 54).toInt + 4096 := e600
              have e601 : (3 : Int) ≤ 3 → (cf593 54).toInt = (cf558 54).toInt + (cf558 58).toInt := e601
              have e602 : 4 ≤ (3 : Int) → (cf593 54).toInt = (cf558 54).toInt + 2 := e602
              have e603 : (cf593 30).toInt = (cf558 30).toInt := e603
              have e604 : (cf593 31).toInt = (cf558 31).toInt := e604
              have e605 : (cf593 33).toInt = (cf558 33).toInt := e605
              have e606 : (cf593 37).toInt = (cf558 37).toInt := e606
              have e607 : (cf593 38).toInt = (cf558 38).toInt := e607
              have e608 : (cf593 41).toInt = (cf558 41).toInt := e608
              have e609 : (cf593 42).toInt = z587.toInt := e609
              have e610 : (cf593 43).toInt = (cf558 43).toInt := e610
              have e611 : (cf593 44).toInt = (cf558 44).toInt := e611
              have e612 : (cf593 45).toInt = (cf558 45).toInt := e612
              have e613 : (cf593 46).toInt = (cf558 46).toInt := e613
              have e614 : (cf593 47).toInt = (cf558 47).toInt := e614
              have e615 : (cf593 55).toInt = (cf558 55).toInt := e615
              have e616 : (cf593 57).toInt = (cf558 57).toInt := e616
              have e617 : (cf593 58).toInt = (cf558 58).toInt := e617
              have e618 : (cf593 59).toInt = (cf558 59).toInt := e618
              have e619 : LyU ca_7 ca594 (cf558 48) (3 : Int32) (cf558 54) (cf558 58) (txo (cf558 43).toInt) := e619
              have hlu : LyU ca_7 ca594 (cf558 48) (3 : Int32) (cf558 54) (cf558 58) tx := (by rw [← htx]; exact (by rw [show (cf 43).toInt = (cf558 43).toInt by omega]; exact e619))
              have hcl_e619 : CaG ca_7 ca594 (cf593 33).toInt (cf558 48).toInt := cag_ly hlu (by omega) (by omega)
              have hsr : SyR ca594 ys (cf593 48).toInt (cf593 54).toInt tx := SyR.eq (SyR.ly (cells' := (cf593 54).toInt) (SyR.eq hsr (ns' := (cf558 48).toInt) (by omega) rfl) hlu rfl (by omega) (by omega) (by omega) ⟨by omega, by omega⟩ ⟨by omega, by omega⟩ (fun q => by omega) (fun q => by omega) (fun q => by omega)) (by omega) rfl
              have hkt := hkt.cg hcl_e619 (by omega)
              have hks := hks.cg hcl_e619 (by omega) (by omega) (n2 := (cf593 48).toInt) (by omega)
              have hcg := hcg.tr hcl_e619 (by omega) (by omega)
              have hft := hft.cg hcl_e619
              have hfp := hfp.cg hcl_e619
              have hzts : ZTs cf593 ta ca594 na ma0 (cf593 48).toInt ys nf ma557 lo mid_7 (na 17 p0.toNatClampNeg) x7_3 tv := ZTs.tr hzts (fun q => by omega) (FrC.rf (lo := 0) (hi := 0)) (by omega) hcl_e619 (by omega) (by omega)
              have hs49 : (ca594 49 (cf558 48).toNatClampNeg).toInt = (3 : Int) := (by rw [hlu.2.1 (by omega) (by omega)]; rfl)
              have hs52 : (ca594 52 (cf558 48).toNatClampNeg).toInt = (cf558 58).toInt := (by rw [hlu.2.2.2.1])
              have hsy : SyA ca594 (cf593 48).toInt ys (cf558 48) := hlu.sa (by omega) (by omega) ⟨by omega, by omega⟩ (by omega)
              have hs3 : Sy3 ca594 (cf 48).toInt (cf593 48).toInt := Sy3.eq (Sy3.ly (Sy3.eq hs3 (b' := (cf558 48).toInt) (by omega)) hlu rfl (by omega) (by omega)) (by omega)
              have e620 : R_mp_lay (3 : Int32) (cf558 58) (upd cf558 42 z587) ca_7 cf593 ca594 v596 := e620
              have hwr : WrV cf593 (tf 6).toInt := WrV.eq hwr (by omega) (by omega)
              have lv596 := Int32.le_toInt v596
              have uv596 := Int32.toInt_lt v596
              have hyv : (cf558 48) = v596 := i_eq.mpr (by omega); rw [hyv] at hsy hs49 hs52
              refine px_iast S hT hw 0 16 (n := 2100) (f := (ma557 20)) (x := x7_3) (y := v596) rfl gp_20 (vp_in_iff.mpr (by constructor <;> omega)) d_Mpg_declare_91 (w' := wdP cs h r g tf ta pf na (va_up ma557 20 (upd (ma557 20) x7_3.toNatClampNeg v596)) wa cf593 ca594 ef ea xf xa) (ps' := [wdP cs h r g tf ta pf na (va_up ma557 20 (upd (ma557 20) x7_3.toNatClampNeg v596)) wa cf593 ca594 ef ea xf xa]) sp_20 rfl (fun H locs hw => ?_)
              obtain ⟨ma621, hu_ma621⟩ : ∃ y : Nat → Nat → Int32, y = va_up ma557 20 (upd (ma557 20) x7_3.toNatClampNeg v596) := ⟨_, rfl⟩
              have hw : pw D A s.heap _ _ [wdP cs h r g tf ta pf na ma621 wa cf593 ca594 ef ea xf xa] := (by rw [hu_ma621]; exact hw)
              have hf1_ma621 : FrC x7_3.toInt (x7_3.toInt + 1) ma557 ma621 := (by rw [hu_ma621]; exact FrC.w FrC.rf (by omega) (by omega) (by omega))
              have han : Ann na ma0 ma621 := (by rw [hu_ma621]; exact Ann.w20 han (by omega))
              have hfc := hfc.tr hf1_ma621 (by omega) (by omega)
              have hzts : ZTs cf593 ta ca594 na ma0 (cf593 48).toInt ys nf ma621 lo mid_7 (na 17 p0.toNatClampNeg) x7_3 tv := ZTs.tr hzts (fun q => by omega) hf1_ma621 (by omega) (CaG.rf (kn := 0) (ns := 5000)) (by omega) (by omega)
              have hv_20_x7_3 : ma621 20 x7_3.toNatClampNeg = v596 := (by rw [hu_ma621, va_up_s, pk_us])
              have hnhv_20_x7_3 : (ma621 20 x7_3.toNatClampNeg).toInt = v596.toInt := (by rw [hv_20_x7_3])
              refine lv_aload_n S.x S.b d_Mpg_declare_92 rfl (lv_at hl 1 rfl) ?_
              refine lv_iload S.x S.b d_Mpg_declare_93 (lv_at hl 0 rfl) ?_
              refine lv_aload_n S.x S.b d_Mpg_declare_95 rfl (lv_at hl 1 rfl) ?_
              refine gP_22 S hT hw 0 rfl m10_9 d_Mpg_declare_96 ?_
              refine lv_iload_n S.x S.b d_Mpg_declare_99 rfl (lv_at hl 2 rfl) ?_
              refine px_iald S hT hw 0 18 (n := 2100) (f := (ma621 22)) rfl gp_22 (x := p0) (vp_in_iff.mpr (by first | exact oz_a7e05de1cd g23 g25 g1 g2 | (constructor <;> omega))) d_Mpg_declare_100 ?_
              refine lv_topi (fun z622 ez622 => ?_)
              have lz622 := Int32.le_toInt z622
              have uz622 := Int32.toInt_lt z622
              have rz622 : z622.toInt = (ma0 22 p0.toNatClampNeg).toInt := (by rw [ez622, Ann.v22 han (by omega)])
              refine lv_iconst (v := 1) S.x S.b d_Mpg_declare_101 (by decide) ?_
              refine lv_icmp_ne (tgt := 109) S.x S.b d_Mpg_declare_102 (by decide) (fun c623 => ?_) (fun c623 => ?_)
              · have nc623 : ¬ z622.toInt = (1 : Int) := mt (i_eq (x := z622) (y := 1)).mpr c623
                exfalso
                omega
              · have nc623 : z622.toInt = (1 : Int) := (i_eq (x := z622) (y := 1)).mp c623
                refine lv_iconst (v := 3) S.x S.b d_Mpg_declare_105 (by decide) ?_
                refine lv_goto (tgt := 110) S.x S.b d_Mpg_declare_106 (by decide) ?_
                refine lv_iconst (v := 0) S.x S.b d_Mpg_declare_110 (by decide) ?_
                refine lv_aload_n S.x S.b d_Mpg_declare_111 rfl (lv_at hl 1 rfl) ?_
                refine gP_20 S hT hw 0 rfl m10_6 d_Mpg_declare_112 ?_
                refine lv_iload_n S.x S.b d_Mpg_declare_115 rfl (lv_at hl 4 rfl) ?_
                refine px_iald S hT hw 0 16 (n := 2100) (f := (ma621 20)) rfl gp_20 (x := x7_3) (vp_in_iff.mpr (by constructor <;> omega)) d_Mpg_declare_116 ?_
                refine lv_topi (fun z625 ez625 => ?_)
                have lz625 := Int32.le_toInt z625
                have uz625 := Int32.toInt_lt z625
                have hsz625 : v596 = z625 := (ez625.trans hv_20_x7_3).symm; subst hsz625
                first | refine px_callv (pr := []) (px_runV (As := [.int z5, .int 3, .int 0, .int v596]) (rest := []) S (c_mp_know l D cs h r g tf ta pf na ma621 wa ef ea xf xa cf593 ca594 z5 3 0 v596  (show 0 ≤ (cf593 33).toInt from (oz_eb53d9d016 e605 e563 e12 k7_12 g4)) (show (cf593 33).toInt < 1100 from (oz_3ef51c39d5 e605 e563 e12 k7_13 g6 k7_31)) htk _) hT (pr := []) (pcs := [wdP cs h r g tf ta pf na ma621 wa cf593 ca594 ef ea xf xa]) hw px_X.tt (px_recv hT hw 0 0 rfl rfl rfl) m12_193 m12_190 m12_192 ms_12_1 m1_21 q_Mpg_know ⟨show 0 + 1 ≤ (4 * d + 22) from (oz_c3745992a4), show 8 + (5 + 11) + 0 ≤ (200 * d + 780) from (oz_7102db9304)⟩ hl.1 rfl (Nat.le_of_ble_eq_true rfl) d_Mpg_declare_117 ⟨Nat.le_of_ble_eq_true rfl, Nat.le_of_ble_eq_true rfl⟩) hw hA (fun p630 H locs hp630 hw => ?_) | (refine px_callv (pr := []) (px_runV (As := [.int z5, .int 3, .int 0, .int v596]) (rest := []) S (c_mp_know l D cs h r g tf ta pf na ma621 wa ef ea xf xa cf593 ca594 z5 3 0 v596  (show 0 ≤ (cf593 33).toInt from by first | exact oz_eb53d9d016 e605 e563 e12 k7_12 g4 | omega) (show (cf593 33).toInt < 1100 from by first | exact oz_3ef51c39d5 e605 e563 e12 k7_13 g6 k7_31 | omega) htk _) hT (pr := []) (pcs := [wdP cs h r g tf ta pf na ma621 wa cf593 ca594 ef ea xf xa]) hw px_X.tt (px_recv hT hw 0 0 rfl rfl rfl) m12_193 m12_190 m12_192 ms_12_1 m1_21 q_Mpg_know ⟨show 0 + 1 ≤ (4 * d + 22) from (by first | exact oz_c3745992a4 | omega), show 8 + (5 + 11) + 0 ≤ (200 * d + 780) from (by first | exact oz_7102db9304 | omega)⟩ hl.1 rfl (Nat.le_of_ble_eq_true rfl) d_Mpg_declare_117 ⟨Nat.le_of_ble_eq_true rfl, Nat.le_of_ble_eq_true rfl⟩) hw hA (fun p630 H locs hp630 hw => ?_))
                obtain ⟨cf628, ca629, rfl, e632, e633, e634, e635, e636, e637, e638, e639, e640, e641, e642, e643, e644, e645, e646, e647, e648, e649, e650, e651⟩ := hp630
                have e632 : (cf628 33).toInt = (cf593 33).toInt + 1 := e632
                have e633 : (cf628 30).toInt = (cf593 30).toInt := e633
                have e634 : (cf628 31).toInt = (cf593 31).toInt := e634
                have e635 : (cf628 37).toInt = (cf593 37).toInt := e635
                have e636 : (cf628 38).toInt = (cf593 38).toInt := e636
                have e637 : (cf628 41).toInt = (cf593 41).toInt := e637
                have e638 : (cf628 42).toInt = (cf593 42).toInt := e638
                have e639 : (cf628 43).toInt = (cf593 43).toInt := e639
                have e640 : (cf628 44).toInt = (cf593 44).toInt := e640
                have e641 : (cf628 45).toInt = (cf593 45).toInt := e641
                have e642 : (cf628 46).toInt = (cf593 46).toInt := e642
                have e643 : (cf628 47).toInt = (cf593 47).toInt := e643
                have e644 : (cf628 48).toInt = (cf593 48).toInt := e644
                have e645 : (cf628 54).toInt = (cf593 54).toInt := e645
                have e646 : (cf628 55).toInt = (cf593 55).toInt := e646
                have e647 : (cf628 57).toInt = (cf593 57).toInt := e647
                have e648 : (cf628 58).toInt = (cf593 58).toInt := e648
                have e649 : (cf628 59).toInt = (cf593 59).toInt := e649
                have e650 : KwU ca594 ca629 (cf593 33) z5 (3 : Int32) (0 : Int32) v596 := e650
                have hcw_e650 : CaG ca594 ca629 (cf593 33).toInt (cf628 48).toInt := cag_kw e650 (by omega) (by omega)
                have hkt : KnT (tf 6).toInt ca629 (cf628 33).toInt := KnT.eq (KnT.kw (KnT.eq hkt (n' := (cf593 33).toInt) (by omega)) e650 rfl (by omega) (by omega) ⟨by omega, by omega⟩) (by omega)
                have hks : KnS ca629 (cf628 33).toInt (cf628 48).toInt ys := KnS.eq (KnS.kw (KnS.eq hks (n' := (cf593 33).toInt) (by omega) rfl) e650 rfl (by omega) (Or.inr (Or.inl ⟨by omega, hsy⟩))) (by omega) (by omega)
                have hcg := hcg.tr hcw_e650 (by omega) (by omega)
                have hft := hft.cg hcw_e650
                have hfp := hfp.cg hcw_e650
                have hsr := hsr.cg hcw_e650 (by omega)
                have hzts : ZTs cf628 ta ca629 na ma0 (cf628 48).toInt ys nf ma621 lo mid_7 (na 17 p0.toNatClampNeg) x7_3 tv := ZTs.tr hzts (fun q => by omega) (FrC.rf (lo := 0) (hi := 0)) (by omega) hcw_e650 (by omega) (by omega)
                have hs3 : Sy3 ca629 (cf 48).toInt (cf628 48).toInt := Sy3.eq (hs3.cg hcw_e650 (by omega)) (by omega)
                have hsb_e650 := hsy.1.1
                first | have hcy_e650 := cl_nat (x := v596) ((oz_f3ebed1ad0 e597 hsb_e650.1)) | (have hcy_e650 := cl_nat (x := v596) (by first | exact oz_f3ebed1ad0 e597 hsb_e650.1 | omega))
                have hs49 : (ca629 49 v596.toNatClampNeg).toInt = _ := (congrArg Int32.toInt (hcw_e650.2.2 _ (by omega)).1).trans hs49
                have hs52 : (ca629 52 v596.toNatClampNeg).toInt = _ := (congrArg Int32.toInt (hcw_e650.2.2 _ (by omega)).2.2.2).trans hs52
                have hsy : SyA ca629 (cf628 48).toInt ys v596 := hsy.cg hcw_e650 (by omega) (by omega)
                have e651 : R_mp_know z5 (3 : Int32) (0 : Int32) v596 cf593 ca594 cf628 ca629 := e651
                have hwr : WrV cf628 (tf 6).toInt := WrV.eq hwr (by omega) (by omega)
                refine lv_goto (tgt := 223) S.x S.b d_Mpg_declare_120 (by decide) ?_
                refine lv_aload_n S.x S.b d_Mpg_declare_223 rfl (lv_at hl 1 rfl) ?_
                refine gP_21 S hT hw 0 rfl m10_7 d_Mpg_declare_224 ?_
                refine lv_iload_n S.x S.b d_Mpg_declare_227 rfl (lv_at hl 4 rfl) ?_
                refine px_iald S hT hw 0 17 (n := 2100) (f := (na 21)) rfl gp_21 (x := x7_3) (vp_in_iff.mpr (by constructor <;> omega)) d_Mpg_declare_228 ?_
                refine lv_topi (fun z652 ez652 => ?_)
                have lz652 := Int32.le_toInt z652
                have uz652 := Int32.toInt_lt z652
                refine lv_istore_n (lv' := [(3, .int z652), (4, .int z5), (0, .ref h), (1, .int p0), (2, .int p1)]) S.x S.b d_Mpg_declare_229 rfl hl (by decide) rfl (fun ls hl => ?_)
                refine lv_goto (tgt := 7) S.x S.b d_Mpg_declare_230 (by decide) ?_
                first | exact ih7 ma621 cf628 ca629 md3 (wr_7 - wv4) z652 _ _ ls (show (cf628 30).toInt = 0 → (cf 30).toInt = 0 from by omega) (show WrV cf628 (tf 6).toInt from hwr) (show (cf628 37).toInt = (cf 37).toInt from (oz_0867352dd7 k7_2 e635 e18 e606 e564)) (show (cf628 38).toInt = (cf 38).toInt from (oz_0867352dd7 k7_3 e636 e13 e607 e565)) (show (cf628 43).toInt = (cf 43).toInt from (oz_0867352dd7 k7_4 e639 e20 e610 e568)) (show (cf628 44).toInt = (cf 44).toInt from (oz_0867352dd7 k7_5 e640 e21 e611 e569)) (show (cf628 45).toInt = (cf 45).toInt from (oz_0867352dd7 k7_6 e641 e22 e612 e570)) (show (cf628 46).toInt = (cf 46).toInt from (oz_0867352dd7 k7_7 e642 e15 e613 e571)) (show (cf628 47).toInt = (cf 47).toInt from (oz_0867352dd7 k7_8 e643 e16 e614 e572)) (show (cf628 41).toInt = (cf 41).toInt from (oz_0867352dd7 k7_9 e637 e27 e608 e566)) (show (cf628 55).toInt = (cf 55).toInt from (oz_0867352dd7 k7_10 e646 e24 e615 e575)) (show (cf628 59).toInt = (cf 59).toInt from (oz_0867352dd7 k7_11 e649 e26 e618 e576)) (show (cf 33).toInt ≤ (cf628 33).toInt from (oz_a101ed4aa6 k7_12 e632 e12 e605 e563)) (show 6 * (cf628 33).toInt ≤ 6 * (cf 33).toInt + (w - (wr_7 - wv4)) from by omega) (show (cf 48).toInt ≤ (cf628 48).toInt from (oz_788511b878 k7_20 e644 k7_16 k7_18 e14 hsb_e650.2 e573)) (show 6 * (cf628 48).toInt ≤ 6 * (cf 48).toInt + (w - (wr_7 - wv4)) from by omega) (show (cf 54).toInt ≤ (cf628 54).toInt from (oz_39bc41608f k7_16 e645 e23 e599 e574)) (show (cf 42).toInt ≤ (cf628 42).toInt from (oz_a38eb904f0 k7_18 e638 k7_16 e19 e609 tz587 e581)) (show (cf628 54).toInt - (cf 54).toInt ≤ 4 * ((cf628 42).toInt - (cf 42).toInt) from (oz_232d3ab33c k7_18 e638 e645 e19 e23 e609 e601 e574 e583 tz587)) (show (cf628 54).toInt - (cf 54).toInt ≤ 4096 * ((cf628 48).toInt - (cf 48).toInt) from (oz_0e3be830c4 k7_19 e644 e645 e14 e23 e600 hsb_e650.2 e573 e574)) (show (cf628 42).toInt - (cf 42).toInt ≤ 4096 * ((cf628 48).toInt - (cf 48).toInt) from (oz_7cb314f517 k7_20 e638 e644 e14 e19 e609 hsb_e650.2 e573 tz587 e582)) (show KnT (tf 6).toInt ca629 (cf628 33).toInt from (KnT.eq hkt (by omega))) (show KnS ca629 (cf628 33).toInt (cf628 48).toInt ys from (KnS.eq hks (by omega) (by omega))) (show CaG ca ca629 (cf 33).toInt (cf 48).toInt from (hcg.le (by omega) (by omega))) (show SyR ca629 ys (cf628 48).toInt (cf628 54).toInt tx from (SyR.eq hsr (by omega) (by omega))) (show Ann na ma0 ma621 from han) (show FrC lo hi ma ma621 from hfc) (show Sy3 ca629 (cf 48).toInt (cf628 48).toInt from (Sy3.eq hs3 (by omega))) (show lo ≤ md3 from hm1_md3) (show p0.toInt + 1 ≤ md3 from by omega) (show md3 ≤ hi from hm2_md3) (show 0 ≤ (wr_7 - wv4) from by omega) (show (wr_7 - wv4) ≤ w from by omega) (show RvV ta (tf 6).toInt na ma0 d md3 hi (wr_7 - wv4) z652 from (by rw [ez652]; exact hrv2)) (show ZTs cf628 ta ca629 na ma0 (cf628 48).toInt ys nf ma621 lo md3 (na 17 p0.toNatClampNeg) z652 tv from (ZTs.nx (ZTs.to hzts (fun q => by omega) (by omega) (Int.le_refl _) (by omega) rfl) (show ZTe cf628 ta ca629 na ma0 (cf628 48).toInt ys nf ma621 lo md3 x7_3 tv from (fun zz => tyv_2 ⟨by omega, by omega, by omega⟩ (by omega) (by omega) (by rw [hv_20_x7_3]; exact hsy) (by show (ca629 49 (ma621 20 x7_3.toNatClampNeg).toNatClampNeg).toInt ≤ 3; rw [hv_20_x7_3]; omega) (by show AvC ta na _ x7_3 (ca629 52 (ma621 20 x7_3.toNatClampNeg).toNatClampNeg).toInt; rw [hv_20_x7_3, hs52]; exact ZAv.to e584 (fun q => by omega) hanv han (by omega) zz))) (by omega) ez652)) (show K_mp_declare_7 tf ta na p0 p1 ma cf ca ma621 cf628 ca629 z652 from (fun y_f0 y_f1 y_f2 k hE => k7_35 y_f0 y_f1 y_f2 (k + 1) (Or.inr (Or.inl ⟨rfl, x7_3, rfl, rfl, rfl, rfl, rfl, Or.inr ⟨nc1, z5, ez5, cf7, e28, z29, ez29, Or.inr ⟨nc30, z454, ez454, Or.inr ⟨nc455, ma557, cf558, v560, e585, z587, ez587, z588, ez588, nc589, cf593, ca594, v596, e620, ma621, hu_ma621, z622, ez622, nc623, v596, ez625, cf628, ca629, e651, z652, ez652, hE⟩⟩⟩⟩)))) (show hi - md3 < (n_7 : Int) from by omega) hw (lv_sub hl [2, 3, 4, 0] rfl) | (exact ih7 ma621 cf628 ca629 md3 (wr_7 - wv4) z652 _ _ ls (show (cf628 30).toInt = 0 → (cf 30).toInt = 0 from by omega) (show WrV cf628 (tf 6).toInt from hwr) (show (cf628 37).toInt = (cf 37).toInt from by first | exact oz_0867352dd7 k7_2 e635 e18 e606 e564 | omega) (show (cf628 38).toInt = (cf 38).toInt from by first | exact oz_0867352dd7 k7_3 e636 e13 e607 e565 | omega) (show (cf628 43).toInt = (cf 43).toInt from by first | exact oz_0867352dd7 k7_4 e639 e20 e610 e568 | omega) (show (cf628 44).toInt = (cf 44).toInt from by first | exact oz_0867352dd7 k7_5 e640 e21 e611 e569 | omega) (show (cf628 45).toInt = (cf 45).toInt from by first | exact oz_0867352dd7 k7_6 e641 e22 e612 e570 | omega) (show (cf628 46).toInt = (cf 46).toInt from by first | exact oz_0867352dd7 k7_7 e642 e15 e613 e571 | omega) (show (cf628 47).toInt = (cf 47).toInt from by first | exact oz_0867352dd7 k7_8 e643 e16 e614 e572 | omega) (show (cf628 41).toInt = (cf 41).toInt from by first | exact oz_0867352dd7 k7_9 e637 e27 e608 e566 | omega) (show (cf628 55).toInt = (cf 55).toInt from by first | exact oz_0867352dd7 k7_10 e646 e24 e615 e575 | omega) (show (cf628 59).toInt = (cf 59).toInt from by first | exact oz_0867352dd7 k7_11 e649 e26 e618 e576 | omega) (show (cf 33).toInt ≤ (cf628 33).toInt from by first | exact oz_a101ed4aa6 k7_12 e632 e12 e605 e563 | omega) (show 6 * (cf628 33).toInt ≤ 6 * (cf 33).toInt + (w - (wr_7 - wv4)) from by omega) (show (cf 48).toInt ≤ (cf628 48).toInt from by first | exact oz_788511b878 k7_20 e644 k7_16 k7_18 e14 hsb_e650.2 e573 | omega) (show 6 * (cf628 48).toInt ≤ 6 * (cf 48).toInt + (w - (wr_7 - wv4)) from by omega) (show (cf 54).toInt ≤ (cf628 54).toInt from by first | exact oz_39bc41608f k7_16 e645 e23 e599 e574 | omega) (show (cf 42).toInt ≤ (cf628 42).toInt from by first | exact oz_a38eb904f0 k7_18 e638 k7_16 e19 e609 tz587 e581 | omega) (show (cf628 54).toInt - (cf 54).toInt ≤ 4 * ((cf628 42).toInt - (cf 42).toInt) from by first | exact oz_232d3ab33c k7_18 e638 e645 e19 e23 e609 e601 e574 e583 tz587 | omega) (show (cf628 54).toInt - (cf 54).toInt ≤ 4096 * ((cf628 48).toInt - (cf 48).toInt) from by first | exact oz_0e3be830c4 k7_19 e644 e645 e14 e23 e600 hsb_e650.2 e573 e574 | omega) (show (cf628 42).toInt - (cf 42).toInt ≤ 4096 * ((cf628 48).toInt - (cf 48).toInt) from by first | exact oz_7cb314f517 k7_20 e638 e644 e14 e19 e609 hsb_e650.2 e573 tz587 e582 | omega) (show KnT (tf 6).toInt ca629 (cf628 33).toInt from (KnT.eq hkt (by omega))) (show KnS ca629 (cf628 33).toInt (cf628 48).toInt ys from (KnS.eq hks (by omega) (by omega))) (show CaG ca ca629 (cf 33).toInt (cf 48).toInt from (hcg.le (by omega) (by omega))) (show SyR ca629 ys (cf628 48).toInt (cf628 54).toInt tx from (SyR.eq hsr (by omega) (by omega))) (show Ann na ma0 ma621 from han) (show FrC lo hi ma ma621 from hfc) (show Sy3 ca629 (cf 48).toInt (cf628 48).toInt from (Sy3.eq hs3 (by omega))) (show lo ≤ md3 from by first | exact hm1_md3 | omega) (show p0.toInt + 1 ≤ md3 from by omega) (show md3 ≤ hi from by first | exact hm2_md3 | omega) (show 0 ≤ (wr_7 - wv4) from by omega) (show (wr_7 - wv4) ≤ w from by omega) (show RvV ta (tf 6).toInt na ma0 d md3 hi (wr_7 - wv4) z652 from (by rw [ez652]; exact hrv2)) (show ZTs cf628 ta ca629 na ma0 (cf628 48).toInt ys nf ma621 lo md3 (na 17 p0.toNatClampNeg) z652 tv from (ZTs.nx (ZTs.to hzts (fun q => by omega) (by omega) (Int.le_refl _) (by omega) rfl) (show ZTe cf628 ta ca629 na ma0 (cf628 48).toInt ys nf ma621 lo md3 x7_3 tv from (fun zz => tyv_2 ⟨by omega, by omega, by omega⟩ (by omega) (by omega) (by rw [hv_20_x7_3]; exact hsy) (by show (ca629 49 (ma621 20 x7_3.toNatClampNeg).toNatClampNeg).toInt ≤ 3; rw [hv_20_x7_3]; omega) (by show AvC ta na _ x7_3 (ca629 52 (ma621 20 x7_3.toNatClampNeg).toNatClampNeg).toInt; rw [hv_20_x7_3, hs52]; exact ZAv.to e584 (fun q => by omega) hanv han (by omega) zz))) (by omega) ez652)) (show K_mp_declare_7 tf ta na p0 p1 ma cf ca ma621 cf628 ca629 z652 from (fun y_f0 y_f1 y_f2 k hE => k7_35 y_f0 y_f1 y_f2 (k + 1) (Or.inr (Or.inl ⟨rfl, x7_3, rfl, rfl, rfl, rfl, rfl, Or.inr ⟨nc1, z5, ez5, cf7, e28, z29, ez29, Or.inr ⟨nc30, z454, ez454, Or.inr ⟨nc455, ma557, cf558, v560, e585, z587, ez587, z588, ez588, nc589, cf593, ca594, v596, e620, ma621, hu_ma621, z622, ez622, nc623, v596, ez625, cf628, ca629, e651, z652, ez652, hE⟩⟩⟩⟩)))) (show hi - md3 < (n_7 : Int) from by omega) hw (lv_sub hl [2, 3, 4, 0] rfl))
  refine lv_aload_n S.x S.b d_Mpg_declare_0 rfl (lv_at hl 0 rfl) ?_
  refine gP_17 S hT hw 0 rfl m10_1 d_Mpg_declare_1 ?_
  refine lv_iload_n S.x S.b d_Mpg_declare_4 rfl (lv_at hl 1 rfl) ?_
  refine px_iald S hT hw 0 13 (n := 2100) (f := (na 17)) rfl gp_17 (x := p0) (vp_in_iff.mpr (by first | exact oz_a7e05de1cd g23 g25 g1 g2 | (constructor <;> omega))) d_Mpg_declare_5 ?_
  refine lv_topi (fun z653 ez653 => ?_)
  have lz653 := Int32.le_toInt z653
  have uz653 := Int32.toInt_lt z653
  have rz653 : z653.toInt = (na 17 p0.toNatClampNeg).toInt := by rw [ez653]
  refine lv_istore_n (lv' := [(3, .int z653), (0, .ref h), (1, .int p0), (2, .int p1)]) S.x S.b d_Mpg_declare_6 rfl hl (by decide) rfl (fun ls hl => ?_)
  first | exact J7 ((hi - (p0.toInt + 1)).toNat + 1) ma cf ca (p0.toInt + 1) w z653 _ _ ls (show (cf 30).toInt = 0 → (cf 30).toInt = 0 from (fun q9 => q9)) (show WrV cf (tf 6).toInt from hwr) (show (cf 37).toInt = (cf 37).toInt from rfl) (show (cf 38).toInt = (cf 38).toInt from rfl) (show (cf 43).toInt = (cf 43).toInt from rfl) (show (cf 44).toInt = (cf 44).toInt from rfl) (show (cf 45).toInt = (cf 45).toInt from rfl) (show (cf 46).toInt = (cf 46).toInt from rfl) (show (cf 47).toInt = (cf 47).toInt from rfl) (show (cf 41).toInt = (cf 41).toInt from rfl) (show (cf 55).toInt = (cf 55).toInt from rfl) (show (cf 59).toInt = (cf 59).toInt from rfl) (show (cf 33).toInt ≤ (cf 33).toInt from oz_1cb5f934a5) (show 6 * (cf 33).toInt ≤ 6 * (cf 33).toInt + (w - w) from oz_1c3b0c11f9) (show (cf 48).toInt ≤ (cf 48).toInt from oz_1cb5f934a5) (show 6 * (cf 48).toInt ≤ 6 * (cf 48).toInt + (w - w) from oz_1c3b0c11f9) (show (cf 54).toInt ≤ (cf 54).toInt from oz_1cb5f934a5) (show (cf 42).toInt ≤ (cf 42).toInt from oz_1cb5f934a5) (show (cf 54).toInt - (cf 54).toInt ≤ 4 * ((cf 42).toInt - (cf 42).toInt) from oz_a1153f1990) (show (cf 54).toInt - (cf 54).toInt ≤ 4096 * ((cf 48).toInt - (cf 48).toInt) from oz_f4137ca117) (show (cf 42).toInt - (cf 42).toInt ≤ 4096 * ((cf 48).toInt - (cf 48).toInt) from oz_f4137ca117) (show KnT (tf 6).toInt ca (cf 33).toInt from (KnT.eq hkt (by omega))) (show KnS ca (cf 33).toInt (cf 48).toInt ys from (KnS.eq hks (by omega) (by omega))) (show CaG ca ca (cf 33).toInt (cf 48).toInt from (hcg.le (by omega) (by omega))) (show SyR ca ys (cf 48).toInt (cf 54).toInt tx from (SyR.eq hsr (by omega) (by omega))) (show Ann na ma0 ma from han) (show FrC lo hi ma ma from hfc) (show Sy3 ca (cf 48).toInt (cf 48).toInt from (Sy3.eq hs3 (by omega))) (show lo ≤ (p0.toInt + 1) from (oz_2b1b45a940 g24)) (show p0.toInt + 1 ≤ (p0.toInt + 1) from oz_a1bc7e1f12) (show (p0.toInt + 1) ≤ hi from (oz_8cd8185cc8 g25)) (show 0 ≤ w from g5) (show w ≤ w from oz_1cb5f934a5) (show RvV ta (tf 6).toInt na ma0 d (p0.toInt + 1) hi w z653 from (by rw [ez653]; exact hrv)) (show ZTs cf ta ca na ma0 (cf 48).toInt ys nf ma lo (p0.toInt + 1) (na 17 p0.toNatClampNeg) z653 tv from (zts_0 ez653.symm)) (show K_mp_declare_7 tf ta na p0 p1 ma cf ca ma cf ca z653 from (fun y_f0 y_f1 y_f2 k hE => Exists.intro (k + 1) (Or.inl ⟨rfl, z653, ez653, hE⟩))) (show hi - (p0.toInt + 1) < ((((hi - (p0.toInt + 1)).toNat + 1 : Nat) : Int) : Int) from oz_natlt) hw (lv_sub hl [1, 2, 3, 0] rfl) | (exact J7 ((hi - (p0.toInt + 1)).toNat + 1) ma cf ca (p0.toInt + 1) w z653 _ _ ls (show (cf 30).toInt = 0 → (cf 30).toInt = 0 from by first | exact fun q9 => q9 | omega) (show WrV cf (tf 6).toInt from hwr) (show (cf 37).toInt = (cf 37).toInt from rfl) (show (cf 38).toInt = (cf 38).toInt from rfl) (show (cf 43).toInt = (cf 43).toInt from rfl) (show (cf 44).toInt = (cf 44).toInt from rfl) (show (cf 45).toInt = (cf 45).toInt from rfl) (show (cf 46).toInt = (cf 46).toInt from rfl) (show (cf 47).toInt = (cf 47).toInt from rfl) (show (cf 41).toInt = (cf 41).toInt from rfl) (show (cf 55).toInt = (cf 55).toInt from rfl) (show (cf 59).toInt = (cf 59).toInt from rfl) (show (cf 33).toInt ≤ (cf 33).toInt from by first | exact oz_1cb5f934a5 | omega) (show 6 * (cf 33).toInt ≤ 6 * (cf 33).toInt + (w - w) from by first | exact oz_1c3b0c11f9 | omega) (show (cf 48).toInt ≤ (cf 48).toInt from by first | exact oz_1cb5f934a5 | omega) (show 6 * (cf 48).toInt ≤ 6 * (cf 48).toInt + (w - w) from by first | exact oz_1c3b0c11f9 | omega) (show (cf 54).toInt ≤ (cf 54).toInt from by first | exact oz_1cb5f934a5 | omega) (show (cf 42).toInt ≤ (cf 42).toInt from by first | exact oz_1cb5f934a5 | omega) (show (cf 54).toInt - (cf 54).toInt ≤ 4 * ((cf 42).toInt - (cf 42).toInt) from by first | exact oz_a1153f1990 | omega) (show (cf 54).toInt - (cf 54).toInt ≤ 4096 * ((cf 48).toInt - (cf 48).toInt) from by first | exact oz_f4137ca117 | omega) (show (cf 42).toInt - (cf 42).toInt ≤ 4096 * ((cf 48).toInt - (cf 48).toInt) from by first | exact oz_f4137ca117 | omega) (show KnT (tf 6).toInt ca (cf 33).toInt from (KnT.eq hkt (by omega))) (show KnS ca (cf 33).toInt (cf 48).toInt ys from (KnS.eq hks (by omega) (by omega))) (show CaG ca ca (cf 33).toInt (cf 48).toInt from (hcg.le (by omega) (by omega))) (show SyR ca ys (cf 48).toInt (cf 54).toInt tx from (SyR.eq hsr (by omega) (by omega))) (show Ann na ma0 ma from han) (show FrC lo hi ma ma from hfc) (show Sy3 ca (cf 48).toInt (cf 48).toInt from (Sy3.eq hs3 (by omega))) (show lo ≤ (p0.toInt + 1) from by first | exact oz_2b1b45a940 g24 | omega) (show p0.toInt + 1 ≤ (p0.toInt + 1) from by first | exact oz_a1bc7e1f12 | omega) (show (p0.toInt + 1) ≤ hi from by first | exact oz_8cd8185cc8 g25 | omega) (show 0 ≤ w from by first | exact g5 | omega) (show w ≤ w from by first | exact oz_1cb5f934a5 | omega) (show RvV ta (tf 6).toInt na ma0 d (p0.toInt + 1) hi w z653 from (by rw [ez653]; exact hrv)) (show ZTs cf ta ca na ma0 (cf 48).toInt ys nf ma lo (p0.toInt + 1) (na 17 p0.toNatClampNeg) z653 tv from (zts_0 ez653.symm)) (show K_mp_declare_7 tf ta na p0 p1 ma cf ca ma cf ca z653 from (fun y_f0 y_f1 y_f2 k hE => Exists.intro (k + 1) (Or.inl ⟨rfl, z653, ez653, hE⟩))) (show hi - (p0.toInt + 1) < ((((hi - (p0.toInt + 1)).toNat + 1 : Nat) : Int) : Int) from by first | exact oz_natlt | omega) hw (lv_sub hl [1, 2, 3, 0] rfl))
