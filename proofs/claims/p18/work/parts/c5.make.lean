theorem oz_dcd8ea39e2 {a0 a1 : Int} (h0 : a0 + a1 ≤ 7000) : a0 + (a1 - 1 - 1) ≤ 7000 := by omega
theorem oz_edfa6af01b {a0 a1 a2 : Int} (h0 : a0 ≤ a1 + (a2 - 1 - 1)) (h1 : a1 + a2 ≤ 7000) : a0 < 7000 := by omega
theorem oz_b6fafccf18 {a0 a1 a2 a3 : Int} (h0 : a3 ≤ a1 + (a2 - 1 - 1)) (h1 : a0 = a3 + 1) : a0 ≤ a1 + a2 := by omega
theorem oz_b8fc81f128 {a0 a1 a2 a3 : Int} (h0 : a0 + a1 + 1 ≤ a2 + a3) (h1 : a2 + a3 ≤ 7000) (h2 : 0 ≤ a1) : a0 < 7000 := by omega
theorem oz_0e1976b1ec {a0 a1 a2 a3 a4 : Int} (h0 : a3 + a4 + 1 ≤ a1 + a2) (h1 : a0 = a3 + 1) (h2 : 0 ≤ a4) : a0 ≤ a1 + a2 := by omega
theorem oz_e6f6ba9544 {a0 a1 : Int} (h0 : ¬ a0 < (0 : Int)) (h1 : a0 < (a1)) (h2 : a1 ≤ 2100) : 0 ≤ a0 ∧ a0 < ((2100 : Nat) : Int) := by omega
theorem oz_e7dfbedcfe {a0 a1 a2 a3 a4 a5 : Int} (h0 : a3 + a1 + 1 ≤ a4) (h1 : a5 < a2) (h2 : a0 = a3 + 1) (h3 : a4 ≤ a5) : a0 + a1 + 1 ≤ a2 := by omega
theorem oz_fdad9fdf0a {a0 a1 : Int} (h0 : a0 ≤ (a1)) : a0 ≤ a1 := by omega
theorem oz_2b66180fc4 {a0 a1 a3 a4 : Int} {n2 : Nat} (h0 : a0 - a3 < ((n2 + 1 : Nat) : Int)) (h1 : a4 < a1) (h2 : a3 ≤ a4) : a0 - a1 < (n2 : Int) := by omega
theorem oz_1681cdb94e {a0 a1 a2 a3 a4 : Int} (h0 : a0 + a2 + 1 ≤ a3 + a4) (h1 : a1 ≤ a2) (h2 : a3 + a4 ≤ 7000) : a0 + a1 ≤ 7000 := by omega
theorem oz_d132d24d7f {a0 a1 a2 a3 a4 a5 : Int} (h0 : a5 + a1 + 1 ≤ a3 + a4) (h1 : a0 ≤ a5 + a2) : a0 + (a1 - a2) + 1 ≤ a3 + a4 := by omega
theorem oz_b0880afea6 {a0 a1 a2 a3 : Int} (h0 : a0 = a1 - (100 : Int)) (h1 : a1 = a2) (h2 : a3 = a2) (h3 : ¬ a3 < (100 : Int)) : -1 ≤ a0 := by omega
theorem oz_812b27d4c5 {a0 a1 a2 a3 : Int} (h0 : a0 + a3 ≤ a1 + a2) (h1 : 0 ≤ a3) : a0 ≤ a1 + a2 := by omega
theorem oz_12ebf431cf {a0 a1 a2 a3 a4 a5 : Int} (h0 : a1 = a2) (h1 : ¬ (3 : Int) ≤ a1) (h2 : a2 < 3 → a0 + a3 + 4 ≤ a4 + a5) (h3 : a4 + a5 ≤ 7000) (h4 : 0 ≤ a3) : a0 < 7000 := by omega
theorem oz_2188d1bf01 {a0 a1 a2 : Int} (h0 : a0 = a1 + 1) (h1 : a2 ≤ a1) (h2 : 0 ≤ a2) : 0 ≤ a0 := by omega
theorem oz_2792def35f {a0 a1 a2 a3 a4 a5 a6 : Int} (h0 : a0 = a1 + 1) (h1 : a2 = a3) (h2 : ¬ (3 : Int) ≤ a2) (h3 : a3 < 3 → a1 + a4 + 4 ≤ a5 + a6) (h4 : a5 + a6 ≤ 7000) (h5 : 0 ≤ a4) : a0 < 7000 := by omega
theorem oz_18e4c16450 {a0 a1 a2 a3 : Int} (h0 : a0 = a1 + 1) (h1 : a1 = a2 + 1) (h2 : a3 ≤ a2) (h3 : 0 ≤ a3) : 0 ≤ a0 := by omega
theorem oz_7af1ceb46f {a0 a1 a2 a3 a4 a5 a6 a7 : Int} (h0 : a0 = a1 + 1) (h1 : a1 = a2 + 1) (h2 : a3 = a4) (h3 : ¬ (3 : Int) ≤ a3) (h4 : a4 < 3 → a2 + a5 + 4 ≤ a6 + a7) (h5 : a6 + a7 ≤ 7000) (h6 : 0 ≤ a5) : a0 < 7000 := by omega
theorem oz_d59a0bbb71 {a0 a1 a2 a3 a4 : Int} (h0 : a0 = a1 + 1) (h1 : a1 = a2 + 1) (h2 : a2 = a3 + 1) (h3 : a4 ≤ a3) (h4 : 0 ≤ a4) : 0 ≤ a0 := by omega
theorem oz_562b32fd06 {a0 a1 a2 a3 a4 a5 a6 a7 a8 : Int} (h0 : a0 = a1 + 1) (h1 : a1 = a2 + 1) (h2 : a2 = a3 + 1) (h3 : a4 = a5) (h4 : ¬ (3 : Int) ≤ a4) (h5 : a5 < 3 → a3 + a6 + 4 ≤ a7 + a8) (h6 : a7 + a8 ≤ 7000) (h7 : 0 ≤ a6) : a0 < 7000 := by omega
theorem oz_c9a960d9b4 {a0 a1 a2 a3 a4 : Int} (h0 : a0 = a1) (h1 : a1 = a2 + 1) (h2 : a2 = a3 + 1) (h3 : a4 ≤ a3) (h4 : 0 ≤ a4) : 0 ≤ a0 := by omega
theorem oz_c70dba619f {a0 a1 a2 a3 a4 a5 a6 a7 a8 : Int} (h0 : a0 = a1) (h1 : a1 = a2 + 1) (h2 : a2 = a3 + 1) (h3 : a4 = a5) (h4 : ¬ (3 : Int) ≤ a4) (h5 : a5 < 3 → a3 + a6 + 4 ≤ a7 + a8) (h6 : a7 + a8 ≤ 7000) (h7 : 0 ≤ a6) : a0 < 7000 := by omega
theorem oz_cc9f43beab {a0 a1 a2 a3 a4 a5 : Int} (h0 : a0 ≤ a2) (h1 : a1 = a3 + 1) (h2 : a4 = a2 + 1) (h3 : a3 = a5 + 1) (h4 : a5 = a4 + 1) : a0 ≤ a1 := by omega
theorem oz_08922051d3 {a0 a1 a2 a3 a4 a5 a6 a7 a8 a9 : Int} (h0 : a0 = a3 + 1) (h1 : a4 = a5) (h2 : ¬ (3 : Int) ≤ a4) (h3 : a5 < 3 → a6 + a7 + 4 ≤ a1 + a2) (h4 : 0 ≤ a7) (h5 : a8 = a6 + 1) (h6 : a3 = a9 + 1) (h7 : a9 = a8 + 1) : a0 ≤ a1 + a2 := by omega
theorem oz_b89bf23c89 {a0 a1 a2 a3 a4 a5 : Int} (h0 : a1 = a2) (h1 : a1 = (1 : Int)) (h2 : a2 < 3 → a0 + a3 + 4 ≤ a4 + a5) (h3 : a4 + a5 ≤ 7000) (h4 : 0 ≤ a3) : a0 < 7000 := by omega
theorem oz_d7a85cbe39 {a0 a1 a2 a3 a4 a5 a6 : Int} (h0 : a0 = a1 + 1) (h1 : a2 = a3) (h2 : a2 = (1 : Int)) (h3 : a3 < 3 → a1 + a4 + 4 ≤ a5 + a6) (h4 : a5 + a6 ≤ 7000) (h5 : 0 ≤ a4) : a0 < 7000 := by omega
theorem oz_4b894d747b {a0 a1 a2 a3 a4 a5 a6 a7 : Int} (h0 : a0 = a1 + 1) (h1 : a1 = a2 + 1) (h2 : a3 = a4) (h3 : a3 = (1 : Int)) (h4 : a4 < 3 → a2 + a5 + 4 ≤ a6 + a7) (h5 : a6 + a7 ≤ 7000) (h6 : 0 ≤ a5) : a0 < 7000 := by omega
theorem oz_edd4c7e1e4 {a0 a1 a2 a3 a4 a5 a6 a7 a8 : Int} (h0 : a0 = a1 + 1) (h1 : a1 = a2 + 1) (h2 : a2 = a3 + 1) (h3 : a4 = a5) (h4 : a4 = (1 : Int)) (h5 : a5 < 3 → a3 + a6 + 4 ≤ a7 + a8) (h6 : a7 + a8 ≤ 7000) (h7 : 0 ≤ a6) : a0 < 7000 := by omega
theorem oz_7d4addd146 {a0 a1 a2 a3 a4 a5 a6 a7 a8 : Int} (h0 : a0 = a1) (h1 : a1 = a2 + 1) (h2 : a2 = a3 + 1) (h3 : a4 = a5) (h4 : a4 = (1 : Int)) (h5 : a5 < 3 → a3 + a6 + 4 ≤ a7 + a8) (h6 : a7 + a8 ≤ 7000) (h7 : 0 ≤ a6) : a0 < 7000 := by omega
theorem oz_3ea94e08a2 {a0 a1 a2 a3 a4 a5 a6 a7 a8 a9 : Int} (h0 : a0 = a3 + 1) (h1 : a4 = a5) (h2 : a4 = (1 : Int)) (h3 : a5 < 3 → a6 + a7 + 4 ≤ a1 + a2) (h4 : 0 ≤ a7) (h5 : a8 = a6 + 1) (h6 : a3 = a9 + 1) (h7 : a9 = a8 + 1) : a0 ≤ a1 + a2 := by omega
theorem oz_57a12d68bd {a0 a1 a2 a3 a4 : Int} (h0 : a0 + a2 ≤ a3 + a4) (h1 : a1 ≤ a2) (h2 : a3 + a4 ≤ 7000) : a0 + (a1 - 1) ≤ 7000 := by omega
theorem oz_235fb477f2 {a0 a1 a2 : Int} (h0 : ¬ a0 < (0 : Int)) (h1 : a0 < a1) (h2 : a1 ≤ (a2)) (h3 : a2 ≤ 2100) : 0 ≤ a0 ∧ a0 < ((2100 : Nat) : Int) := by omega
theorem oz_1f4c617182 {a0 a1 a2 a3 a4 a5 : Int} (h0 : a0 ≤ a1 + (a2 - 1)) (h1 : a1 + a3 ≤ a4 + a5) (h2 : a2 ≤ a3) (h3 : a4 + a5 ≤ 7000) : a0 < 7000 := by omega
theorem oz_3eddb8f087 {a0 a1 a2 a3 : Int} (h0 : a0 ≤ a2) (h1 : a1 = a3 + 1) (h2 : a2 ≤ a3) : a0 ≤ a1 := by omega
theorem oz_603b99282c {a0 a1 a2 a3 a4 a5 a6 : Int} (h0 : a5 + a1 ≤ a3 + a4) (h1 : a6 ≤ a5 + (a2 - 1)) (h2 : a0 = a6 + 1) : a0 + (a1 - a2) ≤ a3 + a4 := by omega
theorem oz_ad11a34479 {a0 a1 a2 a3 a4 : Int} (h0 : a0 + a1 ≤ a2 + a3) (h1 : a2 + a3 ≤ 7000) (h2 : a4 ≤ a1) (h3 : 0 ≤ (a4 - 1)) : a0 < 7000 := by omega
theorem oz_f188fd5d8d {a0 a1 a2 a3 a4 a5 : Int} (h0 : a1 ≤ a2) (h1 : a0 = a3 + 1) (h2 : a3 + a2 ≤ a4 + a5) (h3 : a4 + a5 ≤ 7000) : a0 + (a1 - 1) ≤ 7000 := by omega
theorem oz_db0ccc982f {a0 a1 a2 a3 : Int} (h0 : a0 ≤ a2) (h1 : a3 ≤ a1) (h2 : a3 = a2 + 1) : a0 ≤ a1 := by omega
theorem oz_942662209a {a0 a1 a2 a3 a4 a5 a6 : Int} (h0 : a5 + a1 ≤ a3 + a4) (h1 : a0 ≤ a6 + (a2 - 1)) (h2 : a6 = a5 + 1) : a0 + (a1 - a2) ≤ a3 + a4 := by omega
theorem oz_4c96eb7639 {a0 a1 a2 a3 a4 a5 a6 a7 a8 : Int} (h0 : a0 ≤ a5 + (a2 - 1)) (h1 : a6 = a7) (h2 : ¬ (3 : Int) ≤ a6) (h3 : a7 < 3 → a8 + a1 + 4 ≤ a3 + a4) (h4 : a5 = a8 + 1) : a0 + (a1 - a2) + 4 ≤ a3 + a4 := by omega
theorem oz_e0543921b5 {a0 a1 a2 a3 a4 a5 a6 a7 a8 : Int} (h0 : a0 ≤ a5 + (a2 - 1)) (h1 : a6 = a7) (h2 : a6 = (1 : Int)) (h3 : a7 < 3 → a8 + a1 + 4 ≤ a3 + a4) (h4 : a5 = a8 + 1) : a0 + (a1 - a2) + 4 ≤ a3 + a4 := by omega
theorem oz_b0899bab4c {a0 a1 : Int} (h0 : 0 ≤ a0) (h1 : a0 < (a1)) (h2 : a1 ≤ 2100) : 0 ≤ a0 ∧ a0 < ((2100 : Nat) : Int) := by omega
theorem oz_ef3889ada3 {a0 a1 a2 a3 a4 : Int} (h0 : a2 + a1 + 1 ≤ a3) (h1 : a0 ≤ a4 + (a2 - 1)) (h2 : a4 + a3 ≤ 7000) : a0 + a1 ≤ 7000 := by omega
theorem oz_0d476d6751 {a0 a1 a2 a3 a4 a5 : Int} (h0 : a0 ≤ a1 + a2) (h1 : a3 + a2 + 1 ≤ a4) (h2 : a1 ≤ a5 + (a3 - 1)) (h3 : a5 + a4 ≤ 7000) : a0 < 7000 := by omega
theorem oz_003cf3ba25 {a0 a1 a2 a3 a4 a5 a6 : Int} (h0 : a3 + a4 + 1 ≤ a2) (h1 : a5 ≤ a1 + (a3 - 1)) (h2 : a0 = a6 + 1) (h3 : a6 ≤ a5 + a4) : a0 ≤ a1 + a2 := by omega
theorem oz_a47963ef3b {a0 a1 : Int} (h0 : a0 + a1 ≤ 7000) (h1 : 1 ≤ a1) : a0 < 7000 := by omega
theorem oz_33b972cc46 {a0 a1 a2 : Int} (h0 : 1 ≤ a2) (h1 : a0 = a1 + 1) : a0 ≤ a1 + a2 := by omega
theorem oz_b266494760 {a0 a1 : Int}  : a0 + (a1 - 1) + 1 ≤ a0 + a1 := by omega
theorem oz_689fc9b9cc {a0 a1 : Int} (h0 : a0 + a1 ≤ 7000) : a0 + (a1 - 1) ≤ 7000 := by omega
theorem oz_f17f6cd5d6 {a0 a1 a2 : Int} (h0 : a0 ≤ a1 + (a2 - 1)) (h1 : a1 + a2 ≤ 7000) : a0 < 7000 := by omega
theorem oz_8a56fd6753 {a0 a1 a2 a3 : Int} (h0 : a3 ≤ a1 + (a2 - 1)) (h1 : a0 = a3 + 1) : a0 ≤ a1 + a2 := by omega
theorem oz_7ced39cc50 {a0 a1 a2 a3 : Int} (h0 : a0 + a2 ≤ 7000) (h1 : a1 + a3 ≤ a2) (h2 : 0 ≤ a3) : a0 + a1 ≤ 7000 := by omega
theorem oz_68a3de4aae {a0 a1 a2 a3 a4 : Int} (h0 : a4 + a1 ≤ a3) (h1 : a0 ≤ a2 + a4) : a0 + a1 ≤ a2 + a3 := by omega
theorem oz_6501cbe7e5 {a0 a1 a2 a3 : Int} (h0 : a1 ≤ a0) (h1 : a1 = a2 + 1) (h2 : a3 ≤ a2) (h3 : 0 ≤ a3) : 0 ≤ a0 := by omega
theorem oz_78bd7587d7 {a0 a1 a2 a3 a4 : Int} (h0 : a0 = a1 + 1) (h1 : a2 ≤ a1) (h2 : a2 = a3 + 1) (h3 : a4 ≤ a3) (h4 : 0 ≤ a4) : 0 ≤ a0 := by omega
theorem oz_665bdb3ca1 {a0 a1 a2 a3 a4 a5 a6 a7 a8 : Int} (h0 : a2 + a3 + a1 + 2 ≤ a4) (h1 : a0 = a5 + 1) (h2 : a6 + a4 ≤ 7000) (h3 : a7 ≤ a6 + a2) (h4 : a5 ≤ a8 + a3) (h5 : a8 = a7 + 1) : a0 + a1 ≤ 7000 := by omega
theorem oz_2d9ae659ef {a0 a1 a2 a3 a4 : Int} (h0 : a0 = a1) (h1 : a2 ≤ a1) (h2 : a2 = a3 + 1) (h3 : a4 ≤ a3) (h4 : 0 ≤ a4) : 0 ≤ a0 := by omega
theorem oz_186d00e865 {a0 a1 a2 a3 a4 a5 a6 a7 a8 : Int} (h0 : a0 = a1) (h1 : a1 ≤ a2 + a3) (h2 : a4 + a3 + a5 + 2 ≤ a6) (h3 : a2 = a7 + 1) (h4 : a8 + a6 ≤ 7000) (h5 : a7 ≤ a8 + a4) (h6 : 0 ≤ a5) : a0 < 7000 := by omega
theorem oz_013402b7ac {a0 a1 a2 a3 a4 a5 : Int} (h0 : a0 ≤ a2) (h1 : a3 ≤ a1) (h2 : a4 = a2 + 1) (h3 : a3 = a5 + 1) (h4 : a4 ≤ a5) : a0 ≤ a1 := by omega
theorem oz_2ac729c12b {a0 a1 a2 a3 a4 a5 a6 a7 a8 a9 : Int} (h0 : a3 + a4 + a5 + 2 ≤ a2) (h1 : a6 ≤ a1 + a3) (h2 : a0 ≤ a7 + a5) (h3 : a8 = a6 + 1) (h4 : a9 ≤ a8 + a4) (h5 : a7 = a9 + 1) : a0 ≤ a1 + a2 := by omega
theorem m13_83 : Cond.methodLink "HomeSystemModel$Program" 711 ⟨"HomeSystemModel$Program", "emit", "(III)I"⟩ ∈ AL := AL_13 (List.mem_of_getElem? (i := 83) rfl) rfl
theorem m13_86 : Cond.code ⟨"HomeSystemModel$Program", "emit", "(III)I"⟩ prog_16_method_106_code 4 (Option.some FieldType.int) ∈ AL := AL_13 (List.mem_of_getElem? (i := 86) rfl) rfl
theorem ms_14_2 : Cond.selects "HomeSystemModel$Program" ⟨"HomeSystemModel$Program", "emit", "(III)I"⟩ ⟨"HomeSystemModel$Program", "emit", "(III)I"⟩ ∈ AL := AL_p (q := (⟨"HomeSystemModel$Program", "emit", "(III)I"⟩, 69)) (by unfold lw_privs; exact List.mem_append_right _ (List.mem_append_right _ (List.mem_append_right _ (List.mem_append_right _ (List.mem_append_right _ (List.mem_append_right _ (List.mem_append_right _ (List.mem_append_right _ (List.mem_append_right _ (List.mem_append_right _ (List.mem_append_right _ (List.mem_append_right _ (List.mem_append_right _ (List.mem_append_left _ (List.mem_of_getElem? (i := 2) rfl)))))))))))))))
theorem m13_85 : Cond.instanceMethod ⟨"HomeSystemModel$Program", "emit", "(III)I"⟩ ∈ AL := AL_13 (List.mem_of_getElem? (i := 85) rfl) rfl
theorem m13_87 : Cond.methodLink "HomeSystemModel$Program" 714 ⟨"HomeSystemModel$Program", "make", "(I)V"⟩ ∈ AL := AL_13 (List.mem_of_getElem? (i := 87) rfl) rfl
theorem m13_90 : Cond.code ⟨"HomeSystemModel$Program", "make", "(I)V"⟩ prog_16_method_111_code 8 (Option.none : Option Jvm.ClassFile.FieldType) ∈ AL := AL_13 (List.mem_of_getElem? (i := 90) rfl) rfl
theorem ms_14_3 : Cond.selects "HomeSystemModel$Program" ⟨"HomeSystemModel$Program", "make", "(I)V"⟩ ⟨"HomeSystemModel$Program", "make", "(I)V"⟩ ∈ AL := AL_p (q := (⟨"HomeSystemModel$Program", "make", "(I)V"⟩, 69)) (by unfold lw_privs; exact List.mem_append_right _ (List.mem_append_right _ (List.mem_append_right _ (List.mem_append_right _ (List.mem_append_right _ (List.mem_append_right _ (List.mem_append_right _ (List.mem_append_right _ (List.mem_append_right _ (List.mem_append_right _ (List.mem_append_right _ (List.mem_append_right _ (List.mem_append_right _ (List.mem_append_left _ (List.mem_of_getElem? (i := 3) rfl)))))))))))))))
theorem m13_89 : Cond.instanceMethod ⟨"HomeSystemModel$Program", "make", "(I)V"⟩ ∈ AL := AL_13 (List.mem_of_getElem? (i := 89) rfl) rfl
theorem m13_99 : Cond.methodLink "HomeSystemModel$Program" 722 ⟨"HomeSystemModel$Program", "landAll", "(II)V"⟩ ∈ AL := AL_13 (List.mem_of_getElem? (i := 99) rfl) rfl
theorem m13_102 : Cond.code ⟨"HomeSystemModel$Program", "landAll", "(II)V"⟩ prog_16_method_108_code 5 (Option.none : Option Jvm.ClassFile.FieldType) ∈ AL := AL_13 (List.mem_of_getElem? (i := 102) rfl) rfl
theorem ms_14_6 : Cond.selects "HomeSystemModel$Program" ⟨"HomeSystemModel$Program", "landAll", "(II)V"⟩ ⟨"HomeSystemModel$Program", "landAll", "(II)V"⟩ ∈ AL := AL_p (q := (⟨"HomeSystemModel$Program", "landAll", "(II)V"⟩, 69)) (by unfold lw_privs; exact List.mem_append_right _ (List.mem_append_right _ (List.mem_append_right _ (List.mem_append_right _ (List.mem_append_right _ (List.mem_append_right _ (List.mem_append_right _ (List.mem_append_right _ (List.mem_append_right _ (List.mem_append_right _ (List.mem_append_right _ (List.mem_append_right _ (List.mem_append_right _ (List.mem_append_left _ (List.mem_of_getElem? (i := 6) rfl)))))))))))))))
theorem m13_101 : Cond.instanceMethod ⟨"HomeSystemModel$Program", "landAll", "(II)V"⟩ ∈ AL := AL_13 (List.mem_of_getElem? (i := 101) rfl) rfl
theorem m13_103 : Cond.methodLink "HomeSystemModel$Program" 725 ⟨"HomeSystemModel$Program", "land", "(I)V"⟩ ∈ AL := AL_13 (List.mem_of_getElem? (i := 103) rfl) rfl
theorem m13_106 : Cond.code ⟨"HomeSystemModel$Program", "land", "(I)V"⟩ prog_16_method_107_code 2 (Option.none : Option Jvm.ClassFile.FieldType) ∈ AL := AL_13 (List.mem_of_getElem? (i := 106) rfl) rfl
theorem ms_14_7 : Cond.selects "HomeSystemModel$Program" ⟨"HomeSystemModel$Program", "land", "(I)V"⟩ ⟨"HomeSystemModel$Program", "land", "(I)V"⟩ ∈ AL := AL_p (q := (⟨"HomeSystemModel$Program", "land", "(I)V"⟩, 69)) (by unfold lw_privs; exact List.mem_append_right _ (List.mem_append_right _ (List.mem_append_right _ (List.mem_append_right _ (List.mem_append_right _ (List.mem_append_right _ (List.mem_append_right _ (List.mem_append_right _ (List.mem_append_right _ (List.mem_append_right _ (List.mem_append_right _ (List.mem_append_right _ (List.mem_append_right _ (List.mem_append_left _ (List.mem_of_getElem? (i := 7) rfl)))))))))))))))
theorem m13_105 : Cond.instanceMethod ⟨"HomeSystemModel$Program", "land", "(I)V"⟩ ∈ AL := AL_13 (List.mem_of_getElem? (i := 105) rfl) rfl
theorem m13_95 : Cond.methodLink "HomeSystemModel$Program" 719 ⟨"HomeSystemModel$Program", "operatorOf", "(I)I"⟩ ∈ AL := AL_13 (List.mem_of_getElem? (i := 95) rfl) rfl
theorem m13_98 : Cond.code ⟨"HomeSystemModel$Program", "operatorOf", "(I)I"⟩ prog_16_method_109_code 2 (Option.some FieldType.int) ∈ AL := AL_13 (List.mem_of_getElem? (i := 98) rfl) rfl
theorem ms_14_5 : Cond.selects "HomeSystemModel$Program" ⟨"HomeSystemModel$Program", "operatorOf", "(I)I"⟩ ⟨"HomeSystemModel$Program", "operatorOf", "(I)I"⟩ ∈ AL := AL_p (q := (⟨"HomeSystemModel$Program", "operatorOf", "(I)I"⟩, 69)) (by unfold lw_privs; exact List.mem_append_right _ (List.mem_append_right _ (List.mem_append_right _ (List.mem_append_right _ (List.mem_append_right _ (List.mem_append_right _ (List.mem_append_right _ (List.mem_append_right _ (List.mem_append_right _ (List.mem_append_right _ (List.mem_append_right _ (List.mem_append_right _ (List.mem_append_right _ (List.mem_append_left _ (List.mem_of_getElem? (i := 5) rfl)))))))))))))))
theorem m13_97 : Cond.instanceMethod ⟨"HomeSystemModel$Program", "operatorOf", "(I)I"⟩ ∈ AL := AL_13 (List.mem_of_getElem? (i := 97) rfl) rfl
theorem m13_107 : Cond.methodLink "HomeSystemModel$Program" 728 ⟨"HomeSystemModel$Program", "assigned", "(I)I"⟩ ∈ AL := AL_13 (List.mem_of_getElem? (i := 107) rfl) rfl
theorem m13_110 : Cond.code ⟨"HomeSystemModel$Program", "assigned", "(I)I"⟩ prog_16_method_110_code 6 (Option.some FieldType.int) ∈ AL := AL_13 (List.mem_of_getElem? (i := 110) rfl) rfl
theorem ms_14_8 : Cond.selects "HomeSystemModel$Program" ⟨"HomeSystemModel$Program", "assigned", "(I)I"⟩ ⟨"HomeSystemModel$Program", "assigned", "(I)I"⟩ ∈ AL := AL_p (q := (⟨"HomeSystemModel$Program", "assigned", "(I)I"⟩, 69)) (by unfold lw_privs; exact List.mem_append_right _ (List.mem_append_right _ (List.mem_append_right _ (List.mem_append_right _ (List.mem_append_right _ (List.mem_append_right _ (List.mem_append_right _ (List.mem_append_right _ (List.mem_append_right _ (List.mem_append_right _ (List.mem_append_right _ (List.mem_append_right _ (List.mem_append_right _ (List.mem_append_left _ (List.mem_of_getElem? (i := 8) rfl)))))))))))))))
theorem m13_109 : Cond.instanceMethod ⟨"HomeSystemModel$Program", "assigned", "(I)I"⟩ ∈ AL := AL_13 (List.mem_of_getElem? (i := 109) rfl) rfl
theorem m13_91 : Cond.methodLink "HomeSystemModel$Program" 716 ⟨"HomeSystemModel$Program", "makeStep", "(II)V"⟩ ∈ AL := AL_13 (List.mem_of_getElem? (i := 91) rfl) rfl
theorem m13_94 : Cond.code ⟨"HomeSystemModel$Program", "makeStep", "(II)V"⟩ prog_16_method_112_code 5 (Option.none : Option Jvm.ClassFile.FieldType) ∈ AL := AL_13 (List.mem_of_getElem? (i := 94) rfl) rfl
theorem ms_14_4 : Cond.selects "HomeSystemModel$Program" ⟨"HomeSystemModel$Program", "makeStep", "(II)V"⟩ ⟨"HomeSystemModel$Program", "makeStep", "(II)V"⟩ ∈ AL := AL_p (q := (⟨"HomeSystemModel$Program", "makeStep", "(II)V"⟩, 69)) (by unfold lw_privs; exact List.mem_append_right _ (List.mem_append_right _ (List.mem_append_right _ (List.mem_append_right _ (List.mem_append_right _ (List.mem_append_right _ (List.mem_append_right _ (List.mem_append_right _ (List.mem_append_right _ (List.mem_append_right _ (List.mem_append_right _ (List.mem_append_right _ (List.mem_append_right _ (List.mem_append_left _ (List.mem_of_getElem? (i := 4) rfl)))))))))))))))
theorem m13_93 : Cond.instanceMethod ⟨"HomeSystemModel$Program", "makeStep", "(II)V"⟩ ∈ AL := AL_13 (List.mem_of_getElem? (i := 93) rfl) rfl
abbrev b_Mpg_make2 : ByteArray := prog_16_method_111_code
def y_Mpg_make2 : MethodName := ⟨"HomeSystemModel$Program", "make", "(I)V"⟩
theorem d_Mpg_make2_0 : decode b_Mpg_make2 0 = .ok (.aload_n 0, 1) := by decide +kernel
theorem d_Mpg_make2_1 : decode b_Mpg_make2 1 = .ok (.getfield 207, 3) := by decide +kernel
theorem d_Mpg_make2_4 : decode b_Mpg_make2 4 = .ok (.iload_n 1, 1) := by decide +kernel
theorem d_Mpg_make2_5 : decode b_Mpg_make2 5 = .ok (.baload, 1) := by decide +kernel
theorem d_Mpg_make2_6 : decode b_Mpg_make2 6 = .ok (.tableswitch 639 1 8 #[46, 67, 108, 262, 288, 349, 358, 574], 46) := by decide +kernel
theorem d_Mpg_make2_52 : decode b_Mpg_make2 52 = .ok (.aload_n 0, 1) := by decide +kernel
theorem d_Mpg_make2_53 : decode b_Mpg_make2 53 = .ok (.iconst 1, 1) := by decide +kernel
theorem d_Mpg_make2_54 : decode b_Mpg_make2 54 = .ok (.aload_n 0, 1) := by decide +kernel
theorem d_Mpg_make2_55 : decode b_Mpg_make2 55 = .ok (.getfield 204, 3) := by decide +kernel
theorem d_Mpg_make2_58 : decode b_Mpg_make2 58 = .ok (.aload_n 0, 1) := by decide +kernel
theorem d_Mpg_make2_59 : decode b_Mpg_make2 59 = .ok (.getfield 210, 3) := by decide +kernel
theorem d_Mpg_make2_62 : decode b_Mpg_make2 62 = .ok (.iload_n 1, 1) := by decide +kernel
theorem d_Mpg_make2_63 : decode b_Mpg_make2 63 = .ok (.iaload, 1) := by decide +kernel
theorem d_Mpg_make2_64 : decode b_Mpg_make2 64 = .ok (.iaload, 1) := by decide +kernel
theorem d_Mpg_make2_65 : decode b_Mpg_make2 65 = .ok (.iconst 0, 1) := by decide +kernel
theorem d_Mpg_make2_66 : decode b_Mpg_make2 66 = .ok (.invokevirtual 711, 3) := by decide +kernel
theorem d_Mpg_make2_69 : decode b_Mpg_make2 69 = .ok (.pop, 1) := by decide +kernel
theorem d_Mpg_make2_70 : decode b_Mpg_make2 70 = .ok (.goto 702, 3) := by decide +kernel
theorem d_Mpg_make2_73 : decode b_Mpg_make2 73 = .ok (.aload_n 0, 1) := by decide +kernel
theorem d_Mpg_make2_74 : decode b_Mpg_make2 74 = .ok (.getfield 219, 3) := by decide +kernel
theorem d_Mpg_make2_77 : decode b_Mpg_make2 77 = .ok (.iload_n 1, 1) := by decide +kernel
theorem d_Mpg_make2_78 : decode b_Mpg_make2 78 = .ok (.iaload, 1) := by decide +kernel
theorem d_Mpg_make2_79 : decode b_Mpg_make2 79 = .ok (.ifCond .ge 19, 3) := by decide +kernel
theorem d_Mpg_make2_82 : decode b_Mpg_make2 82 = .ok (.aload_n 0, 1) := by decide +kernel
theorem d_Mpg_make2_83 : decode b_Mpg_make2 83 = .ok (.iconst 1, 1) := by decide +kernel
theorem d_Mpg_make2_84 : decode b_Mpg_make2 84 = .ok (.aload_n 0, 1) := by decide +kernel
theorem d_Mpg_make2_85 : decode b_Mpg_make2 85 = .ok (.getfield 222, 3) := by decide +kernel
theorem d_Mpg_make2_88 : decode b_Mpg_make2 88 = .ok (.iload_n 1, 1) := by decide +kernel
theorem d_Mpg_make2_89 : decode b_Mpg_make2 89 = .ok (.iaload, 1) := by decide +kernel
theorem d_Mpg_make2_90 : decode b_Mpg_make2 90 = .ok (.iconst 0, 1) := by decide +kernel
theorem d_Mpg_make2_91 : decode b_Mpg_make2 91 = .ok (.invokevirtual 711, 3) := by decide +kernel
theorem d_Mpg_make2_94 : decode b_Mpg_make2 94 = .ok (.pop, 1) := by decide +kernel
theorem d_Mpg_make2_95 : decode b_Mpg_make2 95 = .ok (.goto 677, 3) := by decide +kernel
theorem d_Mpg_make2_98 : decode b_Mpg_make2 98 = .ok (.aload_n 0, 1) := by decide +kernel
theorem d_Mpg_make2_99 : decode b_Mpg_make2 99 = .ok (.iconst 2, 1) := by decide +kernel
theorem d_Mpg_make2_100 : decode b_Mpg_make2 100 = .ok (.aload_n 0, 1) := by decide +kernel
theorem d_Mpg_make2_101 : decode b_Mpg_make2 101 = .ok (.getfield 219, 3) := by decide +kernel
theorem d_Mpg_make2_104 : decode b_Mpg_make2 104 = .ok (.iload_n 1, 1) := by decide +kernel
theorem d_Mpg_make2_105 : decode b_Mpg_make2 105 = .ok (.iaload, 1) := by decide +kernel
theorem d_Mpg_make2_106 : decode b_Mpg_make2 106 = .ok (.iconst 0, 1) := by decide +kernel
theorem d_Mpg_make2_107 : decode b_Mpg_make2 107 = .ok (.invokevirtual 711, 3) := by decide +kernel
theorem d_Mpg_make2_110 : decode b_Mpg_make2 110 = .ok (.pop, 1) := by decide +kernel
theorem d_Mpg_make2_111 : decode b_Mpg_make2 111 = .ok (.goto 661, 3) := by decide +kernel
theorem d_Mpg_make2_114 : decode b_Mpg_make2 114 = .ok (.iconst 0, 1) := by decide +kernel
theorem d_Mpg_make2_115 : decode b_Mpg_make2 115 = .ok (.istore_n 2, 1) := by decide +kernel
theorem d_Mpg_make2_116 : decode b_Mpg_make2 116 = .ok (.aload_n 0, 1) := by decide +kernel
theorem d_Mpg_make2_117 : decode b_Mpg_make2 117 = .ok (.getfield 216, 3) := by decide +kernel
theorem d_Mpg_make2_120 : decode b_Mpg_make2 120 = .ok (.iload_n 1, 1) := by decide +kernel
theorem d_Mpg_make2_121 : decode b_Mpg_make2 121 = .ok (.iaload, 1) := by decide +kernel
theorem d_Mpg_make2_122 : decode b_Mpg_make2 122 = .ok (.istore_n 3, 1) := by decide +kernel
theorem d_Mpg_make2_123 : decode b_Mpg_make2 123 = .ok (.iload_n 3, 1) := by decide +kernel
theorem d_Mpg_make2_124 : decode b_Mpg_make2 124 = .ok (.ifCond .lt 88, 3) := by decide +kernel
theorem d_Mpg_make2_127 : decode b_Mpg_make2 127 = .ok (.aload_n 0, 1) := by decide +kernel
theorem d_Mpg_make2_128 : decode b_Mpg_make2 128 = .ok (.getfield 219, 3) := by decide +kernel
theorem d_Mpg_make2_131 : decode b_Mpg_make2 131 = .ok (.iload_n 1, 1) := by decide +kernel
theorem d_Mpg_make2_132 : decode b_Mpg_make2 132 = .ok (.iaload, 1) := by decide +kernel
theorem d_Mpg_make2_133 : decode b_Mpg_make2 133 = .ok (.bipush 100, 2) := by decide +kernel
theorem d_Mpg_make2_135 : decode b_Mpg_make2 135 = .ok (.if_icmp .lt 21, 3) := by decide +kernel
theorem d_Mpg_make2_138 : decode b_Mpg_make2 138 = .ok (.aload_n 0, 1) := by decide +kernel
theorem d_Mpg_make2_139 : decode b_Mpg_make2 139 = .ok (.aload_n 0, 1) := by decide +kernel
theorem d_Mpg_make2_140 : decode b_Mpg_make2 140 = .ok (.getfield 219, 3) := by decide +kernel
theorem d_Mpg_make2_143 : decode b_Mpg_make2 143 = .ok (.iload_n 1, 1) := by decide +kernel
theorem d_Mpg_make2_144 : decode b_Mpg_make2 144 = .ok (.iaload, 1) := by decide +kernel
theorem d_Mpg_make2_145 : decode b_Mpg_make2 145 = .ok (.bipush 100, 2) := by decide +kernel
theorem d_Mpg_make2_147 : decode b_Mpg_make2 147 = .ok (.isub, 1) := by decide +kernel
theorem d_Mpg_make2_148 : decode b_Mpg_make2 148 = .ok (.iconst (-1), 1) := by decide +kernel
theorem d_Mpg_make2_149 : decode b_Mpg_make2 149 = .ok (.iload_n 2, 1) := by decide +kernel
theorem d_Mpg_make2_150 : decode b_Mpg_make2 150 = .ok (.invokevirtual 587, 3) := by decide +kernel
theorem d_Mpg_make2_153 : decode b_Mpg_make2 153 = .ok (.goto 15, 3) := by decide +kernel
theorem d_Mpg_make2_156 : decode b_Mpg_make2 156 = .ok (.aload_n 0, 1) := by decide +kernel
theorem d_Mpg_make2_157 : decode b_Mpg_make2 157 = .ok (.iconst (-1), 1) := by decide +kernel
theorem d_Mpg_make2_158 : decode b_Mpg_make2 158 = .ok (.aload_n 0, 1) := by decide +kernel
theorem d_Mpg_make2_159 : decode b_Mpg_make2 159 = .ok (.getfield 219, 3) := by decide +kernel
theorem d_Mpg_make2_162 : decode b_Mpg_make2 162 = .ok (.iload_n 1, 1) := by decide +kernel
theorem d_Mpg_make2_163 : decode b_Mpg_make2 163 = .ok (.iaload, 1) := by decide +kernel
theorem d_Mpg_make2_164 : decode b_Mpg_make2 164 = .ok (.iload_n 2, 1) := by decide +kernel
theorem d_Mpg_make2_165 : decode b_Mpg_make2 165 = .ok (.invokevirtual 587, 3) := by decide +kernel
theorem d_Mpg_make2_168 : decode b_Mpg_make2 168 = .ok (.istore 4, 2) := by decide +kernel
theorem d_Mpg_make2_170 : decode b_Mpg_make2 170 = .ok (.iload 4, 2) := by decide +kernel
theorem d_Mpg_make2_172 : decode b_Mpg_make2 172 = .ok (.bipush 105, 2) := by decide +kernel
theorem d_Mpg_make2_174 : decode b_Mpg_make2 174 = .ok (.if_icmp .ne 11, 3) := by decide +kernel
theorem d_Mpg_make2_177 : decode b_Mpg_make2 177 = .ok (.aload_n 0, 1) := by decide +kernel
theorem d_Mpg_make2_178 : decode b_Mpg_make2 178 = .ok (.iload_n 3, 1) := by decide +kernel
theorem d_Mpg_make2_179 : decode b_Mpg_make2 179 = .ok (.invokevirtual 714, 3) := by decide +kernel
theorem d_Mpg_make2_182 : decode b_Mpg_make2 182 = .ok (.goto 17, 3) := by decide +kernel
theorem d_Mpg_make2_185 : decode b_Mpg_make2 185 = .ok (.aload_n 0, 1) := by decide +kernel
theorem d_Mpg_make2_186 : decode b_Mpg_make2 186 = .ok (.bipush 22, 2) := by decide +kernel
theorem d_Mpg_make2_188 : decode b_Mpg_make2 188 = .ok (.aload_n 0, 1) := by decide +kernel
theorem d_Mpg_make2_189 : decode b_Mpg_make2 189 = .ok (.getfield 219, 3) := by decide +kernel
theorem d_Mpg_make2_192 : decode b_Mpg_make2 192 = .ok (.iload_n 3, 1) := by decide +kernel
theorem d_Mpg_make2_193 : decode b_Mpg_make2 193 = .ok (.iaload, 1) := by decide +kernel
theorem d_Mpg_make2_194 : decode b_Mpg_make2 194 = .ok (.iconst 0, 1) := by decide +kernel
theorem d_Mpg_make2_195 : decode b_Mpg_make2 195 = .ok (.invokevirtual 711, 3) := by decide +kernel
theorem d_Mpg_make2_198 : decode b_Mpg_make2 198 = .ok (.pop, 1) := by decide +kernel
theorem d_Mpg_make2_199 : decode b_Mpg_make2 199 = .ok (.iinc 2 1, 3) := by decide +kernel
theorem d_Mpg_make2_202 : decode b_Mpg_make2 202 = .ok (.aload_n 0, 1) := by decide +kernel
theorem d_Mpg_make2_203 : decode b_Mpg_make2 203 = .ok (.getfield 228, 3) := by decide +kernel
theorem d_Mpg_make2_206 : decode b_Mpg_make2 206 = .ok (.iload_n 3, 1) := by decide +kernel
theorem d_Mpg_make2_207 : decode b_Mpg_make2 207 = .ok (.iaload, 1) := by decide +kernel
theorem d_Mpg_make2_208 : decode b_Mpg_make2 208 = .ok (.istore_n 3, 1) := by decide +kernel
theorem d_Mpg_make2_209 : decode b_Mpg_make2 209 = .ok (.goto (-86), 3) := by decide +kernel
theorem d_Mpg_make2_212 : decode b_Mpg_make2 212 = .ok (.aload_n 0, 1) := by decide +kernel
theorem d_Mpg_make2_213 : decode b_Mpg_make2 213 = .ok (.aload_n 0, 1) := by decide +kernel
theorem d_Mpg_make2_214 : decode b_Mpg_make2 214 = .ok (.getfield 219, 3) := by decide +kernel
theorem d_Mpg_make2_217 : decode b_Mpg_make2 217 = .ok (.iload_n 1, 1) := by decide +kernel
theorem d_Mpg_make2_218 : decode b_Mpg_make2 218 = .ok (.iaload, 1) := by decide +kernel
theorem d_Mpg_make2_219 : decode b_Mpg_make2 219 = .ok (.bipush 100, 2) := by decide +kernel
theorem d_Mpg_make2_221 : decode b_Mpg_make2 221 = .ok (.if_icmp .lt 8, 3) := by decide +kernel
theorem d_Mpg_make2_224 : decode b_Mpg_make2 224 = .ok (.bipush 15, 2) := by decide +kernel
theorem d_Mpg_make2_226 : decode b_Mpg_make2 226 = .ok (.goto 5, 3) := by decide +kernel
theorem d_Mpg_make2_229 : decode b_Mpg_make2 229 = .ok (.bipush 16, 2) := by decide +kernel
theorem d_Mpg_make2_231 : decode b_Mpg_make2 231 = .ok (.aload_n 0, 1) := by decide +kernel
theorem d_Mpg_make2_232 : decode b_Mpg_make2 232 = .ok (.getfield 219, 3) := by decide +kernel
theorem d_Mpg_make2_235 : decode b_Mpg_make2 235 = .ok (.iload_n 1, 1) := by decide +kernel
theorem d_Mpg_make2_236 : decode b_Mpg_make2 236 = .ok (.iaload, 1) := by decide +kernel
theorem d_Mpg_make2_237 : decode b_Mpg_make2 237 = .ok (.bipush 100, 2) := by decide +kernel
theorem d_Mpg_make2_239 : decode b_Mpg_make2 239 = .ok (.if_icmp .lt 15, 3) := by decide +kernel
theorem d_Mpg_make2_242 : decode b_Mpg_make2 242 = .ok (.aload_n 0, 1) := by decide +kernel
theorem d_Mpg_make2_243 : decode b_Mpg_make2 243 = .ok (.getfield 219, 3) := by decide +kernel
theorem d_Mpg_make2_246 : decode b_Mpg_make2 246 = .ok (.iload_n 1, 1) := by decide +kernel
theorem d_Mpg_make2_247 : decode b_Mpg_make2 247 = .ok (.iaload, 1) := by decide +kernel
theorem d_Mpg_make2_248 : decode b_Mpg_make2 248 = .ok (.bipush 100, 2) := by decide +kernel
theorem d_Mpg_make2_250 : decode b_Mpg_make2 250 = .ok (.isub, 1) := by decide +kernel
theorem d_Mpg_make2_251 : decode b_Mpg_make2 251 = .ok (.goto 9, 3) := by decide +kernel
theorem d_Mpg_make2_254 : decode b_Mpg_make2 254 = .ok (.aload_n 0, 1) := by decide +kernel
theorem d_Mpg_make2_255 : decode b_Mpg_make2 255 = .ok (.getfield 219, 3) := by decide +kernel
theorem d_Mpg_make2_258 : decode b_Mpg_make2 258 = .ok (.iload_n 1, 1) := by decide +kernel
theorem d_Mpg_make2_259 : decode b_Mpg_make2 259 = .ok (.iaload, 1) := by decide +kernel
theorem d_Mpg_make2_260 : decode b_Mpg_make2 260 = .ok (.iconst 0, 1) := by decide +kernel
theorem d_Mpg_make2_261 : decode b_Mpg_make2 261 = .ok (.invokevirtual 711, 3) := by decide +kernel
theorem d_Mpg_make2_264 : decode b_Mpg_make2 264 = .ok (.pop, 1) := by decide +kernel
theorem d_Mpg_make2_265 : decode b_Mpg_make2 265 = .ok (.goto 507, 3) := by decide +kernel
theorem d_Mpg_make2_268 : decode b_Mpg_make2 268 = .ok (.aload_n 0, 1) := by decide +kernel
theorem d_Mpg_make2_269 : decode b_Mpg_make2 269 = .ok (.aload_n 0, 1) := by decide +kernel
theorem d_Mpg_make2_270 : decode b_Mpg_make2 270 = .ok (.getfield 216, 3) := by decide +kernel
theorem d_Mpg_make2_273 : decode b_Mpg_make2 273 = .ok (.iload_n 1, 1) := by decide +kernel
theorem d_Mpg_make2_274 : decode b_Mpg_make2 274 = .ok (.iaload, 1) := by decide +kernel
theorem d_Mpg_make2_275 : decode b_Mpg_make2 275 = .ok (.invokevirtual 714, 3) := by decide +kernel
theorem d_Mpg_make2_278 : decode b_Mpg_make2 278 = .ok (.aload_n 0, 1) := by decide +kernel
theorem d_Mpg_make2_279 : decode b_Mpg_make2 279 = .ok (.iconst 4, 1) := by decide +kernel
theorem d_Mpg_make2_280 : decode b_Mpg_make2 280 = .ok (.aload_n 0, 1) := by decide +kernel
theorem d_Mpg_make2_281 : decode b_Mpg_make2 281 = .ok (.getfield 219, 3) := by decide +kernel
theorem d_Mpg_make2_284 : decode b_Mpg_make2 284 = .ok (.iload_n 1, 1) := by decide +kernel
theorem d_Mpg_make2_285 : decode b_Mpg_make2 285 = .ok (.iaload, 1) := by decide +kernel
theorem d_Mpg_make2_286 : decode b_Mpg_make2 286 = .ok (.iconst 0, 1) := by decide +kernel
theorem d_Mpg_make2_287 : decode b_Mpg_make2 287 = .ok (.invokevirtual 711, 3) := by decide +kernel
theorem d_Mpg_make2_290 : decode b_Mpg_make2 290 = .ok (.pop, 1) := by decide +kernel
theorem d_Mpg_make2_291 : decode b_Mpg_make2 291 = .ok (.goto 481, 3) := by decide +kernel
theorem d_Mpg_make2_294 : decode b_Mpg_make2 294 = .ok (.aload_n 0, 1) := by decide +kernel
theorem d_Mpg_make2_295 : decode b_Mpg_make2 295 = .ok (.getfield 198, 3) := by decide +kernel
theorem d_Mpg_make2_298 : decode b_Mpg_make2 298 = .ok (.aload_n 0, 1) := by decide +kernel
theorem d_Mpg_make2_299 : decode b_Mpg_make2 299 = .ok (.getfield 210, 3) := by decide +kernel
theorem d_Mpg_make2_302 : decode b_Mpg_make2 302 = .ok (.iload_n 1, 1) := by decide +kernel
theorem d_Mpg_make2_303 : decode b_Mpg_make2 303 = .ok (.iaload, 1) := by decide +kernel
theorem d_Mpg_make2_304 : decode b_Mpg_make2 304 = .ok (.iaload, 1) := by decide +kernel
theorem d_Mpg_make2_305 : decode b_Mpg_make2 305 = .ok (.iconst 2, 1) := by decide +kernel
theorem d_Mpg_make2_306 : decode b_Mpg_make2 306 = .ok (.if_icmp .ne 12, 3) := by decide +kernel
theorem d_Mpg_make2_309 : decode b_Mpg_make2 309 = .ok (.aload_n 0, 1) := by decide +kernel
theorem d_Mpg_make2_310 : decode b_Mpg_make2 310 = .ok (.iload_n 1, 1) := by decide +kernel
theorem d_Mpg_make2_311 : decode b_Mpg_make2 311 = .ok (.iconst 2, 1) := by decide +kernel
theorem d_Mpg_make2_312 : decode b_Mpg_make2 312 = .ok (.invokevirtual 716, 3) := by decide +kernel
theorem d_Mpg_make2_315 : decode b_Mpg_make2 315 = .ok (.goto 457, 3) := by decide +kernel
theorem d_Mpg_make2_318 : decode b_Mpg_make2 318 = .ok (.aload_n 0, 1) := by decide +kernel
theorem d_Mpg_make2_319 : decode b_Mpg_make2 319 = .ok (.aload_n 0, 1) := by decide +kernel
theorem d_Mpg_make2_320 : decode b_Mpg_make2 320 = .ok (.getfield 216, 3) := by decide +kernel
theorem d_Mpg_make2_323 : decode b_Mpg_make2 323 = .ok (.iload_n 1, 1) := by decide +kernel
theorem d_Mpg_make2_324 : decode b_Mpg_make2 324 = .ok (.iaload, 1) := by decide +kernel
theorem d_Mpg_make2_325 : decode b_Mpg_make2 325 = .ok (.invokevirtual 714, 3) := by decide +kernel
theorem d_Mpg_make2_328 : decode b_Mpg_make2 328 = .ok (.aload_n 0, 1) := by decide +kernel
theorem d_Mpg_make2_329 : decode b_Mpg_make2 329 = .ok (.bipush 10, 2) := by decide +kernel
theorem d_Mpg_make2_331 : decode b_Mpg_make2 331 = .ok (.aload_n 0, 1) := by decide +kernel
theorem d_Mpg_make2_332 : decode b_Mpg_make2 332 = .ok (.getfield 190, 3) := by decide +kernel
theorem d_Mpg_make2_335 : decode b_Mpg_make2 335 = .ok (.aload_n 0, 1) := by decide +kernel
theorem d_Mpg_make2_336 : decode b_Mpg_make2 336 = .ok (.getfield 194, 3) := by decide +kernel
theorem d_Mpg_make2_339 : decode b_Mpg_make2 339 = .ok (.aload_n 0, 1) := by decide +kernel
theorem d_Mpg_make2_340 : decode b_Mpg_make2 340 = .ok (.getfield 210, 3) := by decide +kernel
theorem d_Mpg_make2_343 : decode b_Mpg_make2 343 = .ok (.iload_n 1, 1) := by decide +kernel
theorem d_Mpg_make2_344 : decode b_Mpg_make2 344 = .ok (.iaload, 1) := by decide +kernel
theorem d_Mpg_make2_345 : decode b_Mpg_make2 345 = .ok (.iaload, 1) := by decide +kernel
theorem d_Mpg_make2_346 : decode b_Mpg_make2 346 = .ok (.baload, 1) := by decide +kernel
theorem d_Mpg_make2_347 : decode b_Mpg_make2 347 = .ok (.iconst 0, 1) := by decide +kernel
theorem d_Mpg_make2_348 : decode b_Mpg_make2 348 = .ok (.invokevirtual 711, 3) := by decide +kernel
theorem d_Mpg_make2_351 : decode b_Mpg_make2 351 = .ok (.pop, 1) := by decide +kernel
theorem d_Mpg_make2_352 : decode b_Mpg_make2 352 = .ok (.goto 420, 3) := by decide +kernel
theorem d_Mpg_make2_355 : decode b_Mpg_make2 355 = .ok (.aload_n 0, 1) := by decide +kernel
theorem d_Mpg_make2_356 : decode b_Mpg_make2 356 = .ok (.iload_n 1, 1) := by decide +kernel
theorem d_Mpg_make2_357 : decode b_Mpg_make2 357 = .ok (.iconst 0, 1) := by decide +kernel
theorem d_Mpg_make2_358 : decode b_Mpg_make2 358 = .ok (.invokevirtual 716, 3) := by decide +kernel
theorem d_Mpg_make2_361 : decode b_Mpg_make2 361 = .ok (.goto 411, 3) := by decide +kernel
theorem d_Mpg_make2_364 : decode b_Mpg_make2 364 = .ok (.aload_n 0, 1) := by decide +kernel
theorem d_Mpg_make2_365 : decode b_Mpg_make2 365 = .ok (.aload_n 0, 1) := by decide +kernel
theorem d_Mpg_make2_366 : decode b_Mpg_make2 366 = .ok (.getfield 216, 3) := by decide +kernel
theorem d_Mpg_make2_369 : decode b_Mpg_make2 369 = .ok (.iload_n 1, 1) := by decide +kernel
theorem d_Mpg_make2_370 : decode b_Mpg_make2 370 = .ok (.iaload, 1) := by decide +kernel
theorem d_Mpg_make2_371 : decode b_Mpg_make2 371 = .ok (.invokevirtual 714, 3) := by decide +kernel
theorem d_Mpg_make2_374 : decode b_Mpg_make2 374 = .ok (.iconst (-1), 1) := by decide +kernel
theorem d_Mpg_make2_375 : decode b_Mpg_make2 375 = .ok (.istore_n 3, 1) := by decide +kernel
theorem d_Mpg_make2_376 : decode b_Mpg_make2 376 = .ok (.aload_n 0, 1) := by decide +kernel
theorem d_Mpg_make2_377 : decode b_Mpg_make2 377 = .ok (.getfield 228, 3) := by decide +kernel
theorem d_Mpg_make2_380 : decode b_Mpg_make2 380 = .ok (.aload_n 0, 1) := by decide +kernel
theorem d_Mpg_make2_381 : decode b_Mpg_make2 381 = .ok (.getfield 216, 3) := by decide +kernel
theorem d_Mpg_make2_384 : decode b_Mpg_make2 384 = .ok (.iload_n 1, 1) := by decide +kernel
theorem d_Mpg_make2_385 : decode b_Mpg_make2 385 = .ok (.iaload, 1) := by decide +kernel
theorem d_Mpg_make2_386 : decode b_Mpg_make2 386 = .ok (.iaload, 1) := by decide +kernel
theorem d_Mpg_make2_387 : decode b_Mpg_make2 387 = .ok (.istore 4, 2) := by decide +kernel
theorem d_Mpg_make2_389 : decode b_Mpg_make2 389 = .ok (.iload 4, 2) := by decide +kernel
theorem d_Mpg_make2_391 : decode b_Mpg_make2 391 = .ok (.ifCond .lt 83, 3) := by decide +kernel
theorem d_Mpg_make2_394 : decode b_Mpg_make2 394 = .ok (.aload_n 0, 1) := by decide +kernel
theorem d_Mpg_make2_395 : decode b_Mpg_make2 395 = .ok (.getfield 231, 3) := by decide +kernel
theorem d_Mpg_make2_398 : decode b_Mpg_make2 398 = .ok (.iload_n 1, 1) := by decide +kernel
theorem d_Mpg_make2_399 : decode b_Mpg_make2 399 = .ok (.iaload, 1) := by decide +kernel
theorem d_Mpg_make2_400 : decode b_Mpg_make2 400 = .ok (.iconst 3, 1) := by decide +kernel
theorem d_Mpg_make2_401 : decode b_Mpg_make2 401 = .ok (.if_icmp .ge 36, 3) := by decide +kernel
theorem d_Mpg_make2_404 : decode b_Mpg_make2 404 = .ok (.aload_n 0, 1) := by decide +kernel
theorem d_Mpg_make2_405 : decode b_Mpg_make2 405 = .ok (.aload_n 0, 1) := by decide +kernel
theorem d_Mpg_make2_406 : decode b_Mpg_make2 406 = .ok (.getfield 231, 3) := by decide +kernel
theorem d_Mpg_make2_409 : decode b_Mpg_make2 409 = .ok (.iload_n 1, 1) := by decide +kernel
theorem d_Mpg_make2_410 : decode b_Mpg_make2 410 = .ok (.iaload, 1) := by decide +kernel
theorem d_Mpg_make2_411 : decode b_Mpg_make2 411 = .ok (.iconst 1, 1) := by decide +kernel
theorem d_Mpg_make2_412 : decode b_Mpg_make2 412 = .ok (.if_icmp .ne 8, 3) := by decide +kernel
theorem d_Mpg_make2_415 : decode b_Mpg_make2 415 = .ok (.bipush 14, 2) := by decide +kernel
theorem d_Mpg_make2_417 : decode b_Mpg_make2 417 = .ok (.goto 5, 3) := by decide +kernel
theorem d_Mpg_make2_420 : decode b_Mpg_make2 420 = .ok (.bipush 13, 2) := by decide +kernel
theorem d_Mpg_make2_422 : decode b_Mpg_make2 422 = .ok (.iload_n 3, 1) := by decide +kernel
theorem d_Mpg_make2_423 : decode b_Mpg_make2 423 = .ok (.iconst 0, 1) := by decide +kernel
theorem d_Mpg_make2_424 : decode b_Mpg_make2 424 = .ok (.invokevirtual 711, 3) := by decide +kernel
theorem d_Mpg_make2_427 : decode b_Mpg_make2 427 = .ok (.istore_n 3, 1) := by decide +kernel
theorem d_Mpg_make2_428 : decode b_Mpg_make2 428 = .ok (.aload_n 0, 1) := by decide +kernel
theorem d_Mpg_make2_429 : decode b_Mpg_make2 429 = .ok (.iload 4, 2) := by decide +kernel
theorem d_Mpg_make2_431 : decode b_Mpg_make2 431 = .ok (.invokevirtual 714, 3) := by decide +kernel
theorem d_Mpg_make2_434 : decode b_Mpg_make2 434 = .ok (.goto 28, 3) := by decide +kernel
theorem d_Mpg_make2_437 : decode b_Mpg_make2 437 = .ok (.aload_n 0, 1) := by decide +kernel
theorem d_Mpg_make2_438 : decode b_Mpg_make2 438 = .ok (.iload 4, 2) := by decide +kernel
theorem d_Mpg_make2_440 : decode b_Mpg_make2 440 = .ok (.invokevirtual 714, 3) := by decide +kernel
theorem d_Mpg_make2_443 : decode b_Mpg_make2 443 = .ok (.aload_n 0, 1) := by decide +kernel
theorem d_Mpg_make2_444 : decode b_Mpg_make2 444 = .ok (.bipush 11, 2) := by decide +kernel
theorem d_Mpg_make2_446 : decode b_Mpg_make2 446 = .ok (.aload_n 0, 1) := by decide +kernel
theorem d_Mpg_make2_447 : decode b_Mpg_make2 447 = .ok (.aload_n 0, 1) := by decide +kernel
theorem d_Mpg_make2_448 : decode b_Mpg_make2 448 = .ok (.getfield 225, 3) := by decide +kernel
theorem d_Mpg_make2_451 : decode b_Mpg_make2 451 = .ok (.iload 4, 2) := by decide +kernel
theorem d_Mpg_make2_453 : decode b_Mpg_make2 453 = .ok (.iaload, 1) := by decide +kernel
theorem d_Mpg_make2_454 : decode b_Mpg_make2 454 = .ok (.invokevirtual 719, 3) := by decide +kernel
theorem d_Mpg_make2_457 : decode b_Mpg_make2 457 = .ok (.iconst 0, 1) := by decide +kernel
theorem d_Mpg_make2_458 : decode b_Mpg_make2 458 = .ok (.invokevirtual 711, 3) := by decide +kernel
theorem d_Mpg_make2_461 : decode b_Mpg_make2 461 = .ok (.pop, 1) := by decide +kernel
theorem d_Mpg_make2_462 : decode b_Mpg_make2 462 = .ok (.aload_n 0, 1) := by decide +kernel
theorem d_Mpg_make2_463 : decode b_Mpg_make2 463 = .ok (.getfield 228, 3) := by decide +kernel
theorem d_Mpg_make2_466 : decode b_Mpg_make2 466 = .ok (.iload 4, 2) := by decide +kernel
theorem d_Mpg_make2_468 : decode b_Mpg_make2 468 = .ok (.iaload, 1) := by decide +kernel
theorem d_Mpg_make2_469 : decode b_Mpg_make2 469 = .ok (.istore 4, 2) := by decide +kernel
theorem d_Mpg_make2_471 : decode b_Mpg_make2 471 = .ok (.goto (-82), 3) := by decide +kernel
theorem d_Mpg_make2_474 : decode b_Mpg_make2 474 = .ok (.aload_n 0, 1) := by decide +kernel
theorem d_Mpg_make2_475 : decode b_Mpg_make2 475 = .ok (.getfield 231, 3) := by decide +kernel
theorem d_Mpg_make2_478 : decode b_Mpg_make2 478 = .ok (.iload_n 1, 1) := by decide +kernel
theorem d_Mpg_make2_479 : decode b_Mpg_make2 479 = .ok (.iaload, 1) := by decide +kernel
theorem d_Mpg_make2_480 : decode b_Mpg_make2 480 = .ok (.iconst 3, 1) := by decide +kernel
theorem d_Mpg_make2_481 : decode b_Mpg_make2 481 = .ok (.if_icmp .ge 291, 3) := by decide +kernel
theorem d_Mpg_make2_484 : decode b_Mpg_make2 484 = .ok (.aload_n 0, 1) := by decide +kernel
theorem d_Mpg_make2_485 : decode b_Mpg_make2 485 = .ok (.aload_n 0, 1) := by decide +kernel
theorem d_Mpg_make2_486 : decode b_Mpg_make2 486 = .ok (.getfield 231, 3) := by decide +kernel
theorem d_Mpg_make2_489 : decode b_Mpg_make2 489 = .ok (.iload_n 1, 1) := by decide +kernel
theorem d_Mpg_make2_490 : decode b_Mpg_make2 490 = .ok (.iaload, 1) := by decide +kernel
theorem d_Mpg_make2_491 : decode b_Mpg_make2 491 = .ok (.iconst 1, 1) := by decide +kernel
theorem d_Mpg_make2_492 : decode b_Mpg_make2 492 = .ok (.if_icmp .ne 8, 3) := by decide +kernel
theorem d_Mpg_make2_495 : decode b_Mpg_make2 495 = .ok (.bipush 14, 2) := by decide +kernel
theorem d_Mpg_make2_497 : decode b_Mpg_make2 497 = .ok (.goto 5, 3) := by decide +kernel
theorem d_Mpg_make2_500 : decode b_Mpg_make2 500 = .ok (.bipush 13, 2) := by decide +kernel
theorem d_Mpg_make2_502 : decode b_Mpg_make2 502 = .ok (.iload_n 3, 1) := by decide +kernel
theorem d_Mpg_make2_503 : decode b_Mpg_make2 503 = .ok (.iconst 0, 1) := by decide +kernel
theorem d_Mpg_make2_504 : decode b_Mpg_make2 504 = .ok (.invokevirtual 711, 3) := by decide +kernel
theorem d_Mpg_make2_507 : decode b_Mpg_make2 507 = .ok (.istore_n 3, 1) := by decide +kernel
theorem d_Mpg_make2_508 : decode b_Mpg_make2 508 = .ok (.aload_n 0, 1) := by decide +kernel
theorem d_Mpg_make2_509 : decode b_Mpg_make2 509 = .ok (.iconst 1, 1) := by decide +kernel
theorem d_Mpg_make2_510 : decode b_Mpg_make2 510 = .ok (.aload_n 0, 1) := by decide +kernel
theorem d_Mpg_make2_511 : decode b_Mpg_make2 511 = .ok (.getfield 231, 3) := by decide +kernel
theorem d_Mpg_make2_514 : decode b_Mpg_make2 514 = .ok (.iload_n 1, 1) := by decide +kernel
theorem d_Mpg_make2_515 : decode b_Mpg_make2 515 = .ok (.iaload, 1) := by decide +kernel
theorem d_Mpg_make2_516 : decode b_Mpg_make2 516 = .ok (.iconst 1, 1) := by decide +kernel
theorem d_Mpg_make2_517 : decode b_Mpg_make2 517 = .ok (.if_icmp .ne 7, 3) := by decide +kernel
theorem d_Mpg_make2_520 : decode b_Mpg_make2 520 = .ok (.iconst 0, 1) := by decide +kernel
theorem d_Mpg_make2_521 : decode b_Mpg_make2 521 = .ok (.goto 4, 3) := by decide +kernel
theorem d_Mpg_make2_524 : decode b_Mpg_make2 524 = .ok (.iconst 1, 1) := by decide +kernel
theorem d_Mpg_make2_525 : decode b_Mpg_make2 525 = .ok (.iconst 0, 1) := by decide +kernel
theorem d_Mpg_make2_526 : decode b_Mpg_make2 526 = .ok (.invokevirtual 711, 3) := by decide +kernel
theorem d_Mpg_make2_529 : decode b_Mpg_make2 529 = .ok (.pop, 1) := by decide +kernel
theorem d_Mpg_make2_530 : decode b_Mpg_make2 530 = .ok (.aload_n 0, 1) := by decide +kernel
theorem d_Mpg_make2_531 : decode b_Mpg_make2 531 = .ok (.bipush 12, 2) := by decide +kernel
theorem d_Mpg_make2_533 : decode b_Mpg_make2 533 = .ok (.iconst 0, 1) := by decide +kernel
theorem d_Mpg_make2_534 : decode b_Mpg_make2 534 = .ok (.iconst 0, 1) := by decide +kernel
theorem d_Mpg_make2_535 : decode b_Mpg_make2 535 = .ok (.invokevirtual 711, 3) := by decide +kernel
theorem d_Mpg_make2_538 : decode b_Mpg_make2 538 = .ok (.istore 4, 2) := by decide +kernel
theorem d_Mpg_make2_540 : decode b_Mpg_make2 540 = .ok (.aload_n 0, 1) := by decide +kernel
theorem d_Mpg_make2_541 : decode b_Mpg_make2 541 = .ok (.iload_n 3, 1) := by decide +kernel
theorem d_Mpg_make2_542 : decode b_Mpg_make2 542 = .ok (.aload_n 0, 1) := by decide +kernel
theorem d_Mpg_make2_543 : decode b_Mpg_make2 543 = .ok (.getfield 708, 3) := by decide +kernel
theorem d_Mpg_make2_546 : decode b_Mpg_make2 546 = .ok (.invokevirtual 722, 3) := by decide +kernel
theorem d_Mpg_make2_549 : decode b_Mpg_make2 549 = .ok (.aload_n 0, 1) := by decide +kernel
theorem d_Mpg_make2_550 : decode b_Mpg_make2 550 = .ok (.iconst 1, 1) := by decide +kernel
theorem d_Mpg_make2_551 : decode b_Mpg_make2 551 = .ok (.aload_n 0, 1) := by decide +kernel
theorem d_Mpg_make2_552 : decode b_Mpg_make2 552 = .ok (.getfield 231, 3) := by decide +kernel
theorem d_Mpg_make2_555 : decode b_Mpg_make2 555 = .ok (.iload_n 1, 1) := by decide +kernel
theorem d_Mpg_make2_556 : decode b_Mpg_make2 556 = .ok (.iaload, 1) := by decide +kernel
theorem d_Mpg_make2_557 : decode b_Mpg_make2 557 = .ok (.iconst 1, 1) := by decide +kernel
theorem d_Mpg_make2_558 : decode b_Mpg_make2 558 = .ok (.if_icmp .ne 7, 3) := by decide +kernel
theorem d_Mpg_make2_561 : decode b_Mpg_make2 561 = .ok (.iconst 1, 1) := by decide +kernel
theorem d_Mpg_make2_562 : decode b_Mpg_make2 562 = .ok (.goto 4, 3) := by decide +kernel
theorem d_Mpg_make2_565 : decode b_Mpg_make2 565 = .ok (.iconst 0, 1) := by decide +kernel
theorem d_Mpg_make2_566 : decode b_Mpg_make2 566 = .ok (.iconst 0, 1) := by decide +kernel
theorem d_Mpg_make2_567 : decode b_Mpg_make2 567 = .ok (.invokevirtual 711, 3) := by decide +kernel
theorem d_Mpg_make2_570 : decode b_Mpg_make2 570 = .ok (.pop, 1) := by decide +kernel
theorem d_Mpg_make2_571 : decode b_Mpg_make2 571 = .ok (.aload_n 0, 1) := by decide +kernel
theorem d_Mpg_make2_572 : decode b_Mpg_make2 572 = .ok (.iload 4, 2) := by decide +kernel
theorem d_Mpg_make2_574 : decode b_Mpg_make2 574 = .ok (.invokevirtual 725, 3) := by decide +kernel
theorem d_Mpg_make2_577 : decode b_Mpg_make2 577 = .ok (.goto 195, 3) := by decide +kernel
theorem d_Mpg_make2_580 : decode b_Mpg_make2 580 = .ok (.aload_n 0, 1) := by decide +kernel
theorem d_Mpg_make2_581 : decode b_Mpg_make2 581 = .ok (.aload_n 0, 1) := by decide +kernel
theorem d_Mpg_make2_582 : decode b_Mpg_make2 582 = .ok (.getfield 216, 3) := by decide +kernel
theorem d_Mpg_make2_585 : decode b_Mpg_make2 585 = .ok (.iload_n 1, 1) := by decide +kernel
theorem d_Mpg_make2_586 : decode b_Mpg_make2 586 = .ok (.iaload, 1) := by decide +kernel
theorem d_Mpg_make2_587 : decode b_Mpg_make2 587 = .ok (.invokevirtual 714, 3) := by decide +kernel
theorem d_Mpg_make2_590 : decode b_Mpg_make2 590 = .ok (.aload_n 0, 1) := by decide +kernel
theorem d_Mpg_make2_591 : decode b_Mpg_make2 591 = .ok (.bipush 13, 2) := by decide +kernel
theorem d_Mpg_make2_593 : decode b_Mpg_make2 593 = .ok (.iconst 0, 1) := by decide +kernel
theorem d_Mpg_make2_594 : decode b_Mpg_make2 594 = .ok (.iconst 0, 1) := by decide +kernel
theorem d_Mpg_make2_595 : decode b_Mpg_make2 595 = .ok (.invokevirtual 711, 3) := by decide +kernel
theorem d_Mpg_make2_598 : decode b_Mpg_make2 598 = .ok (.istore 4, 2) := by decide +kernel
theorem d_Mpg_make2_600 : decode b_Mpg_make2 600 = .ok (.aload_n 0, 1) := by decide +kernel
theorem d_Mpg_make2_601 : decode b_Mpg_make2 601 = .ok (.aload_n 0, 1) := by decide +kernel
theorem d_Mpg_make2_602 : decode b_Mpg_make2 602 = .ok (.getfield 219, 3) := by decide +kernel
theorem d_Mpg_make2_605 : decode b_Mpg_make2 605 = .ok (.iload_n 1, 1) := by decide +kernel
theorem d_Mpg_make2_606 : decode b_Mpg_make2 606 = .ok (.iaload, 1) := by decide +kernel
theorem d_Mpg_make2_607 : decode b_Mpg_make2 607 = .ok (.invokevirtual 714, 3) := by decide +kernel
theorem d_Mpg_make2_610 : decode b_Mpg_make2 610 = .ok (.aload_n 0, 1) := by decide +kernel
theorem d_Mpg_make2_611 : decode b_Mpg_make2 611 = .ok (.bipush 12, 2) := by decide +kernel
theorem d_Mpg_make2_613 : decode b_Mpg_make2 613 = .ok (.iconst 0, 1) := by decide +kernel
theorem d_Mpg_make2_614 : decode b_Mpg_make2 614 = .ok (.iconst 0, 1) := by decide +kernel
theorem d_Mpg_make2_615 : decode b_Mpg_make2 615 = .ok (.invokevirtual 711, 3) := by decide +kernel
theorem d_Mpg_make2_618 : decode b_Mpg_make2 618 = .ok (.istore 5, 2) := by decide +kernel
theorem d_Mpg_make2_620 : decode b_Mpg_make2 620 = .ok (.aload_n 0, 1) := by decide +kernel
theorem d_Mpg_make2_621 : decode b_Mpg_make2 621 = .ok (.iload 4, 2) := by decide +kernel
theorem d_Mpg_make2_623 : decode b_Mpg_make2 623 = .ok (.invokevirtual 725, 3) := by decide +kernel
theorem d_Mpg_make2_626 : decode b_Mpg_make2 626 = .ok (.aload_n 0, 1) := by decide +kernel
theorem d_Mpg_make2_627 : decode b_Mpg_make2 627 = .ok (.aload_n 0, 1) := by decide +kernel
theorem d_Mpg_make2_628 : decode b_Mpg_make2 628 = .ok (.getfield 222, 3) := by decide +kernel
theorem d_Mpg_make2_631 : decode b_Mpg_make2 631 = .ok (.iload_n 1, 1) := by decide +kernel
theorem d_Mpg_make2_632 : decode b_Mpg_make2 632 = .ok (.iaload, 1) := by decide +kernel
theorem d_Mpg_make2_633 : decode b_Mpg_make2 633 = .ok (.invokevirtual 714, 3) := by decide +kernel
theorem d_Mpg_make2_636 : decode b_Mpg_make2 636 = .ok (.aload_n 0, 1) := by decide +kernel
theorem d_Mpg_make2_637 : decode b_Mpg_make2 637 = .ok (.iload 5, 2) := by decide +kernel
theorem d_Mpg_make2_639 : decode b_Mpg_make2 639 = .ok (.invokevirtual 725, 3) := by decide +kernel
theorem d_Mpg_make2_642 : decode b_Mpg_make2 642 = .ok (.goto 130, 3) := by decide +kernel
theorem d_Mpg_make2_645 : decode b_Mpg_make2 645 = .ok (.aload_n 0, 1) := by decide +kernel
theorem d_Mpg_make2_646 : decode b_Mpg_make2 646 = .ok (.getfield 216, 3) := by decide +kernel
theorem d_Mpg_make2_649 : decode b_Mpg_make2 649 = .ok (.iload_n 1, 1) := by decide +kernel
theorem d_Mpg_make2_650 : decode b_Mpg_make2 650 = .ok (.iaload, 1) := by decide +kernel
theorem d_Mpg_make2_651 : decode b_Mpg_make2 651 = .ok (.istore 6, 2) := by decide +kernel
theorem d_Mpg_make2_653 : decode b_Mpg_make2 653 = .ok (.aload_n 0, 1) := by decide +kernel
theorem d_Mpg_make2_654 : decode b_Mpg_make2 654 = .ok (.getfield 207, 3) := by decide +kernel
theorem d_Mpg_make2_657 : decode b_Mpg_make2 657 = .ok (.iload 6, 2) := by decide +kernel
theorem d_Mpg_make2_659 : decode b_Mpg_make2 659 = .ok (.baload, 1) := by decide +kernel
theorem d_Mpg_make2_660 : decode b_Mpg_make2 660 = .ok (.iconst 4, 1) := by decide +kernel
theorem d_Mpg_make2_661 : decode b_Mpg_make2 661 = .ok (.if_icmp .ne 7, 3) := by decide +kernel
theorem d_Mpg_make2_664 : decode b_Mpg_make2 664 = .ok (.iconst 1, 1) := by decide +kernel
theorem d_Mpg_make2_665 : decode b_Mpg_make2 665 = .ok (.goto 4, 3) := by decide +kernel
theorem d_Mpg_make2_668 : decode b_Mpg_make2 668 = .ok (.iconst 0, 1) := by decide +kernel
theorem d_Mpg_make2_669 : decode b_Mpg_make2 669 = .ok (.istore 7, 2) := by decide +kernel
theorem d_Mpg_make2_671 : decode b_Mpg_make2 671 = .ok (.iload 7, 2) := by decide +kernel
theorem d_Mpg_make2_673 : decode b_Mpg_make2 673 = .ok (.ifCond .eq 14, 3) := by decide +kernel
theorem d_Mpg_make2_676 : decode b_Mpg_make2 676 = .ok (.aload_n 0, 1) := by decide +kernel
theorem d_Mpg_make2_677 : decode b_Mpg_make2 677 = .ok (.aload_n 0, 1) := by decide +kernel
theorem d_Mpg_make2_678 : decode b_Mpg_make2 678 = .ok (.getfield 216, 3) := by decide +kernel
theorem d_Mpg_make2_681 : decode b_Mpg_make2 681 = .ok (.iload 6, 2) := by decide +kernel
theorem d_Mpg_make2_683 : decode b_Mpg_make2 683 = .ok (.iaload, 1) := by decide +kernel
theorem d_Mpg_make2_684 : decode b_Mpg_make2 684 = .ok (.invokevirtual 714, 3) := by decide +kernel
theorem d_Mpg_make2_687 : decode b_Mpg_make2 687 = .ok (.aload_n 0, 1) := by decide +kernel
theorem d_Mpg_make2_688 : decode b_Mpg_make2 688 = .ok (.aload_n 0, 1) := by decide +kernel
theorem d_Mpg_make2_689 : decode b_Mpg_make2 689 = .ok (.getfield 219, 3) := by decide +kernel
theorem d_Mpg_make2_692 : decode b_Mpg_make2 692 = .ok (.iload_n 1, 1) := by decide +kernel
theorem d_Mpg_make2_693 : decode b_Mpg_make2 693 = .ok (.iaload, 1) := by decide +kernel
theorem d_Mpg_make2_694 : decode b_Mpg_make2 694 = .ok (.invokevirtual 714, 3) := by decide +kernel
theorem d_Mpg_make2_697 : decode b_Mpg_make2 697 = .ok (.aload_n 0, 1) := by decide +kernel
theorem d_Mpg_make2_698 : decode b_Mpg_make2 698 = .ok (.getfield 198, 3) := by decide +kernel
theorem d_Mpg_make2_701 : decode b_Mpg_make2 701 = .ok (.aload_n 0, 1) := by decide +kernel
theorem d_Mpg_make2_702 : decode b_Mpg_make2 702 = .ok (.getfield 210, 3) := by decide +kernel
theorem d_Mpg_make2_705 : decode b_Mpg_make2 705 = .ok (.iload_n 1, 1) := by decide +kernel
theorem d_Mpg_make2_706 : decode b_Mpg_make2 706 = .ok (.iaload, 1) := by decide +kernel
theorem d_Mpg_make2_707 : decode b_Mpg_make2 707 = .ok (.iaload, 1) := by decide +kernel
theorem d_Mpg_make2_708 : decode b_Mpg_make2 708 = .ok (.iconst 1, 1) := by decide +kernel
theorem d_Mpg_make2_709 : decode b_Mpg_make2 709 = .ok (.if_icmp .ne 29, 3) := by decide +kernel
theorem d_Mpg_make2_712 : decode b_Mpg_make2 712 = .ok (.aload_n 0, 1) := by decide +kernel
theorem d_Mpg_make2_713 : decode b_Mpg_make2 713 = .ok (.iload 7, 2) := by decide +kernel
theorem d_Mpg_make2_715 : decode b_Mpg_make2 715 = .ok (.ifCond .eq 7, 3) := by decide +kernel
theorem d_Mpg_make2_718 : decode b_Mpg_make2 718 = .ok (.iconst 5, 1) := by decide +kernel
theorem d_Mpg_make2_719 : decode b_Mpg_make2 719 = .ok (.goto 4, 3) := by decide +kernel
theorem d_Mpg_make2_722 : decode b_Mpg_make2 722 = .ok (.iconst 3, 1) := by decide +kernel
theorem d_Mpg_make2_723 : decode b_Mpg_make2 723 = .ok (.aload_n 0, 1) := by decide +kernel
theorem d_Mpg_make2_724 : decode b_Mpg_make2 724 = .ok (.getfield 219, 3) := by decide +kernel
theorem d_Mpg_make2_727 : decode b_Mpg_make2 727 = .ok (.iload 6, 2) := by decide +kernel
theorem d_Mpg_make2_729 : decode b_Mpg_make2 729 = .ok (.iaload, 1) := by decide +kernel
theorem d_Mpg_make2_730 : decode b_Mpg_make2 730 = .ok (.iconst 0, 1) := by decide +kernel
theorem d_Mpg_make2_731 : decode b_Mpg_make2 731 = .ok (.invokevirtual 711, 3) := by decide +kernel
theorem d_Mpg_make2_734 : decode b_Mpg_make2 734 = .ok (.pop, 1) := by decide +kernel
theorem d_Mpg_make2_735 : decode b_Mpg_make2 735 = .ok (.goto 37, 3) := by decide +kernel
theorem d_Mpg_make2_738 : decode b_Mpg_make2 738 = .ok (.aload_n 0, 1) := by decide +kernel
theorem d_Mpg_make2_739 : decode b_Mpg_make2 739 = .ok (.iload 7, 2) := by decide +kernel
theorem d_Mpg_make2_741 : decode b_Mpg_make2 741 = .ok (.ifCond .eq 8, 3) := by decide +kernel
theorem d_Mpg_make2_744 : decode b_Mpg_make2 744 = .ok (.bipush 7, 2) := by decide +kernel
theorem d_Mpg_make2_746 : decode b_Mpg_make2 746 = .ok (.goto 5, 3) := by decide +kernel
theorem d_Mpg_make2_749 : decode b_Mpg_make2 749 = .ok (.bipush 6, 2) := by decide +kernel
theorem d_Mpg_make2_751 : decode b_Mpg_make2 751 = .ok (.aload_n 0, 1) := by decide +kernel
theorem d_Mpg_make2_752 : decode b_Mpg_make2 752 = .ok (.getfield 219, 3) := by decide +kernel
theorem d_Mpg_make2_755 : decode b_Mpg_make2 755 = .ok (.iload 6, 2) := by decide +kernel
theorem d_Mpg_make2_757 : decode b_Mpg_make2 757 = .ok (.iaload, 1) := by decide +kernel
theorem d_Mpg_make2_758 : decode b_Mpg_make2 758 = .ok (.aload_n 0, 1) := by decide +kernel
theorem d_Mpg_make2_759 : decode b_Mpg_make2 759 = .ok (.aload_n 0, 1) := by decide +kernel
theorem d_Mpg_make2_760 : decode b_Mpg_make2 760 = .ok (.getfield 210, 3) := by decide +kernel
theorem d_Mpg_make2_763 : decode b_Mpg_make2 763 = .ok (.iload_n 1, 1) := by decide +kernel
theorem d_Mpg_make2_764 : decode b_Mpg_make2 764 = .ok (.iaload, 1) := by decide +kernel
theorem d_Mpg_make2_765 : decode b_Mpg_make2 765 = .ok (.invokevirtual 728, 3) := by decide +kernel
theorem d_Mpg_make2_768 : decode b_Mpg_make2 768 = .ok (.invokevirtual 711, 3) := by decide +kernel
theorem d_Mpg_make2_771 : decode b_Mpg_make2 771 = .ok (.pop, 1) := by decide +kernel
theorem d_Mpg_make2_772 : decode b_Mpg_make2 772 = .ok (.return_, 1) := by decide +kernel
theorem q_Mpg_make2 : px_y y_Mpg_make2 1 := by unfold px_y; decide +kernel
def MakC (l : Launch) (D : va_G) (cs : Nat → ClassId) (d : Nat) : Prop := ∀ (ma0 : Nat → Nat → Int32) (ys : Int) (ns : Int) (nf : Int) (wt : Int) (V : Nat → Nat → Prop) (vl : Int) (vh : Int) (X9 : Cx) (fi : Int) (S9 : List Nat) (lv9 : Nat) (bh : Int) (h : Nat) (r : Nat → Nat) (g : Nat → Nat → Option Nat) (tf : Nat → Int32) (ta : Nat → Nat → Int32) (pf : Nat → Int32) (na : Nat → Nat → Int32) (ma : Nat → Nat → Int32) (wa : Nat → Nat → Int32) (cf : Nat → Int32) (ca : Nat → Nat → Int32) (xf : Nat → Int32) (xa : Nat → Nat → Int32) (ef : Nat → Int32) (ea : Nat → Nat → Int32) (p0 : Int32)  (g0 : (pf 13).toInt ≤ 2100) (g1 : (tf 6).toInt ≤ 2049) (g2 : (cf 38).toInt = nf) (g3 : 0 ≤ nf) (g4 : 0 ≤ (ef 60).toInt) (g5 : (ef 60).toInt + wt ≤ 7000) (g6 : (S9.length : Int) + bh ≤ X9.tall fi) (htk : TkI tf ta) (hft : FnT (tf 6).toInt na ca (cf 38).toInt) (hfp : FnP na ca nf) (han : Ann na ma0 ma) (hts : Ts (Gk ta ca na ma0 ns ys nf) na ma vl vh V) (hcx : CxI X9 fi ca ns ys nf (tkl na ma0 ca)) (hmk : MkB ta (tf 6).toInt na ma0 ma ca V d (pf 13).toInt wt bh p0), MetV l y_Mpg_make2 b_Mpg_make2 8 D cs (2 * d + 10) (120 * d + 320) (0) (0) [.ref h, .int p0] [wdP cs h r g tf ta pf na ma wa cf ca ef ea xf xa] (oX (fun A U H => (oP A g U H)) [wdP cs h r g tf ta pf na ma wa cf ca ef ea xf xa]) (fun ps => ∃ (ef' : Nat → Int32) (ea' : Nat → Nat → Int32), (ps = [wdP cs h r g tf ta pf na ma wa cf ca ef' ea' xf xa]) ∧ ((ef 60).toInt ≤ (ef' 60).toInt) ∧ ((ef' 60).toInt ≤ (ef 60).toInt + wt) ∧ ((ef' 64).toInt = (ef 64).toInt) ∧ ((ef' 65).toInt = (ef 65).toInt) ∧ (CdK ea ea' (ef 60).toInt) ∧ (SgQ X9 (ea' 61) (ef 60).toInt (ef' 60).toInt fi S9 (0 :: S9) lv9))
abbrev b_Mpg_makeStep : ByteArray := prog_16_method_112_code
def y_Mpg_makeStep : MethodName := ⟨"HomeSystemModel$Program", "makeStep", "(II)V"⟩
theorem d_Mpg_makeStep_0 : decode b_Mpg_makeStep 0 = .ok (.aload_n 0, 1) := by decide +kernel
theorem d_Mpg_makeStep_1 : decode b_Mpg_makeStep 1 = .ok (.getfield 216, 3) := by decide +kernel
theorem d_Mpg_makeStep_4 : decode b_Mpg_makeStep 4 = .ok (.iload_n 1, 1) := by decide +kernel
theorem d_Mpg_makeStep_5 : decode b_Mpg_makeStep 5 = .ok (.iaload, 1) := by decide +kernel
theorem d_Mpg_makeStep_6 : decode b_Mpg_makeStep 6 = .ok (.istore_n 3, 1) := by decide +kernel
theorem d_Mpg_makeStep_7 : decode b_Mpg_makeStep 7 = .ok (.iload_n 2, 1) := by decide +kernel
theorem d_Mpg_makeStep_8 : decode b_Mpg_makeStep 8 = .ok (.aload_n 0, 1) := by decide +kernel
theorem d_Mpg_makeStep_9 : decode b_Mpg_makeStep 9 = .ok (.getfield 190, 3) := by decide +kernel
theorem d_Mpg_makeStep_12 : decode b_Mpg_makeStep 12 = .ok (.aload_n 0, 1) := by decide +kernel
theorem d_Mpg_makeStep_13 : decode b_Mpg_makeStep 13 = .ok (.getfield 194, 3) := by decide +kernel
theorem d_Mpg_makeStep_16 : decode b_Mpg_makeStep 16 = .ok (.aload_n 0, 1) := by decide +kernel
theorem d_Mpg_makeStep_17 : decode b_Mpg_makeStep 17 = .ok (.getfield 210, 3) := by decide +kernel
theorem d_Mpg_makeStep_20 : decode b_Mpg_makeStep 20 = .ok (.iload_n 1, 1) := by decide +kernel
theorem d_Mpg_makeStep_21 : decode b_Mpg_makeStep 21 = .ok (.iaload, 1) := by decide +kernel
theorem d_Mpg_makeStep_22 : decode b_Mpg_makeStep 22 = .ok (.iaload, 1) := by decide +kernel
theorem d_Mpg_makeStep_23 : decode b_Mpg_makeStep 23 = .ok (.baload, 1) := by decide +kernel
theorem d_Mpg_makeStep_24 : decode b_Mpg_makeStep 24 = .ok (.bipush 43, 2) := by decide +kernel
theorem d_Mpg_makeStep_26 : decode b_Mpg_makeStep 26 = .ok (.if_icmp .ne 7, 3) := by decide +kernel
theorem d_Mpg_makeStep_29 : decode b_Mpg_makeStep 29 = .ok (.iconst 1, 1) := by decide +kernel
theorem d_Mpg_makeStep_30 : decode b_Mpg_makeStep 30 = .ok (.goto 4, 3) := by decide +kernel
theorem d_Mpg_makeStep_33 : decode b_Mpg_makeStep 33 = .ok (.iconst 0, 1) := by decide +kernel
theorem d_Mpg_makeStep_34 : decode b_Mpg_makeStep 34 = .ok (.iadd, 1) := by decide +kernel
theorem d_Mpg_makeStep_35 : decode b_Mpg_makeStep 35 = .ok (.istore 4, 2) := by decide +kernel
theorem d_Mpg_makeStep_37 : decode b_Mpg_makeStep 37 = .ok (.aload_n 0, 1) := by decide +kernel
theorem d_Mpg_makeStep_38 : decode b_Mpg_makeStep 38 = .ok (.getfield 207, 3) := by decide +kernel
theorem d_Mpg_makeStep_41 : decode b_Mpg_makeStep 41 = .ok (.iload_n 3, 1) := by decide +kernel
theorem d_Mpg_makeStep_42 : decode b_Mpg_makeStep 42 = .ok (.baload, 1) := by decide +kernel
theorem d_Mpg_makeStep_43 : decode b_Mpg_makeStep 43 = .ok (.iconst 4, 1) := by decide +kernel
theorem d_Mpg_makeStep_44 : decode b_Mpg_makeStep 44 = .ok (.if_icmp .ne 31, 3) := by decide +kernel
theorem d_Mpg_makeStep_47 : decode b_Mpg_makeStep 47 = .ok (.aload_n 0, 1) := by decide +kernel
theorem d_Mpg_makeStep_48 : decode b_Mpg_makeStep 48 = .ok (.aload_n 0, 1) := by decide +kernel
theorem d_Mpg_makeStep_49 : decode b_Mpg_makeStep 49 = .ok (.getfield 216, 3) := by decide +kernel
theorem d_Mpg_makeStep_52 : decode b_Mpg_makeStep 52 = .ok (.iload_n 3, 1) := by decide +kernel
theorem d_Mpg_makeStep_53 : decode b_Mpg_makeStep 53 = .ok (.iaload, 1) := by decide +kernel
theorem d_Mpg_makeStep_54 : decode b_Mpg_makeStep 54 = .ok (.invokevirtual 714, 3) := by decide +kernel
theorem d_Mpg_makeStep_57 : decode b_Mpg_makeStep 57 = .ok (.aload_n 0, 1) := by decide +kernel
theorem d_Mpg_makeStep_58 : decode b_Mpg_makeStep 58 = .ok (.bipush 9, 2) := by decide +kernel
theorem d_Mpg_makeStep_60 : decode b_Mpg_makeStep 60 = .ok (.aload_n 0, 1) := by decide +kernel
theorem d_Mpg_makeStep_61 : decode b_Mpg_makeStep 61 = .ok (.getfield 219, 3) := by decide +kernel
theorem d_Mpg_makeStep_64 : decode b_Mpg_makeStep 64 = .ok (.iload_n 3, 1) := by decide +kernel
theorem d_Mpg_makeStep_65 : decode b_Mpg_makeStep 65 = .ok (.iaload, 1) := by decide +kernel
theorem d_Mpg_makeStep_66 : decode b_Mpg_makeStep 66 = .ok (.iload 4, 2) := by decide +kernel
theorem d_Mpg_makeStep_68 : decode b_Mpg_makeStep 68 = .ok (.invokevirtual 711, 3) := by decide +kernel
theorem d_Mpg_makeStep_71 : decode b_Mpg_makeStep 71 = .ok (.pop, 1) := by decide +kernel
theorem d_Mpg_makeStep_72 : decode b_Mpg_makeStep 72 = .ok (.goto 18, 3) := by decide +kernel
theorem d_Mpg_makeStep_75 : decode b_Mpg_makeStep 75 = .ok (.aload_n 0, 1) := by decide +kernel
theorem d_Mpg_makeStep_76 : decode b_Mpg_makeStep 76 = .ok (.bipush 8, 2) := by decide +kernel
theorem d_Mpg_makeStep_78 : decode b_Mpg_makeStep 78 = .ok (.aload_n 0, 1) := by decide +kernel
theorem d_Mpg_makeStep_79 : decode b_Mpg_makeStep 79 = .ok (.getfield 219, 3) := by decide +kernel
theorem d_Mpg_makeStep_82 : decode b_Mpg_makeStep 82 = .ok (.iload_n 3, 1) := by decide +kernel
theorem d_Mpg_makeStep_83 : decode b_Mpg_makeStep 83 = .ok (.iaload, 1) := by decide +kernel
theorem d_Mpg_makeStep_84 : decode b_Mpg_makeStep 84 = .ok (.iload 4, 2) := by decide +kernel
theorem d_Mpg_makeStep_86 : decode b_Mpg_makeStep 86 = .ok (.invokevirtual 711, 3) := by decide +kernel
theorem d_Mpg_makeStep_89 : decode b_Mpg_makeStep 89 = .ok (.pop, 1) := by decide +kernel
theorem d_Mpg_makeStep_90 : decode b_Mpg_makeStep 90 = .ok (.return_, 1) := by decide +kernel
theorem q_Mpg_makeStep : px_y y_Mpg_makeStep 2 := by unfold px_y; decide +kernel
set_option maxHeartbeats 4000000 in
set_option maxRecDepth 100000 in
theorem c_mp_makeStep (l : Launch) (D : va_G) (cs : Nat → ClassId) (ma0 : Nat → Nat → Int32) (ys : Int) (ns : Int) (nf : Int) (d : Nat) (wt : Int) (V : Nat → Nat → Prop) (vl : Int) (vh : Int) (X9 : Cx) (fi : Int) (S9 : List Nat) (lv9 : Nat) (bh : Int) (h : Nat) (r : Nat → Nat) (g : Nat → Nat → Option Nat) (tf : Nat → Int32) (ta : Nat → Nat → Int32) (pf : Nat → Int32) (na : Nat → Nat → Int32) (ma : Nat → Nat → Int32) (wa : Nat → Nat → Int32) (cf : Nat → Int32) (ca : Nat → Nat → Int32) (xf : Nat → Int32) (xa : Nat → Nat → Int32) (ef : Nat → Int32) (ea : Nat → Nat → Int32) (p0 p1 : Int32)  (g0 : (pf 13).toInt ≤ 2100) (g1 : (tf 6).toInt ≤ 2049) (g2 : (cf 38).toInt = nf) (g3 : 0 ≤ nf) (g4 : 0 ≤ (ef 60).toInt) (g5 : (ef 60).toInt + wt ≤ 7000) (g6 : (S9.length : Int) + bh ≤ X9.tall fi) (g7 : ((na 14 p0.toNatClampNeg).toInt = 5 ∧ sz ta (na 15 p0.toNatClampNeg) = 2) ∨ (na 14 p0.toNatClampNeg).toInt = 6) (htk : TkI tf ta) (hft : FnT (tf 6).toInt na ca (cf 38).toInt) (hfp : FnP na ca nf) (han : Ann na ma0 ma) (hts : Ts (Gk ta ca na ma0 ns ys nf) na ma vl vh V) (hcx : CxI X9 fi ca ns ys nf (tkl na ma0 ca)) (hmk : MkB ta (tf 6).toInt na ma0 ma ca V (d + 1) (pf 13).toInt wt bh p0) (hLK : MakC l D cs d) : MetV l y_Mpg_makeStep b_Mpg_makeStep 5 D cs (2 * d + 11) (120 * d + 380) (0) (0) [.ref h, .int p0, .int p1] [wdP cs h r g tf ta pf na ma wa cf ca ef ea xf xa] (oX (fun A U H => (oP A g U H)) [wdP cs h r g tf ta pf na ma wa cf ca ef ea xf xa]) (fun ps => ∃ (ef' : Nat → Int32) (ea' : Nat → Nat → Int32), (ps = [wdP cs h r g tf ta pf na ma wa cf ca ef' ea' xf xa]) ∧ ((ef 60).toInt ≤ (ef' 60).toInt) ∧ ((ef' 60).toInt ≤ (ef 60).toInt + wt) ∧ ((ef' 64).toInt = (ef 64).toInt) ∧ ((ef' 65).toInt = (ef 65).toInt) ∧ (CdK ea ea' (ef 60).toInt) ∧ (SgQ X9 (ea' 61) (ef 60).toInt (ef' 60).toInt fi S9 (0 :: S9) lv9)) := by
  refine px_enter (by decide) (Nat.le_of_ble_eq_true rfl) ?_
  intro p e s m below meth c A ls hAe S hr hlk hnm hA hT hX hw hl
  replace hl : lv_has ls 5 [(0, .ref h), (1, .int p0), (2, .int p1)] := hl
  have lp0 := Int32.le_toInt p0
  have up0 := Int32.toInt_lt p0
  have lp1 := Int32.le_toInt p1
  have up1 := Int32.toInt_lt p1
  have cst0 : (0 : Int32).toInt = 0 := rfl
  have cst1 : (1 : Int32).toInt = 1 := rfl
  have cst4 : (4 : Int32).toInt = 4 := rfl
  have cst8 : (8 : Int32).toInt = 8 := rfl
  have cst9 : (9 : Int32).toInt = 9 := rfl
  have cst43 : (43 : Int32).toInt = 43 := rfl
  have hX : (fun A U H => (oP A g U H)) A s s.heap := by rw [hAe]; exact hX
  have hP := hX
  have hZ := hP.1
  have hF0 := hP.2.1
  have hf11 := hft.1
  have hec_p0 := hmk.ec
  have hrg := EcV.rng hec_p0
  have hnn := hmk.nn
  have hmk_p0 := hmk
  have hcd : CdK ea ea (ef 60).toInt := CdK.rf
  have hl1 : ((0 :: S9).length : Int) = S9.length + 1 := (by rw [List.length_cons]; omega)
  have hsg : SgQ X9 (ea 61) (ef 60).toInt (ef 60).toInt fi S9 S9 lv9 := sgq_0 (by omega)
  refine lv_aload_n S.x S.b d_Mpg_makeStep_0 rfl (lv_at hl 0 rfl) ?_
  refine px_get S k_Mpg hT hw 0 0 17 (v := .ref (r 17)) rfl rfl rfl (by decide) m10_1 d_Mpg_makeStep_1 ?_
  refine lv_iload_n S.x S.b d_Mpg_makeStep_4 rfl (lv_at hl 1 rfl) ?_
  refine px_iald S hT hw 0 13 (n := 2100) (f := (na 17)) rfl gp_17 (x := p0) (vp_in_iff.mpr (by constructor <;> omega)) d_Mpg_makeStep_5 ?_
  refine lv_topi (fun z1 ez1 => ?_)
  have lz1 := Int32.le_toInt z1
  have uz1 := Int32.toInt_lt z1
  have hpl := MkB.f56 hts hmk_p0 (by omega) ez1; have hec_z1 := hpl.1.ec.1; have hrg_z1 := EcV.rng hec_z1; have hnp := hpl.1.ec.2
  refine lv_istore_n (lv' := [(3, .int z1), (0, .ref h), (1, .int p0), (2, .int p1)]) S.x S.b d_Mpg_makeStep_6 rfl hl (by decide) rfl (fun ls hl => ?_)
  refine lv_iload_n S.x S.b d_Mpg_makeStep_7 rfl (lv_at hl 3 rfl) ?_
  refine lv_aload_n S.x S.b d_Mpg_makeStep_8 rfl (lv_at hl 1 rfl) ?_
  refine px_get S k_Mpg hT hw 0 0 4 (v := .ref (r 4)) rfl rfl rfl (by decide) m9_228 d_Mpg_makeStep_9 ?_
  refine lv_aload_n S.x S.b d_Mpg_makeStep_12 rfl (lv_at hl 1 rfl) ?_
  refine px_get S k_Mpg hT hw 0 0 7 (v := .ref (r 7)) rfl rfl rfl (by decide) m9_231 d_Mpg_makeStep_13 ?_
  refine lv_aload_n S.x S.b d_Mpg_makeStep_16 rfl (lv_at hl 1 rfl) ?_
  refine px_get S k_Mpg hT hw 0 0 15 (v := .ref (r 15)) rfl rfl rfl (by decide) m9_239 d_Mpg_makeStep_17 ?_
  refine lv_iload_n S.x S.b d_Mpg_makeStep_20 rfl (lv_at hl 2 rfl) ?_
  refine px_iald S hT hw 0 11 (n := 2100) (f := (na 15)) rfl gp_15 (x := p0) (vp_in_iff.mpr (by constructor <;> omega)) d_Mpg_makeStep_21 ?_
  refine lv_topi (fun z2 ez2 => ?_)
  have lz2 := Int32.le_toInt z2
  have uz2 := Int32.toInt_lt z2
  have rz2 := EcV.tok hec_p0 ez2
  refine px_iald S hT hw 0 6 (n := 2060) (f := (ta 7)) rfl gp_7 (x := z2) (vp_in_iff.mpr (by constructor <;> omega)) d_Mpg_makeStep_22 ?_
  refine lv_topi (fun z3 ez3 => ?_)
  have lz3 := Int32.le_toInt z3
  have uz3 := Int32.toInt_lt z3
  have rz3 : z3.toInt = bp ta z2 := by rw [ez3]; rfl
  have hz5 := tk_z5 htk (x := z2) (by omega) (by omega) (by rw [ez2]; exact EcV.n9 hec_p0 (by omega)); have hb5 := tk_b htk (x := z2) (by omega) (by omega)
  refine px_bald S hT hw 0 5 (n := 2048) (f := (ta 4)) rfl gp_4 (x := z3) (vp_in_iff.mpr (by first | exact oz_eacedfd6de rz3 hb5.1 hb5.2.2.1 hz5 hb5.2.2.2 | (constructor <;> omega))) d_Mpg_makeStep_23 ?_
  refine lv_topi (fun z4 ez4 => ?_)
  have lz4 := Int32.le_toInt z4
  have uz4 := Int32.toInt_lt z4
  refine lv_bipush (v := 43) S.x S.b d_Mpg_makeStep_24 (by decide) ?_
  refine lv_icmp_ne (tgt := 33) S.x S.b d_Mpg_makeStep_26 (by decide) (fun c5 => ?_) (fun c5 => ?_)
  · have nc5 : ¬ z4.toInt = (43 : Int) := mt (i_eq (x := z4) (y := 43)).mpr c5
    refine lv_iconst (v := 0) S.x S.b d_Mpg_makeStep_33 (by decide) ?_
    refine lv_iadd S.x S.b d_Mpg_makeStep_34 ?_
    refine lv_topi (fun z6 ez6 => ?_)
    have lz6 := Int32.le_toInt z6
    have uz6 := Int32.toInt_lt z6
    refine lv_istore (lv' := [(4, .int z6), (3, .int z1), (0, .ref h), (1, .int p0), (2, .int p1)]) S.x S.b d_Mpg_makeStep_35 hl (by decide) rfl (fun ls hl => ?_)
    refine lv_aload_n S.x S.b d_Mpg_makeStep_37 rfl (lv_at hl 2 rfl) ?_
    refine px_get S k_Mpg hT hw 0 0 14 (v := .ref (r 14)) rfl rfl rfl (by decide) m9_238 d_Mpg_makeStep_38 ?_
    refine lv_iload_n S.x S.b d_Mpg_makeStep_41 rfl (lv_at hl 1 rfl) ?_
    refine px_bald S hT hw 0 10 (n := 2100) (f := (na 14)) rfl gp_14 (x := z1) (vp_in_iff.mpr (by constructor <;> omega)) d_Mpg_makeStep_42 ?_
    refine lv_topi (fun z7 ez7 => ?_)
    have lz7 := Int32.le_toInt z7
    have uz7 := Int32.toInt_lt z7
    have rz7 := EcV.kd hec_z1 ez7
    refine lv_iconst (v := 4) S.x S.b d_Mpg_makeStep_43 (by decide) ?_
    refine lv_icmp_ne (tgt := 75) S.x S.b d_Mpg_makeStep_44 (by decide) (fun c8 => ?_) (fun c8 => ?_)
    · have nc8 : ¬ z7.toInt = (4 : Int) := mt (i_eq (x := z7) (y := 4)).mpr c8
      refine lv_aload_n S.x S.b d_Mpg_makeStep_75 rfl (lv_at hl 2 rfl) ?_
      refine lv_bipush (v := 8) S.x S.b d_Mpg_makeStep_76 (by decide) ?_
      refine lv_aload_n S.x S.b d_Mpg_makeStep_78 rfl (lv_at hl 2 rfl) ?_
      refine px_get S k_Mpg hT hw 0 0 18 (v := .ref (r 18)) rfl rfl rfl (by decide) m10_3 d_Mpg_makeStep_79 ?_
      refine lv_iload_n S.x S.b d_Mpg_makeStep_82 rfl (lv_at hl 1 rfl) ?_
      refine px_iald S hT hw 0 14 (n := 2100) (f := (ma 18)) rfl gp_18 (x := z1) (vp_in_iff.mpr (by constructor <;> omega)) d_Mpg_makeStep_83 ?_
      refine lv_topi (fun z9 ez9 => ?_)
      have lz9 := Int32.le_toInt z9
      have uz9 := Int32.toInt_lt z9
      have rz9 : z9.toInt = (ma 18 z1.toNatClampNeg).toInt := by rw [ez9]
      refine lv_iload S.x S.b d_Mpg_makeStep_84 (lv_at hl 0 rfl) ?_
      refine px_calli (pr := []) (px_runV (As := [.int 8, .int z9, .int z6]) (rest := []) S (c_mp_emit l D cs h r g tf ta pf na ma wa cf ca xf xa ef ea 8 z9 z6  (show 0 ≤ (ef 60).toInt from by first | exact g4 | omega) (show (ef 60).toInt < 7000 from by first | with_reducible rfl | with_reducible assumption | omega) _) hT (pr := []) (pcs := [wdP cs h r g tf ta pf na ma wa cf ca ef ea xf xa]) hw px_X.tt (px_recv hT hw 0 0 rfl rfl rfl) m13_86 m13_83 m13_85 ms_14_2 m1_21 q_Mpg_emit ⟨show 0 + 1 ≤ (2 * d + 11) from by first | with_reducible rfl | with_reducible assumption | omega, show 8 + (4 + 11) + 0 ≤ (120 * d + 380) from by first | with_reducible rfl | with_reducible assumption | omega⟩ hl.1 rfl (Nat.le_of_ble_eq_true rfl) d_Mpg_makeStep_86 ⟨Nat.le_of_ble_eq_true rfl, Nat.le_of_ble_eq_true rfl⟩) hw hA (fun v15 p14 H locs hp14 hw => ?_)
      obtain ⟨ef12, ea13, rfl, e16, e17, e18, e19, e20⟩ := hp14
      replace e16 : v15.toInt = (ef 60).toInt := e16
      replace e17 : (ef12 60).toInt = (ef 60).toInt + 1 := e17
      replace e18 : (ef12 64).toInt = (ef 64).toInt := e18
      replace e19 : (ef12 65).toInt = (ef 65).toInt := e19
      replace e20 : EmU ea ea13 (ef 60) (8 : Int32) z9 z6 := e20
      have hcd := hcd.tr e20.cd (by omega)
      have hsg := hsg.em e20 (by omega) rfl (by first | omega | (simp only [List.length_cons, List.length_append]; omega)) (hcx.load (by rw [ez9]; exact PcT.sy hts hpl.2.1 (by omega)) (Or.inr rfl))
      replace hw : pw D A s.heap H locs [wdP cs h r g tf ta pf na ma wa cf ca ef12 ea13 xf xa] := hw
      have lv15 := Int32.le_toInt v15
      have uv15 := Int32.toInt_lt v15
      refine lv_pop S.x S.b d_Mpg_makeStep_89 rfl ?_
      exact px_vret S hr hlk hAe hw (Nat.le_of_ble_eq_true rfl) (Nat.le_of_ble_eq_true rfl) (⟨ef12, ea13, rfl, (show (ef 60).toInt ≤ (ef12 60).toInt from by first | exact oz_7db54039c4 e17 | omega), (show (ef12 60).toInt ≤ (ef 60).toInt + wt from by first | with_reducible rfl | with_reducible assumption | omega), (show (ef12 64).toInt = (ef 64).toInt from by first | exact e18 | omega), (show (ef12 65).toInt = (ef 65).toInt from by first | exact e19 | omega), (show CdK ea ea13 (ef 60).toInt from hcd), (show SgQ X9 (ea13 61) (ef 60).toInt (ef12 60).toInt fi S9 (0 :: S9) lv9 from (hsg.tq (by omega) (by omega) rfl))⟩) d_Mpg_makeStep_90
    · have nc8 : z7.toInt = (4 : Int) := (i_eq (x := z7) (y := 4)).mp c8
      refine lv_aload_n S.x S.b d_Mpg_makeStep_47 rfl (lv_at hl 2 rfl) ?_
      refine lv_aload_n S.x S.b d_Mpg_makeStep_48 rfl (lv_at hl 2 rfl) ?_
      refine px_get S k_Mpg hT hw 0 0 17 (v := .ref (r 17)) rfl rfl rfl (by decide) m10_1 d_Mpg_makeStep_49 ?_
      refine lv_iload_n S.x S.b d_Mpg_makeStep_52 rfl (lv_at hl 1 rfl) ?_
      refine px_iald S hT hw 0 13 (n := 2100) (f := (na 17)) rfl gp_17 (x := z1) (vp_in_iff.mpr (by constructor <;> omega)) d_Mpg_makeStep_53 ?_
      refine lv_topi (fun z21 ez21 => ?_)
      have lz21 := Int32.le_toInt z21
      have uz21 := Int32.toInt_lt z21
      obtain ⟨hmk_z21, hsy4⟩ := PlB.ix hts hpl (by omega) ez21; have hec_z21 := hmk_z21.ec; have hrg_z21 := EcV.rng hec_z21; have hnn_z21 := hmk_z21.nn
      refine px_callv (pr := []) (px_runV (As := [.int z21]) (rest := []) S (hLK ma0 ys ns nf (wt - 1 - 1) V vl vh X9 fi S9 lv9 bh h r g tf ta pf na ma wa cf ca xf xa ef ea z21 (show (pf 13).toInt ≤ 2100 from by first | exact g0 | omega) (show (tf 6).toInt ≤ 2049 from by first | exact g1 | omega) (show (cf 38).toInt = nf from by first | exact g2 | omega) (show 0 ≤ nf from by first | exact g3 | omega) (show 0 ≤ (ef 60).toInt from by first | exact g4 | omega) (show (ef 60).toInt + (wt - 1 - 1) ≤ 7000 from by first | exact oz_dcd8ea39e2 g5 | omega) (show (S9.length : Int) + bh ≤ X9.tall fi from by first | exact g6 | omega) htk (FnT.eq hft (by omega)) hfp han hts hcx hmk_z21 _) hT (pr := []) (pcs := [wdP cs h r g tf ta pf na ma wa cf ca ef ea xf xa]) hw (oX_call (P := (fun A U H => (oP A g U H))) (pr := []) oG_P hw hA hP) (px_recv hT hw 0 0 rfl rfl rfl) m13_90 m13_87 m13_89 ms_14_3 m1_21 q_Mpg_make2 ⟨show (2 * d + 10) + 1 ≤ (2 * d + 11) from by first | with_reducible rfl | with_reducible assumption | omega, show 8 + (8 + 11) + (120 * d + 320) ≤ (120 * d + 380) from by first | with_reducible rfl | with_reducible assumption | omega⟩ hl.1 rfl (Nat.le_of_ble_eq_true rfl) d_Mpg_makeStep_54 ⟨Nat.le_of_ble_eq_true rfl, Nat.le_of_ble_eq_true rfl⟩) hw hA (fun p26 H locs hp26 hw => ?_)
      obtain ⟨ef24, ea25, rfl, e28, e29, e30, e31, e32, e33⟩ := hp26
      replace e28 : (ef 60).toInt ≤ (ef24 60).toInt := e28
      replace e29 : (ef24 60).toInt ≤ (ef 60).toInt + (wt - 1 - 1) := e29
      replace e30 : (ef24 64).toInt = (ef 64).toInt := e30
      replace e31 : (ef24 65).toInt = (ef 65).toInt := e31
      replace e32 : CdK ea ea25 (ef 60).toInt := e32
      have hcd := hcd.tr e32 (by omega)
      replace e33 : SgQ X9 (ea25 61) (ef 60).toInt (ef24 60).toInt fi S9 (0 :: S9) lv9 := e33
      have hsg := hsg.ap e32 e33 (by omega)
      replace hw : pw D A s.heap H locs [wdP cs h r g tf ta pf na ma wa cf ca ef24 ea25 xf xa] := hw
      refine lv_aload_n S.x S.b d_Mpg_makeStep_57 rfl (lv_at hl 2 rfl) ?_
      refine lv_bipush (v := 9) S.x S.b d_Mpg_makeStep_58 (by decide) ?_
      refine lv_aload_n S.x S.b d_Mpg_makeStep_60 rfl (lv_at hl 2 rfl) ?_
      refine px_get S k_Mpg hT hw 0 0 18 (v := .ref (r 18)) rfl rfl rfl (by decide) m10_3 d_Mpg_makeStep_61 ?_
      refine lv_iload_n S.x S.b d_Mpg_makeStep_64 rfl (lv_at hl 1 rfl) ?_
      refine px_iald S hT hw 0 14 (n := 2100) (f := (ma 18)) rfl gp_18 (x := z1) (vp_in_iff.mpr (by constructor <;> omega)) d_Mpg_makeStep_65 ?_
      refine lv_topi (fun z34 ez34 => ?_)
      have lz34 := Int32.le_toInt z34
      have uz34 := Int32.toInt_lt z34
      have rz34 : z34.toInt = (ma 18 z1.toNatClampNeg).toInt := by rw [ez34]
      refine lv_iload S.x S.b d_Mpg_makeStep_66 (lv_at hl 0 rfl) ?_
      refine px_calli (pr := []) (px_runV (As := [.int 9, .int z34, .int z6]) (rest := []) S (c_mp_emit l D cs h r g tf ta pf na ma wa cf ca xf xa ef24 ea25 9 z34 z6  (show 0 ≤ (ef24 60).toInt from by first | exact oz_16d7fa9f32 e28 g4 | omega) (show (ef24 60).toInt < 7000 from by first | exact oz_edfa6af01b e29 g5 | omega) _) hT (pr := []) (pcs := [wdP cs h r g tf ta pf na ma wa cf ca ef24 ea25 xf xa]) hw px_X.tt (px_recv hT hw 0 0 rfl rfl rfl) m13_86 m13_83 m13_85 ms_14_2 m1_21 q_Mpg_emit ⟨show 0 + 1 ≤ (2 * d + 11) from by first | with_reducible rfl | with_reducible assumption | omega, show 8 + (4 + 11) + 0 ≤ (120 * d + 380) from by first | with_reducible rfl | with_reducible assumption | omega⟩ hl.1 rfl (Nat.le_of_ble_eq_true rfl) d_Mpg_makeStep_68 ⟨Nat.le_of_ble_eq_true rfl, Nat.le_of_ble_eq_true rfl⟩) hw hA (fun v40 p39 H locs hp39 hw => ?_)
      obtain ⟨ef37, ea38, rfl, e41, e42, e43, e44, e45⟩ := hp39
      replace e41 : v40.toInt = (ef24 60).toInt := e41
      replace e42 : (ef37 60).toInt = (ef24 60).toInt + 1 := e42
      replace e43 : (ef37 64).toInt = (ef24 64).toInt := e43
      replace e44 : (ef37 65).toInt = (ef24 65).toInt := e44
      replace e45 : EmU ea25 ea38 (ef24 60) (9 : Int32) z34 z6 := e45
      have hcd := hcd.tr e45.cd (by omega)
      have hsg := hsg.em e45 (by omega) rfl (by first | omega | (simp only [List.length_cons, List.length_append]; omega)) (hcx.elem (by rw [ez34]; exact hsy4) (Or.inr rfl))
      replace hw : pw D A s.heap H locs [wdP cs h r g tf ta pf na ma wa cf ca ef37 ea38 xf xa] := hw
      have lv40 := Int32.le_toInt v40
      have uv40 := Int32.toInt_lt v40
      refine lv_pop S.x S.b d_Mpg_makeStep_71 rfl ?_
      refine lv_goto (tgt := 90) S.x S.b d_Mpg_makeStep_72 (by decide) ?_
      exact px_vret S hr hlk hAe hw (Nat.le_of_ble_eq_true rfl) (Nat.le_of_ble_eq_true rfl) (⟨ef37, ea38, rfl, (show (ef 60).toInt ≤ (ef37 60).toInt from by first | exact oz_887c409de9 e28 e42 | omega), (show (ef37 60).toInt ≤ (ef 60).toInt + wt from by first | exact oz_b6fafccf18 e29 e42 | omega), (show (ef37 64).toInt = (ef 64).toInt from by first | exact oz_1687f4cc65 e30 e43 | omega), (show (ef37 65).toInt = (ef 65).toInt from by first | exact oz_1687f4cc65 e31 e44 | omega), (show CdK ea ea38 (ef 60).toInt from hcd), (show SgQ X9 (ea38 61) (ef 60).toInt (ef37 60).toInt fi S9 (0 :: S9) lv9 from (hsg.tq (by omega) (by omega) rfl))⟩) d_Mpg_makeStep_90
  · have nc5 : z4.toInt = (43 : Int) := (i_eq (x := z4) (y := 43)).mp c5
    refine lv_iconst (v := 1) S.x S.b d_Mpg_makeStep_29 (by decide) ?_
    refine lv_goto (tgt := 34) S.x S.b d_Mpg_makeStep_30 (by decide) ?_
    refine lv_iadd S.x S.b d_Mpg_makeStep_34 ?_
    refine lv_topi (fun z46 ez46 => ?_)
    have lz46 := Int32.le_toInt z46
    have uz46 := Int32.toInt_lt z46
    refine lv_istore (lv' := [(4, .int z46), (3, .int z1), (0, .ref h), (1, .int p0), (2, .int p1)]) S.x S.b d_Mpg_makeStep_35 hl (by decide) rfl (fun ls hl => ?_)
    refine lv_aload_n S.x S.b d_Mpg_makeStep_37 rfl (lv_at hl 2 rfl) ?_
    refine px_get S k_Mpg hT hw 0 0 14 (v := .ref (r 14)) rfl rfl rfl (by decide) m9_238 d_Mpg_makeStep_38 ?_
    refine lv_iload_n S.x S.b d_Mpg_makeStep_41 rfl (lv_at hl 1 rfl) ?_
    refine px_bald S hT hw 0 10 (n := 2100) (f := (na 14)) rfl gp_14 (x := z1) (vp_in_iff.mpr (by constructor <;> omega)) d_Mpg_makeStep_42 ?_
    refine lv_topi (fun z47 ez47 => ?_)
    have lz47 := Int32.le_toInt z47
    have uz47 := Int32.toInt_lt z47
    have rz47 := EcV.kd hec_z1 ez47
    refine lv_iconst (v := 4) S.x S.b d_Mpg_makeStep_43 (by decide) ?_
    refine lv_icmp_ne (tgt := 75) S.x S.b d_Mpg_makeStep_44 (by decide) (fun c48 => ?_) (fun c48 => ?_)
    · have nc48 : ¬ z47.toInt = (4 : Int) := mt (i_eq (x := z47) (y := 4)).mpr c48
      refine lv_aload_n S.x S.b d_Mpg_makeStep_75 rfl (lv_at hl 2 rfl) ?_
      refine lv_bipush (v := 8) S.x S.b d_Mpg_makeStep_76 (by decide) ?_
      refine lv_aload_n S.x S.b d_Mpg_makeStep_78 rfl (lv_at hl 2 rfl) ?_
      refine px_get S k_Mpg hT hw 0 0 18 (v := .ref (r 18)) rfl rfl rfl (by decide) m10_3 d_Mpg_makeStep_79 ?_
      refine lv_iload_n S.x S.b d_Mpg_makeStep_82 rfl (lv_at hl 1 rfl) ?_
      refine px_iald S hT hw 0 14 (n := 2100) (f := (ma 18)) rfl gp_18 (x := z1) (vp_in_iff.mpr (by constructor <;> omega)) d_Mpg_makeStep_83 ?_
      refine lv_topi (fun z49 ez49 => ?_)
      have lz49 := Int32.le_toInt z49
      have uz49 := Int32.toInt_lt z49
      have rz49 : z49.toInt = (ma 18 z1.toNatClampNeg).toInt := by rw [ez49]
      refine lv_iload S.x S.b d_Mpg_makeStep_84 (lv_at hl 0 rfl) ?_
      refine px_calli (pr := []) (px_runV (As := [.int 8, .int z49, .int z46]) (rest := []) S (c_mp_emit l D cs h r g tf ta pf na ma wa cf ca xf xa ef ea 8 z49 z46  (show 0 ≤ (ef 60).toInt from by first | exact g4 | omega) (show (ef 60).toInt < 7000 from by first | with_reducible rfl | with_reducible assumption | omega) _) hT (pr := []) (pcs := [wdP cs h r g tf ta pf na ma wa cf ca ef ea xf xa]) hw px_X.tt (px_recv hT hw 0 0 rfl rfl rfl) m13_86 m13_83 m13_85 ms_14_2 m1_21 q_Mpg_emit ⟨show 0 + 1 ≤ (2 * d + 11) from by first | with_reducible rfl | with_reducible assumption | omega, show 8 + (4 + 11) + 0 ≤ (120 * d + 380) from by first | with_reducible rfl | with_reducible assumption | omega⟩ hl.1 rfl (Nat.le_of_ble_eq_true rfl) d_Mpg_makeStep_86 ⟨Nat.le_of_ble_eq_true rfl, Nat.le_of_ble_eq_true rfl⟩) hw hA (fun v55 p54 H locs hp54 hw => ?_)
      obtain ⟨ef52, ea53, rfl, e56, e57, e58, e59, e60⟩ := hp54
      replace e56 : v55.toInt = (ef 60).toInt := e56
      replace e57 : (ef52 60).toInt = (ef 60).toInt + 1 := e57
      replace e58 : (ef52 64).toInt = (ef 64).toInt := e58
      replace e59 : (ef52 65).toInt = (ef 65).toInt := e59
      replace e60 : EmU ea ea53 (ef 60) (8 : Int32) z49 z46 := e60
      have hcd := hcd.tr e60.cd (by omega)
      have hsg := hsg.em e60 (by omega) rfl (by first | omega | (simp only [List.length_cons, List.length_append]; omega)) (hcx.load (by rw [ez49]; exact PcT.sy hts hpl.2.1 (by omega)) (Or.inr rfl))
      replace hw : pw D A s.heap H locs [wdP cs h r g tf ta pf na ma wa cf ca ef52 ea53 xf xa] := hw
      have lv55 := Int32.le_toInt v55
      have uv55 := Int32.toInt_lt v55
      refine lv_pop S.x S.b d_Mpg_makeStep_89 rfl ?_
      exact px_vret S hr hlk hAe hw (Nat.le_of_ble_eq_true rfl) (Nat.le_of_ble_eq_true rfl) (⟨ef52, ea53, rfl, (show (ef 60).toInt ≤ (ef52 60).toInt from by first | exact oz_7db54039c4 e57 | omega), (show (ef52 60).toInt ≤ (ef 60).toInt + wt from by first | with_reducible rfl | with_reducible assumption | omega), (show (ef52 64).toInt = (ef 64).toInt from by first | exact e58 | omega), (show (ef52 65).toInt = (ef 65).toInt from by first | exact e59 | omega), (show CdK ea ea53 (ef 60).toInt from hcd), (show SgQ X9 (ea53 61) (ef 60).toInt (ef52 60).toInt fi S9 (0 :: S9) lv9 from (hsg.tq (by omega) (by omega) rfl))⟩) d_Mpg_makeStep_90
    · have nc48 : z47.toInt = (4 : Int) := (i_eq (x := z47) (y := 4)).mp c48
      refine lv_aload_n S.x S.b d_Mpg_makeStep_47 rfl (lv_at hl 2 rfl) ?_
      refine lv_aload_n S.x S.b d_Mpg_makeStep_48 rfl (lv_at hl 2 rfl) ?_
      refine px_get S k_Mpg hT hw 0 0 17 (v := .ref (r 17)) rfl rfl rfl (by decide) m10_1 d_Mpg_makeStep_49 ?_
      refine lv_iload_n S.x S.b d_Mpg_makeStep_52 rfl (lv_at hl 1 rfl) ?_
      refine px_iald S hT hw 0 13 (n := 2100) (f := (na 17)) rfl gp_17 (x := z1) (vp_in_iff.mpr (by constructor <;> omega)) d_Mpg_makeStep_53 ?_
      refine lv_topi (fun z61 ez61 => ?_)
      have lz61 := Int32.le_toInt z61
      have uz61 := Int32.toInt_lt z61
      obtain ⟨hmk_z61, hsy4⟩ := PlB.ix hts hpl (by omega) ez61; have hec_z61 := hmk_z61.ec; have hrg_z61 := EcV.rng hec_z61; have hnn_z61 := hmk_z61.nn
      refine px_callv (pr := []) (px_runV (As := [.int z61]) (rest := []) S (hLK ma0 ys ns nf (wt - 1 - 1) V vl vh X9 fi S9 lv9 bh h r g tf ta pf na ma wa cf ca xf xa ef ea z61 (show (pf 13).toInt ≤ 2100 from by first | exact g0 | omega) (show (tf 6).toInt ≤ 2049 from by first | exact g1 | omega) (show (cf 38).toInt = nf from by first | exact g2 | omega) (show 0 ≤ nf from by first | exact g3 | omega) (show 0 ≤ (ef 60).toInt from by first | exact g4 | omega) (show (ef 60).toInt + (wt - 1 - 1) ≤ 7000 from by first | exact oz_dcd8ea39e2 g5 | omega) (show (S9.length : Int) + bh ≤ X9.tall fi from by first | exact g6 | omega) htk (FnT.eq hft (by omega)) hfp han hts hcx hmk_z61 _) hT (pr := []) (pcs := [wdP cs h r g tf ta pf na ma wa cf ca ef ea xf xa]) hw (oX_call (P := (fun A U H => (oP A g U H))) (pr := []) oG_P hw hA hP) (px_recv hT hw 0 0 rfl rfl rfl) m13_90 m13_87 m13_89 ms_14_3 m1_21 q_Mpg_make2 ⟨show (2 * d + 10) + 1 ≤ (2 * d + 11) from by first | with_reducible rfl | with_reducible assumption | omega, show 8 + (8 + 11) + (120 * d + 320) ≤ (120 * d + 380) from by first | with_reducible rfl | with_reducible assumption | omega⟩ hl.1 rfl (Nat.le_of_ble_eq_true rfl) d_Mpg_makeStep_54 ⟨Nat.le_of_ble_eq_true rfl, Nat.le_of_ble_eq_true rfl⟩) hw hA (fun p66 H locs hp66 hw => ?_)
      obtain ⟨ef64, ea65, rfl, e68, e69, e70, e71, e72, e73⟩ := hp66
      replace e68 : (ef 60).toInt ≤ (ef64 60).toInt := e68
      replace e69 : (ef64 60).toInt ≤ (ef 60).toInt + (wt - 1 - 1) := e69
      replace e70 : (ef64 64).toInt = (ef 64).toInt := e70
      replace e71 : (ef64 65).toInt = (ef 65).toInt := e71
      replace e72 : CdK ea ea65 (ef 60).toInt := e72
      have hcd := hcd.tr e72 (by omega)
      replace e73 : SgQ X9 (ea65 61) (ef 60).toInt (ef64 60).toInt fi S9 (0 :: S9) lv9 := e73
      have hsg := hsg.ap e72 e73 (by omega)
      replace hw : pw D A s.heap H locs [wdP cs h r g tf ta pf na ma wa cf ca ef64 ea65 xf xa] := hw
      refine lv_aload_n S.x S.b d_Mpg_makeStep_57 rfl (lv_at hl 2 rfl) ?_
      refine lv_bipush (v := 9) S.x S.b d_Mpg_makeStep_58 (by decide) ?_
      refine lv_aload_n S.x S.b d_Mpg_makeStep_60 rfl (lv_at hl 2 rfl) ?_
      refine px_get S k_Mpg hT hw 0 0 18 (v := .ref (r 18)) rfl rfl rfl (by decide) m10_3 d_Mpg_makeStep_61 ?_
      refine lv_iload_n S.x S.b d_Mpg_makeStep_64 rfl (lv_at hl 1 rfl) ?_
      refine px_iald S hT hw 0 14 (n := 2100) (f := (ma 18)) rfl gp_18 (x := z1) (vp_in_iff.mpr (by constructor <;> omega)) d_Mpg_makeStep_65 ?_
      refine lv_topi (fun z74 ez74 => ?_)
      have lz74 := Int32.le_toInt z74
      have uz74 := Int32.toInt_lt z74
      have rz74 : z74.toInt = (ma 18 z1.toNatClampNeg).toInt := by rw [ez74]
      refine lv_iload S.x S.b d_Mpg_makeStep_66 (lv_at hl 0 rfl) ?_
      refine px_calli (pr := []) (px_runV (As := [.int 9, .int z74, .int z46]) (rest := []) S (c_mp_emit l D cs h r g tf ta pf na ma wa cf ca xf xa ef64 ea65 9 z74 z46  (show 0 ≤ (ef64 60).toInt from by first | exact oz_16d7fa9f32 e68 g4 | omega) (show (ef64 60).toInt < 7000 from by first | exact oz_edfa6af01b e69 g5 | omega) _) hT (pr := []) (pcs := [wdP cs h r g tf ta pf na ma wa cf ca ef64 ea65 xf xa]) hw px_X.tt (px_recv hT hw 0 0 rfl rfl rfl) m13_86 m13_83 m13_85 ms_14_2 m1_21 q_Mpg_emit ⟨show 0 + 1 ≤ (2 * d + 11) from by first | with_reducible rfl | with_reducible assumption | omega, show 8 + (4 + 11) + 0 ≤ (120 * d + 380) from by first | with_reducible rfl | with_reducible assumption | omega⟩ hl.1 rfl (Nat.le_of_ble_eq_true rfl) d_Mpg_makeStep_68 ⟨Nat.le_of_ble_eq_true rfl, Nat.le_of_ble_eq_true rfl⟩) hw hA (fun v80 p79 H locs hp79 hw => ?_)
      obtain ⟨ef77, ea78, rfl, e81, e82, e83, e84, e85⟩ := hp79
      replace e81 : v80.toInt = (ef64 60).toInt := e81
      replace e82 : (ef77 60).toInt = (ef64 60).toInt + 1 := e82
      replace e83 : (ef77 64).toInt = (ef64 64).toInt := e83
      replace e84 : (ef77 65).toInt = (ef64 65).toInt := e84
      replace e85 : EmU ea65 ea78 (ef64 60) (9 : Int32) z74 z46 := e85
      have hcd := hcd.tr e85.cd (by omega)
      have hsg := hsg.em e85 (by omega) rfl (by first | omega | (simp only [List.length_cons, List.length_append]; omega)) (hcx.elem (by rw [ez74]; exact hsy4) (Or.inr rfl))
      replace hw : pw D A s.heap H locs [wdP cs h r g tf ta pf na ma wa cf ca ef77 ea78 xf xa] := hw
      have lv80 := Int32.le_toInt v80
      have uv80 := Int32.toInt_lt v80
      refine lv_pop S.x S.b d_Mpg_makeStep_71 rfl ?_
      refine lv_goto (tgt := 90) S.x S.b d_Mpg_makeStep_72 (by decide) ?_
      exact px_vret S hr hlk hAe hw (Nat.le_of_ble_eq_true rfl) (Nat.le_of_ble_eq_true rfl) (⟨ef77, ea78, rfl, (show (ef 60).toInt ≤ (ef77 60).toInt from by first | exact oz_887c409de9 e68 e82 | omega), (show (ef77 60).toInt ≤ (ef 60).toInt + wt from by first | exact oz_b6fafccf18 e69 e82 | omega), (show (ef77 64).toInt = (ef 64).toInt from by first | exact oz_1687f4cc65 e70 e83 | omega), (show (ef77 65).toInt = (ef 65).toInt from by first | exact oz_1687f4cc65 e71 e84 | omega), (show CdK ea ea78 (ef 60).toInt from hcd), (show SgQ X9 (ea78 61) (ef 60).toInt (ef77 60).toInt fi S9 (0 :: S9) lv9 from (hsg.tq (by omega) (by omega) rfl))⟩) d_Mpg_makeStep_90
set_option maxHeartbeats 4000000 in
set_option maxRecDepth 100000 in
theorem c_mp_mk1 (l : Launch) (D : va_G) (cs : Nat → ClassId) (ma0 : Nat → Nat → Int32) (ys : Int) (ns : Int) (nf : Int) (d : Nat) (wt : Int) (V : Nat → Nat → Prop) (vl : Int) (vh : Int) (X9 : Cx) (fi : Int) (S9 : List Nat) (lv9 : Nat) (bh : Int) (h : Nat) (r : Nat → Nat) (g : Nat → Nat → Option Nat) (tf : Nat → Int32) (ta : Nat → Nat → Int32) (pf : Nat → Int32) (na : Nat → Nat → Int32) (ma : Nat → Nat → Int32) (wa : Nat → Nat → Int32) (cf : Nat → Int32) (ca : Nat → Nat → Int32) (xf : Nat → Int32) (xa : Nat → Nat → Int32) (ef : Nat → Int32) (ea : Nat → Nat → Int32) (p0 : Int32)  (g0 : (pf 13).toInt ≤ 2100) (g1 : (tf 6).toInt ≤ 2049) (g2 : (cf 38).toInt = nf) (g3 : 0 ≤ nf) (g4 : 0 ≤ (ef 60).toInt) (g5 : (ef 60).toInt + wt ≤ 7000) (g6 : (S9.length : Int) + bh ≤ X9.tall fi) (htk : TkI tf ta) (hft : FnT (tf 6).toInt na ca (cf 38).toInt) (hfp : FnP na ca nf) (han : Ann na ma0 ma) (hts : Ts (Gk ta ca na ma0 ns ys nf) na ma vl vh V) (hcx : CxI X9 fi ca ns ys nf (tkl na ma0 ca)) (hmk : MkB ta (tf 6).toInt na ma0 ma ca V (d + 1) (pf 13).toInt wt bh p0) (hLK : MakC l D cs d) : MetV l y_Mpg_make2 b_Mpg_make2 8 D cs (2 * (d + 1) + 10) (120 * (d + 1) + 320) (0) (0) [.ref h, .int p0] [wdP cs h r g tf ta pf na ma wa cf ca ef ea xf xa] (oX (fun A U H => (oP A g U H)) [wdP cs h r g tf ta pf na ma wa cf ca ef ea xf xa]) (fun ps => ∃ (ef' : Nat → Int32) (ea' : Nat → Nat → Int32), (ps = [wdP cs h r g tf ta pf na ma wa cf ca ef' ea' xf xa]) ∧ ((ef 60).toInt ≤ (ef' 60).toInt) ∧ ((ef' 60).toInt ≤ (ef 60).toInt + wt) ∧ ((ef' 64).toInt = (ef 64).toInt) ∧ ((ef' 65).toInt = (ef 65).toInt) ∧ (CdK ea ea' (ef 60).toInt) ∧ (SgQ X9 (ea' 61) (ef 60).toInt (ef' 60).toInt fi S9 (0 :: S9) lv9)) := by
  refine px_enter (by decide) (Nat.le_of_ble_eq_true rfl) ?_
  intro p e s m below meth c A ls hAe S hr hlk hnm hA hT hX hw hl
  replace hl : lv_has ls 8 [(0, .ref h), (1, .int p0)] := hl
  have lp0 := Int32.le_toInt p0
  have up0 := Int32.toInt_lt p0
  have cstm1 : ((-1) : Int32).toInt = (-1) := rfl
  have cst0 : (0 : Int32).toInt = 0 := rfl
  have cst1 : (1 : Int32).toInt = 1 := rfl
  have cst2 : (2 : Int32).toInt = 2 := rfl
  have cst3 : (3 : Int32).toInt = 3 := rfl
  have cst4 : (4 : Int32).toInt = 4 := rfl
  have cst5 : (5 : Int32).toInt = 5 := rfl
  have cst6 : (6 : Int32).toInt = 6 := rfl
  have cst7 : (7 : Int32).toInt = 7 := rfl
  have cst10 : (10 : Int32).toInt = 10 := rfl
  have cst11 : (11 : Int32).toInt = 11 := rfl
  have cst12 : (12 : Int32).toInt = 12 := rfl
  have cst13 : (13 : Int32).toInt = 13 := rfl
  have cst14 : (14 : Int32).toInt = 14 := rfl
  have cst15 : (15 : Int32).toInt = 15 := rfl
  have cst16 : (16 : Int32).toInt = 16 := rfl
  have cst22 : (22 : Int32).toInt = 22 := rfl
  have cst100 : (100 : Int32).toInt = 100 := rfl
  have cst105 : (105 : Int32).toInt = 105 := rfl
  have hX : (fun A U H => (oP A g U H)) A s s.heap := by rw [hAe]; exact hX
  have hP := hX
  have hZ := hP.1
  have hF0 := hP.2.1
  have hf11 := hft.1
  have hec_p0 := hmk.ec
  have hrg := EcV.rng hec_p0
  have hnn := hmk.nn
  have hmk_p0 := hmk
  have hcd : CdK ea ea (ef 60).toInt := CdK.rf
  have hl1 : ((0 :: S9).length : Int) = S9.length + 1 := (by rw [List.length_cons]; omega)
  have hsg : SgQ X9 (ea 61) (ef 60).toInt (ef 60).toInt fi S9 S9 lv9 := sgq_0 (by omega)
  have J123 : ∀ (n_123 : Nat) (ef_123 : Nat → Int32) (ea_123 : Nat → Nat → Int32) (mid_123 : Int) (wr_123 : Int) (x123_2 x123_3 : Int32) (H : Heap) (locs : List Loc) (ls : Array Slot), (0 ≤ x123_2.toInt) → (x123_2.toInt + p0.toInt + 1 ≤ mid_123) → (mid_123 ≤ (pf 13).toInt) → ((ef 60).toInt ≤ (ef_123 60).toInt) → ((ef_123 60).toInt + wr_123 + 1 ≤ (ef 60).toInt + wt) → ((ef_123 64).toInt = (ef 64).toInt) → ((ef_123 65).toInt = (ef 65).toInt) → (CdK ea ea_123 (ef 60).toInt) → ((na 14 p0.toNatClampNeg).toInt = 3) → (ArB ta (tf 6).toInt na ma0 ma ca V d mid_123 (pf 13).toInt wr_123 bh nf (ma 18 p0.toNatClampNeg).toInt x123_2.toInt x123_3) → (SgQ X9 (ea_123 61) (ef 60).toInt (ef_123 60).toInt fi S9 (aslots (tkl na ma0 ca (ma 18 p0.toNatClampNeg).toInt) (x123_2.toInt).toNat ++ S9) lv9) → (pf 13).toInt - mid_123 < (n_123 : Int) → pw D A s.heap H locs [wdP cs h r g tf ta pf na ma wa cf ca ef_123 ea_123 xf xa] → lv_has ls 8 [(0, .ref h), (1, .int p0), (2, .int x123_2), (3, .int x123_3)] → W p l e { frames := (2 * (d + 1) + 10), cells := 0, slots := 0, locals := (120 * (d + 1) + 320) } s m [.ref h, .int p0].toArray below meth c H locs 0 0 (MQ below (va_Qv (fun ps => ∃ (ef' : Nat → Int32) (ea' : Nat → Nat → Int32), (ps = [wdP cs h r g tf ta pf na ma wa cf ca ef' ea' xf xa]) ∧ ((ef 60).toInt ≤ (ef' 60).toInt) ∧ ((ef' 60).toInt ≤ (ef 60).toInt + wt) ∧ ((ef' 64).toInt = (ef 64).toInt) ∧ ((ef' 65).toInt = (ef 65).toInt) ∧ (CdK ea ea' (ef 60).toInt) ∧ (SgQ X9 (ea' 61) (ef 60).toInt (ef' 60).toInt fi S9 (0 :: S9) lv9)) (pc_B D (va_A ([wdP cs h r g tf ta pf na ma wa cf ca ef ea xf xa] : List va_W).flatten s.heap.size)) (va_A ([wdP cs h r g tf ta pf na ma wa cf ca ef ea xf xa] : List va_W).flatten s.heap.size)) [.ref h, .int p0].toArray s 0 0 A) (F0 m 123 ls []) := by
    intro  n_123
    induction n_123 with
    | zero =>
      intro ef_123 ea_123 mid_123 wr_123 x123_2 x123_3 H locs ls k123_0 k123_1 k123_2 k123_3 k123_4 k123_5 k123_6 k123_7 k123_8 k123_9 k123_10 hm hw hl
      have lx123_2 := Int32.le_toInt x123_2
      have ux123_2 := Int32.toInt_lt x123_2
      have lx123_3 := Int32.le_toInt x123_3
      have ux123_3 := Int32.toInt_lt x123_3
      have hcd := k123_7
      have har := k123_9
      have hsg := k123_10
      exact absurd hm (by omega)
    | succ n_123 ih123 =>
      intro ef_123 ea_123 mid_123 wr_123 x123_2 x123_3 H locs ls k123_0 k123_1 k123_2 k123_3 k123_4 k123_5 k123_6 k123_7 k123_8 k123_9 k123_10 hm hw hl
      have lx123_2 := Int32.le_toInt x123_2
      have ux123_2 := Int32.toInt_lt x123_2
      have lx123_3 := Int32.le_toInt x123_3
      have ux123_3 := Int32.toInt_lt x123_3
      have hcd := k123_7
      have har := k123_9
      have hsg := k123_10
      refine lv_iload_n S.x S.b d_Mpg_make2_123 rfl (lv_at hl 3 rfl) ?_
      refine lv_if_lt (tgt := 212) S.x S.b d_Mpg_make2_124 (by decide) (fun c1 => ?_) (fun c1 => ?_)
      · have nc1 : x123_3.toInt < (0 : Int) := (i_lt (x := x123_3) (y := 0)).mp c1
        refine lv_aload_n S.x S.b d_Mpg_make2_212 rfl (lv_at hl 0 rfl) ?_
        have hfi := ArB.fin har (by omega); have hce := ArB.ce har; have hce1 := hce; unfold CeN at hce1; have hwp2 := ArB.wp har
        refine lv_aload_n S.x S.b d_Mpg_make2_213 rfl (lv_at hl 0 rfl) ?_
        refine px_get S k_Mpg hT hw 0 0 18 (v := .ref (r 18)) rfl rfl rfl (by decide) m10_3 d_Mpg_make2_214 ?_
        refine lv_iload_n S.x S.b d_Mpg_make2_217 rfl (lv_at hl 1 rfl) ?_
        refine px_iald S hT hw 0 14 (n := 2100) (f := (ma 18)) rfl gp_18 (x := p0) (vp_in_iff.mpr (by constructor <;> omega)) d_Mpg_make2_218 ?_
        refine lv_topi (fun z2 ez2 => ?_)
        have lz2 := Int32.le_toInt z2
        have uz2 := Int32.toInt_lt z2
        have rz2 : z2.toInt = (ma 18 p0.toNatClampNeg).toInt := by rw [ez2]
        refine lv_bipush (v := 100) S.x S.b d_Mpg_make2_219 (by decide) ?_
        refine lv_icmp_lt (tgt := 229) S.x S.b d_Mpg_make2_221 (by decide) (fun c3 => ?_) (fun c3 => ?_)
        · have nc3 : z2.toInt < (100 : Int) := (i_lt (x := z2) (y := 100)).mp c3
          refine lv_bipush (v := 16) S.x S.b d_Mpg_make2_229 (by decide) ?_
          refine lv_aload_n S.x S.b d_Mpg_make2_231 rfl (lv_at hl 0 rfl) ?_
          refine px_get S k_Mpg hT hw 0 0 18 (v := .ref (r 18)) rfl rfl rfl (by decide) m10_3 d_Mpg_make2_232 ?_
          refine lv_iload_n S.x S.b d_Mpg_make2_235 rfl (lv_at hl 1 rfl) ?_
          refine px_iald S hT hw 0 14 (n := 2100) (f := (ma 18)) rfl gp_18 (x := p0) (vp_in_iff.mpr (by constructor <;> omega)) d_Mpg_make2_236 ?_
          refine lv_topi (fun z4 ez4 => ?_)
          have lz4 := Int32.le_toInt z4
          have uz4 := Int32.toInt_lt z4
          have rz4 : z4.toInt = (ma 18 p0.toNatClampNeg).toInt := by rw [ez4]
          refine lv_bipush (v := 100) S.x S.b d_Mpg_make2_237 (by decide) ?_
          refine lv_icmp_lt (tgt := 254) S.x S.b d_Mpg_make2_239 (by decide) (fun c5 => ?_) (fun c5 => ?_)
          · have nc5 : z4.toInt < (100 : Int) := (i_lt (x := z4) (y := 100)).mp c5
            refine lv_aload_n S.x S.b d_Mpg_make2_254 rfl (lv_at hl 0 rfl) ?_
            refine px_get S k_Mpg hT hw 0 0 18 (v := .ref (r 18)) rfl rfl rfl (by decide) m10_3 d_Mpg_make2_255 ?_
            refine lv_iload_n S.x S.b d_Mpg_make2_258 rfl (lv_at hl 1 rfl) ?_
            refine px_iald S hT hw 0 14 (n := 2100) (f := (ma 18)) rfl gp_18 (x := p0) (vp_in_iff.mpr (by constructor <;> omega)) d_Mpg_make2_259 ?_
            refine lv_topi (fun z6 ez6 => ?_)
            have lz6 := Int32.le_toInt z6
            have uz6 := Int32.toInt_lt z6
            have rz6 : z6.toInt = (ma 18 p0.toNatClampNeg).toInt := by rw [ez6]
            refine lv_iconst (v := 0) S.x S.b d_Mpg_make2_260 (by decide) ?_
            refine px_calli (pr := []) (px_runV (As := [.int 16, .int z6, .int 0]) (rest := []) S (c_mp_emit l D cs h r g tf ta pf na ma wa cf ca xf xa ef_123 ea_123 16 z6 0  (show 0 ≤ (ef_123 60).toInt from by first | exact oz_16d7fa9f32 k123_3 g4 | omega) (show (ef_123 60).toInt < 7000 from by first | exact oz_b8fc81f128 k123_4 g5 hwp2 | omega) _) hT (pr := []) (pcs := [wdP cs h r g tf ta pf na ma wa cf ca ef_123 ea_123 xf xa]) hw px_X.tt (px_recv hT hw 0 0 rfl rfl rfl) m13_86 m13_83 m13_85 ms_14_2 m1_21 q_Mpg_emit ⟨show 0 + 1 ≤ (2 * (d + 1) + 10) from by first | with_reducible rfl | with_reducible assumption | omega, show 8 + (4 + 11) + 0 ≤ (120 * (d + 1) + 320) from by first | with_reducible rfl | with_reducible assumption | omega⟩ hl.1 rfl (Nat.le_of_ble_eq_true rfl) d_Mpg_make2_261 ⟨Nat.le_of_ble_eq_true rfl, Nat.le_of_ble_eq_true rfl⟩) hw hA (fun v12 p11 H locs hp11 hw => ?_)
            obtain ⟨ef9, ea10, rfl, e13, e14, e15, e16, e17⟩ := hp11
            replace e13 : v12.toInt = (ef_123 60).toInt := e13
            replace e14 : (ef9 60).toInt = (ef_123 60).toInt + 1 := e14
            replace e15 : (ef9 64).toInt = (ef_123 64).toInt := e15
            replace e16 : (ef9 65).toInt = (ef_123 65).toInt := e16
            replace e17 : EmU ea_123 ea10 (ef_123 60) (16 : Int32) z6 (0 : Int32) := e17
            have hcd := hcd.tr e17.cd (by omega)
            have hsg := hsg.em e17 (by omega) rfl (by first | omega | (simp only [List.length_cons, List.length_append]; omega)) (hcx.own ⟨hfi.1, hfi.2.1⟩ rfl (by omega) hce (by omega))
            replace hw : pw D A s.heap H locs [wdP cs h r g tf ta pf na ma wa cf ca ef9 ea10 xf xa] := hw
            have lv12 := Int32.le_toInt v12
            have uv12 := Int32.toInt_lt v12
            refine lv_pop S.x S.b d_Mpg_make2_264 rfl ?_
            refine lv_goto (tgt := 772) S.x S.b d_Mpg_make2_265 (by decide) ?_
            exact px_vret S hr hlk hAe hw (Nat.le_of_ble_eq_true rfl) (Nat.le_of_ble_eq_true rfl) (⟨ef9, ea10, rfl, (show (ef 60).toInt ≤ (ef9 60).toInt from by first | exact oz_887c409de9 k123_3 e14 | omega), (show (ef9 60).toInt ≤ (ef 60).toInt + wt from by first | exact oz_0e1976b1ec k123_4 e14 hwp2 | omega), (show (ef9 64).toInt = (ef 64).toInt from by first | exact oz_1687f4cc65 k123_5 e15 | omega), (show (ef9 65).toInt = (ef 65).toInt from by first | exact oz_1687f4cc65 k123_6 e16 | omega), (show CdK ea ea10 (ef 60).toInt from hcd), (show SgQ X9 (ea10 61) (ef 60).toInt (ef9 60).toInt fi S9 (0 :: S9) lv9 from (hsg.tq (by omega) (by omega) rfl))⟩) d_Mpg_make2_772
          · have nc5 : ¬ z4.toInt < (100 : Int) := mt (i_lt (x := z4) (y := 100)).mpr c5
            exfalso
            omega
        · have nc3 : ¬ z2.toInt < (100 : Int) := mt (i_lt (x := z2) (y := 100)).mpr c3
          refine lv_bipush (v := 15) S.x S.b d_Mpg_make2_224 (by decide) ?_
          refine lv_goto (tgt := 231) S.x S.b d_Mpg_make2_226 (by decide) ?_
          refine lv_aload_n S.x S.b d_Mpg_make2_231 rfl (lv_at hl 0 rfl) ?_
          refine px_get S k_Mpg hT hw 0 0 18 (v := .ref (r 18)) rfl rfl rfl (by decide) m10_3 d_Mpg_make2_232 ?_
          refine lv_iload_n S.x S.b d_Mpg_make2_235 rfl (lv_at hl 1 rfl) ?_
          refine px_iald S hT hw 0 14 (n := 2100) (f := (ma 18)) rfl gp_18 (x := p0) (vp_in_iff.mpr (by constructor <;> omega)) d_Mpg_make2_236 ?_
          refine lv_topi (fun z18 ez18 => ?_)
          have lz18 := Int32.le_toInt z18
          have uz18 := Int32.toInt_lt z18
          have rz18 : z18.toInt = (ma 18 p0.toNatClampNeg).toInt := by rw [ez18]
          refine lv_bipush (v := 100) S.x S.b d_Mpg_make2_237 (by decide) ?_
          refine lv_icmp_lt (tgt := 254) S.x S.b d_Mpg_make2_239 (by decide) (fun c19 => ?_) (fun c19 => ?_)
          · have nc19 : z18.toInt < (100 : Int) := (i_lt (x := z18) (y := 100)).mp c19
            exfalso
            omega
          · have nc19 : ¬ z18.toInt < (100 : Int) := mt (i_lt (x := z18) (y := 100)).mpr c19
            refine lv_aload_n S.x S.b d_Mpg_make2_242 rfl (lv_at hl 0 rfl) ?_
            refine px_get S k_Mpg hT hw 0 0 18 (v := .ref (r 18)) rfl rfl rfl (by decide) m10_3 d_Mpg_make2_243 ?_
            refine lv_iload_n S.x S.b d_Mpg_make2_246 rfl (lv_at hl 1 rfl) ?_
            refine px_iald S hT hw 0 14 (n := 2100) (f := (ma 18)) rfl gp_18 (x := p0) (vp_in_iff.mpr (by constructor <;> omega)) d_Mpg_make2_247 ?_
            refine lv_topi (fun z20 ez20 => ?_)
            have lz20 := Int32.le_toInt z20
            have uz20 := Int32.toInt_lt z20
            have rz20 : z20.toInt = (ma 18 p0.toNatClampNeg).toInt := by rw [ez20]
            refine lv_bipush (v := 100) S.x S.b d_Mpg_make2_248 (by decide) ?_
            refine lv_isub S.x S.b d_Mpg_make2_250 ?_
            refine lv_topi (fun z21 ez21 => ?_)
            have tz21 : z21.toInt = (z20.toInt - (100 : Int) + 2147483648) % 4294967296 - 2147483648 := by rw [ez21]; exact i_sub z20 100
            have lz21 := Int32.le_toInt z21
            have uz21 := Int32.toInt_lt z21
            try replace tz21 : z21.toInt = z20.toInt - (100 : Int) := by omega
            refine lv_goto (tgt := 260) S.x S.b d_Mpg_make2_251 (by decide) ?_
            refine lv_iconst (v := 0) S.x S.b d_Mpg_make2_260 (by decide) ?_
            refine px_calli (pr := []) (px_runV (As := [.int 15, .int z21, .int 0]) (rest := []) S (c_mp_emit l D cs h r g tf ta pf na ma wa cf ca xf xa ef_123 ea_123 15 z21 0  (show 0 ≤ (ef_123 60).toInt from by first | exact oz_16d7fa9f32 k123_3 g4 | omega) (show (ef_123 60).toInt < 7000 from by first | exact oz_b8fc81f128 k123_4 g5 hwp2 | omega) _) hT (pr := []) (pcs := [wdP cs h r g tf ta pf na ma wa cf ca ef_123 ea_123 xf xa]) hw px_X.tt (px_recv hT hw 0 0 rfl rfl rfl) m13_86 m13_83 m13_85 ms_14_2 m1_21 q_Mpg_emit ⟨show 0 + 1 ≤ (2 * (d + 1) + 10) from by first | with_reducible rfl | with_reducible assumption | omega, show 8 + (4 + 11) + 0 ≤ (120 * (d + 1) + 320) from by first | with_reducible rfl | with_reducible assumption | omega⟩ hl.1 rfl (Nat.le_of_ble_eq_true rfl) d_Mpg_make2_261 ⟨Nat.le_of_ble_eq_true rfl, Nat.le_of_ble_eq_true rfl⟩) hw hA (fun v27 p26 H locs hp26 hw => ?_)
            obtain ⟨ef24, ea25, rfl, e28, e29, e30, e31, e32⟩ := hp26
            replace e28 : v27.toInt = (ef_123 60).toInt := e28
            replace e29 : (ef24 60).toInt = (ef_123 60).toInt + 1 := e29
            replace e30 : (ef24 64).toInt = (ef_123 64).toInt := e30
            replace e31 : (ef24 65).toInt = (ef_123 65).toInt := e31
            replace e32 : EmU ea_123 ea25 (ef_123 60) (15 : Int32) z21 (0 : Int32) := e32
            have hcd := hcd.tr e32.cd (by omega)
            have hsg := hsg.call e32 (by omega) rfl (by first | omega | (simp only [List.length_cons, List.length_append]; omega)) rfl (by rw [hcx.2.2.2.1]; omega) (by rw [show 100 + z21.toInt = (ma 18 p0.toNatClampNeg).toInt by omega]; exact hcx.arc ⟨hfi.1, hfi.2.1⟩)
            replace hw : pw D A s.heap H locs [wdP cs h r g tf ta pf na ma wa cf ca ef24 ea25 xf xa] := hw
            have lv27 := Int32.le_toInt v27
            have uv27 := Int32.toInt_lt v27
            refine lv_pop S.x S.b d_Mpg_make2_264 rfl ?_
            refine lv_goto (tgt := 772) S.x S.b d_Mpg_make2_265 (by decide) ?_
            exact px_vret S hr hlk hAe hw (Nat.le_of_ble_eq_true rfl) (Nat.le_of_ble_eq_true rfl) (⟨ef24, ea25, rfl, (show (ef 60).toInt ≤ (ef24 60).toInt from by first | exact oz_887c409de9 k123_3 e29 | omega), (show (ef24 60).toInt ≤ (ef 60).toInt + wt from by first | exact oz_0e1976b1ec k123_4 e29 hwp2 | omega), (show (ef24 64).toInt = (ef 64).toInt from by first | exact oz_1687f4cc65 k123_5 e30 | omega), (show (ef24 65).toInt = (ef 65).toInt from by first | exact oz_1687f4cc65 k123_6 e31 | omega), (show CdK ea ea25 (ef 60).toInt from hcd), (show SgQ X9 (ea25 61) (ef 60).toInt (ef24 60).toInt fi S9 (0 :: S9) lv9 from (hsg.tq (by omega) (by omega) rfl))⟩) d_Mpg_make2_772
      · have nc1 : ¬ x123_3.toInt < (0 : Int) := mt (i_lt (x := x123_3) (y := 0)).mpr c1
        refine lv_aload_n S.x S.b d_Mpg_make2_127 rfl (lv_at hl 0 rfl) ?_
        obtain ⟨md33, wa34, hm_md33, hmf_md33, hsf_md33, har2, hec_x123_3, hwa1, hwa2, hln⟩ := ArB.go hts har (by omega) (k' := x123_2.toInt + 1) rfl; have hrg_x123_3 := EcV.rng hec_x123_3; have hce := ArB.ce har; have hce1 := hce; unfold CeN at hce1; have hwp2 := ArB.wp har2; have hlap : ((aslots (tkl na ma0 ca (ma 18 p0.toNatClampNeg).toInt) (x123_2.toInt).toNat ++ S9).length : Int) = (aslots (tkl na ma0 ca (ma 18 p0.toNatClampNeg).toInt) (x123_2.toInt).toNat).length + S9.length := (by rw [List.length_append]; omega)
        refine px_get S k_Mpg hT hw 0 0 18 (v := .ref (r 18)) rfl rfl rfl (by decide) m10_3 d_Mpg_make2_128 ?_
        refine lv_iload_n S.x S.b d_Mpg_make2_131 rfl (lv_at hl 1 rfl) ?_
        refine px_iald S hT hw 0 14 (n := 2100) (f := (ma 18)) rfl gp_18 (x := p0) (vp_in_iff.mpr (by constructor <;> omega)) d_Mpg_make2_132 ?_
        refine lv_topi (fun z35 ez35 => ?_)
        have lz35 := Int32.le_toInt z35
        have uz35 := Int32.toInt_lt z35
        have rz35 : z35.toInt = (ma 18 p0.toNatClampNeg).toInt := by rw [ez35]
        refine lv_bipush (v := 100) S.x S.b d_Mpg_make2_133 (by decide) ?_
        refine lv_icmp_lt (tgt := 156) S.x S.b d_Mpg_make2_135 (by decide) (fun c36 => ?_) (fun c36 => ?_)
        · have nc36 : z35.toInt < (100 : Int) := (i_lt (x := z35) (y := 100)).mp c36
          refine lv_aload_n S.x S.b d_Mpg_make2_156 rfl (lv_at hl 0 rfl) ?_
          refine lv_iconst (v := (-1)) S.x S.b d_Mpg_make2_157 (by decide) ?_
          refine lv_aload_n S.x S.b d_Mpg_make2_158 rfl (lv_at hl 0 rfl) ?_
          refine px_get S k_Mpg hT hw 0 0 18 (v := .ref (r 18)) rfl rfl rfl (by decide) m10_3 d_Mpg_make2_159 ?_
          refine lv_iload_n S.x S.b d_Mpg_make2_162 rfl (lv_at hl 1 rfl) ?_
          refine px_iald S hT hw 0 14 (n := 2100) (f := (ma 18)) rfl gp_18 (x := p0) (vp_in_iff.mpr (by constructor <;> omega)) d_Mpg_make2_163 ?_
          refine lv_topi (fun z37 ez37 => ?_)
          have lz37 := Int32.le_toInt z37
          have uz37 := Int32.toInt_lt z37
          have rz37 : z37.toInt = (ma 18 p0.toNatClampNeg).toInt := by rw [ez37]
          refine lv_iload_n S.x S.b d_Mpg_make2_164 rfl (lv_at hl 2 rfl) ?_
          refine px_calli (pr := []) (px_runV (As := [.int (-1), .int z37, .int x123_2]) (rest := []) S (c_mp_taken l D cs h r g tf ta pf na ma wa cf ca ef_123 ea_123 xf xa (-1) z37 x123_2  (show -1 ≤ (-1 : Int) from by first | decide | omega) (show (-1 : Int) < (cf 38).toInt from by first | exact oz_7f6cba95dd g2 g3 | omega) (show (-1 : Int) < 0 → 0 ≤ z37.toInt ∧ z37.toInt < 10 from by first | with_reducible rfl | with_reducible assumption | omega) (show 0 ≤ x123_2.toInt from by first | exact k123_0 | omega) (show x123_2.toInt ≤ 4000 from by first | with_reducible rfl | with_reducible assumption | omega) (show 0 ≤ (cf 38).toInt from by first | exact oz_f3ebed1ad0 g2 g3 | omega) htk (FnT.eq hft (by omega)) (FnP.eq hfp (by omega)) _) hT (pr := []) (pcs := [wdP cs h r g tf ta pf na ma wa cf ca ef_123 ea_123 xf xa]) hw (oX_call (P := (fun A U H => (oP A g U H))) (pr := []) oG_P hw hA hP) (px_recv hT hw 0 0 rfl rfl rfl) m12_229 m12_226 m12_228 ms_12_10 m1_21 q_Mpg_taken ⟨show 4 + 1 ≤ (2 * (d + 1) + 10) from by first | with_reducible rfl | with_reducible assumption | omega, show 8 + (6 + 11) + 140 ≤ (120 * (d + 1) + 320) from by first | with_reducible rfl | with_reducible assumption | omega⟩ hl.1 rfl (Nat.le_of_ble_eq_true rfl) d_Mpg_make2_165 ⟨Nat.le_of_ble_eq_true rfl, Nat.le_of_ble_eq_true rfl⟩) hw hA (fun v39 p38 H locs hp38 hw => ?_)
          obtain ⟨rfl, e40⟩ := hp38
          replace e40 : TkV na ma ca (-1 : Int) z37.toInt x123_2.toInt v39.toInt := e40
          replace hw : pw D A s.heap H locs [wdP cs h r g tf ta pf na ma wa cf ca ef_123 ea_123 xf xa] := hw
          have lv39 := Int32.le_toInt v39
          have uv39 := Int32.toInt_lt v39
          have hcd_165 : cod (-1 : Int) z37.toInt = (ma 18 p0.toNatClampNeg).toInt := (by unfold cod; first | (rw [if_pos (by omega)]; omega) | (rw [if_neg (by omega)]; omega)); have hcn_165 : CeN nf (cod (-1 : Int) z37.toInt) := (by rw [hcd_165]; exact hce); have htv_165 := tkv_at (ta := ta) (ns := ns) (ys := ys) e40 han hfp hcn_165; have htg_165 := tkv_rng e40 hcn_165; rw [hcd_165] at htv_165
          refine lv_istore (lv' := [(4, .int v39), (0, .ref h), (1, .int p0), (2, .int x123_2), (3, .int x123_3)]) S.x S.b d_Mpg_make2_168 hl (by decide) rfl (fun ls hl => ?_)
          refine lv_iload S.x S.b d_Mpg_make2_170 (lv_at hl 0 rfl) ?_
          refine lv_bipush (v := 105) S.x S.b d_Mpg_make2_172 (by decide) ?_
          refine lv_icmp_ne (tgt := 185) S.x S.b d_Mpg_make2_174 (by decide) (fun c41 => ?_) (fun c41 => ?_)
          · have nc41 : ¬ v39.toInt = (105 : Int) := mt (i_eq (x := v39) (y := 105)).mpr c41
            refine lv_aload_n S.x S.b d_Mpg_make2_185 rfl (lv_at hl 1 rfl) ?_
            refine lv_bipush (v := 22) S.x S.b d_Mpg_make2_186 (by decide) ?_
            refine lv_aload_n S.x S.b d_Mpg_make2_188 rfl (lv_at hl 1 rfl) ?_
            refine px_get S k_Mpg hT hw 0 0 18 (v := .ref (r 18)) rfl rfl rfl (by decide) m10_3 d_Mpg_make2_189 ?_
            refine lv_iload_n S.x S.b d_Mpg_make2_192 rfl (lv_at hl 4 rfl) ?_
            refine px_iald S hT hw 0 14 (n := 2100) (f := (ma 18)) rfl gp_18 (x := x123_3) (vp_in_iff.mpr (by first | exact oz_e6f6ba9544 nc1 hrg_x123_3.2.1 g0 | (constructor <;> omega))) d_Mpg_make2_193 ?_
            refine lv_topi (fun z42 ez42 => ?_)
            have lz42 := Int32.le_toInt z42
            have uz42 := Int32.toInt_lt z42
            have rz42 : z42.toInt = (ma 18 x123_3.toNatClampNeg).toInt := by rw [ez42]
            refine lv_iconst (v := 0) S.x S.b d_Mpg_make2_194 (by decide) ?_
            refine px_calli (pr := []) (px_runV (As := [.int 22, .int z42, .int 0]) (rest := []) S (c_mp_emit l D cs h r g tf ta pf na ma wa cf ca xf xa ef_123 ea_123 22 z42 0  (show 0 ≤ (ef_123 60).toInt from by first | exact oz_16d7fa9f32 k123_3 g4 | omega) (show (ef_123 60).toInt < 7000 from by first | with_reducible rfl | with_reducible assumption | omega) _) hT (pr := []) (pcs := [wdP cs h r g tf ta pf na ma wa cf ca ef_123 ea_123 xf xa]) hw px_X.tt (px_recv hT hw 0 0 rfl rfl rfl) m13_86 m13_83 m13_85 ms_14_2 m1_21 q_Mpg_emit ⟨show 0 + 1 ≤ (2 * (d + 1) + 10) from by first | with_reducible rfl | with_reducible assumption | omega, show 8 + (4 + 11) + 0 ≤ (120 * (d + 1) + 320) from by first | with_reducible rfl | with_reducible assumption | omega⟩ hl.1 rfl (Nat.le_of_ble_eq_true rfl) d_Mpg_make2_195 ⟨Nat.le_of_ble_eq_true rfl, Nat.le_of_ble_eq_true rfl⟩) hw hA (fun v48 p47 H locs hp47 hw => ?_)
            obtain ⟨ef45, ea46, rfl, e49, e50, e51, e52, e53⟩ := hp47
            replace e49 : v48.toInt = (ef_123 60).toInt := e49
            replace e50 : (ef45 60).toInt = (ef_123 60).toInt + 1 := e50
            replace e51 : (ef45 64).toInt = (ef_123 64).toInt := e51
            replace e52 : (ef45 65).toInt = (ef_123 65).toInt := e52
            replace e53 : EmU ea_123 ea46 (ef_123 60) (22 : Int32) z42 (0 : Int32) := e53
            have hcd := hcd.tr e53.cd (by omega)
            have hsy3 := hsf_md33 (fun q => absurd (htv_165.trans q) (by omega)); have hsg := hsg.em e53 (by omega) rfl (by first | omega | (simp only [List.length_cons, List.length_append]; omega)) (hcx.array (by rw [ez42]; exact hsy3.1) rfl)
            replace hw : pw D A s.heap H locs [wdP cs h r g tf ta pf na ma wa cf ca ef45 ea46 xf xa] := hw
            have lv48 := Int32.le_toInt v48
            have uv48 := Int32.toInt_lt v48
            refine lv_pop S.x S.b d_Mpg_make2_198 rfl ?_
            obtain ⟨z54, ez54⟩ : ∃ y : Int32, y = x123_2 + 1 := ⟨_, rfl⟩
            have tz54 : z54.toInt = (x123_2.toInt + 1 + 2147483648) % 4294967296 - 2147483648 := by rw [ez54]; exact i_add x123_2 1
            have lz54 := Int32.le_toInt z54
            have uz54 := Int32.toInt_lt z54
            try replace tz54 : z54.toInt = x123_2.toInt + 1 := by omega
            refine lv_iinc (v := z54) (lv' := [(2, .int z54), (4, .int v39), (0, .ref h), (1, .int p0), (3, .int x123_3)]) S.x S.b d_Mpg_make2_199 hl (k := 3) rfl (by rw [ez54]; rfl) (by decide) rfl (fun ls hl => ?_)
            refine lv_aload_n S.x S.b d_Mpg_make2_202 rfl (lv_at hl 2 rfl) ?_
            refine px_get S k_Mpg hT hw 0 0 21 (v := .ref (r 21)) rfl rfl rfl (by decide) m10_7 d_Mpg_make2_203 ?_
            refine lv_iload_n S.x S.b d_Mpg_make2_206 rfl (lv_at hl 4 rfl) ?_
            refine px_iald S hT hw 0 17 (n := 2100) (f := (na 21)) rfl gp_21 (x := x123_3) (vp_in_iff.mpr (by first | exact oz_e6f6ba9544 nc1 hrg_x123_3.2.1 g0 | (constructor <;> omega))) d_Mpg_make2_207 ?_
            refine lv_topi (fun z55 ez55 => ?_)
            have lz55 := Int32.le_toInt z55
            have uz55 := Int32.toInt_lt z55
            refine lv_istore_n (lv' := [(3, .int z55), (2, .int z54), (4, .int v39), (0, .ref h), (1, .int p0)]) S.x S.b d_Mpg_make2_208 rfl hl (by decide) rfl (fun ls hl => ?_)
            refine lv_goto (tgt := 123) S.x S.b d_Mpg_make2_209 (by decide) ?_
            exact ih123 ef45 ea46 md33 (wr_123 - wa34) z54 z55 _ _ ls (show 0 ≤ z54.toInt from by first | exact oz_ae613611c0 tz54 k123_0 | omega) (show z54.toInt + p0.toInt + 1 ≤ md33 from by first | exact oz_e7dfbedcfe k123_1 hm_md33.2.2.2 tz54 hm_md33.2.2.1 | omega) (show md33 ≤ (pf 13).toInt from by first | exact oz_fdad9fdf0a hm_md33.2.1 | omega) (show (ef 60).toInt ≤ (ef45 60).toInt from by first | exact oz_887c409de9 k123_3 e50 | omega) (show (ef45 60).toInt + (wr_123 - wa34) + 1 ≤ (ef 60).toInt + wt from by first | with_reducible rfl | with_reducible assumption | omega) (show (ef45 64).toInt = (ef 64).toInt from by first | exact oz_1687f4cc65 k123_5 e51 | omega) (show (ef45 65).toInt = (ef 65).toInt from by first | exact oz_1687f4cc65 k123_6 e52 | omega) (show CdK ea ea46 (ef 60).toInt from hcd) (show (na 14 p0.toNatClampNeg).toInt = 3 from by first | exact k123_8 | omega) (show ArB ta (tf 6).toInt na ma0 ma ca V d md33 (pf 13).toInt (wr_123 - wa34) bh nf (ma 18 p0.toNatClampNeg).toInt z54.toInt z55 from (by rw [ez55, show z54.toInt = x123_2.toInt + 1 by omega]; exact har2)) (show SgQ X9 (ea46 61) (ef 60).toInt (ef45 60).toInt fi S9 (aslots (tkl na ma0 ca (ma 18 p0.toNatClampNeg).toInt) (z54.toInt).toNat ++ S9) lv9 from (hsg.tq (by omega) (by omega) (aslots_a (fun q => absurd (htv_165.trans q) (by omega)) (by omega) (by omega)))) (show (pf 13).toInt - md33 < (n_123 : Int) from by first | exact oz_2b66180fc4 hm hm_md33.2.2.2 hm_md33.2.2.1 | omega) hw (lv_sub hl [3, 4, 1, 0] rfl)
          · have nc41 : v39.toInt = (105 : Int) := (i_eq (x := v39) (y := 105)).mp c41
            refine lv_aload_n S.x S.b d_Mpg_make2_177 rfl (lv_at hl 1 rfl) ?_
            refine lv_iload_n S.x S.b d_Mpg_make2_178 rfl (lv_at hl 4 rfl) ?_
            have hmk_x123_3 := hmf_md33 (htv_165.symm.trans (by omega)); have hnn_x123_3 := hmk_x123_3.nn
            refine px_callv (pr := []) (px_runV (As := [.int x123_3]) (rest := []) S (hLK ma0 ys ns nf wa34 V vl vh X9 fi (aslots (tkl na ma0 ca (ma 18 p0.toNatClampNeg).toInt) (x123_2.toInt).toNat ++ S9) lv9 (bh - ((aslots (tkl na ma0 ca (ma 18 p0.toNatClampNeg).toInt) (x123_2.toInt).toNat).length : Int)) h r g tf ta pf na ma wa cf ca xf xa ef_123 ea_123 x123_3 (show (pf 13).toInt ≤ 2100 from by first | exact g0 | omega) (show (tf 6).toInt ≤ 2049 from by first | exact g1 | omega) (show (cf 38).toInt = nf from by first | exact g2 | omega) (show 0 ≤ nf from by first | exact g3 | omega) (show 0 ≤ (ef_123 60).toInt from by first | exact oz_16d7fa9f32 k123_3 g4 | omega) (show (ef_123 60).toInt + wa34 ≤ 7000 from by first | exact oz_1681cdb94e k123_4 hwa2 g5 | omega) (show ((aslots (tkl na ma0 ca (ma 18 p0.toNatClampNeg).toInt) (x123_2.toInt).toNat ++ S9).length : Int) + (bh - ((aslots (tkl na ma0 ca (ma 18 p0.toNatClampNeg).toInt) (x123_2.toInt).toNat).length : Int)) ≤ X9.tall fi from by first | with_reducible rfl | with_reducible assumption | omega) htk (FnT.eq hft (by omega)) hfp han hts hcx hmk_x123_3 _) hT (pr := []) (pcs := [wdP cs h r g tf ta pf na ma wa cf ca ef_123 ea_123 xf xa]) hw (oX_call (P := (fun A U H => (oP A g U H))) (pr := []) oG_P hw hA hP) (px_recv hT hw 0 0 rfl rfl rfl) m13_90 m13_87 m13_89 ms_14_3 m1_21 q_Mpg_make2 ⟨show (2 * d + 10) + 1 ≤ (2 * (d + 1) + 10) from by first | with_reducible rfl | with_reducible assumption | omega, show 8 + (8 + 11) + (120 * d + 320) ≤ (120 * (d + 1) + 320) from by first | with_reducible rfl | with_reducible assumption | omega⟩ hl.1 rfl (Nat.le_of_ble_eq_true rfl) d_Mpg_make2_179 ⟨Nat.le_of_ble_eq_true rfl, Nat.le_of_ble_eq_true rfl⟩) hw hA (fun p60 H locs hp60 hw => ?_)
            obtain ⟨ef58, ea59, rfl, e62, e63, e64, e65, e66, e67⟩ := hp60
            replace e62 : (ef_123 60).toInt ≤ (ef58 60).toInt := e62
            replace e63 : (ef58 60).toInt ≤ (ef_123 60).toInt + wa34 := e63
            replace e64 : (ef58 64).toInt = (ef_123 64).toInt := e64
            replace e65 : (ef58 65).toInt = (ef_123 65).toInt := e65
            replace e66 : CdK ea_123 ea59 (ef_123 60).toInt := e66
            have hcd := hcd.tr e66 (by omega)
            replace e67 : SgQ X9 (ea59 61) (ef_123 60).toInt (ef58 60).toInt fi (aslots (tkl na ma0 ca (ma 18 p0.toNatClampNeg).toInt) (x123_2.toInt).toNat ++ S9) (0 :: (aslots (tkl na ma0 ca (ma 18 p0.toNatClampNeg).toInt) (x123_2.toInt).toNat ++ S9)) lv9 := e67
            have hsg := hsg.ap e66 e67 (by omega)
            replace hw : pw D A s.heap H locs [wdP cs h r g tf ta pf na ma wa cf ca ef58 ea59 xf xa] := hw
            refine lv_goto (tgt := 199) S.x S.b d_Mpg_make2_182 (by decide) ?_
            obtain ⟨z68, ez68⟩ : ∃ y : Int32, y = x123_2 + 1 := ⟨_, rfl⟩
            have tz68 : z68.toInt = (x123_2.toInt + 1 + 2147483648) % 4294967296 - 2147483648 := by rw [ez68]; exact i_add x123_2 1
            have lz68 := Int32.le_toInt z68
            have uz68 := Int32.toInt_lt z68
            try replace tz68 : z68.toInt = x123_2.toInt + 1 := by omega
            refine lv_iinc (v := z68) (lv' := [(2, .int z68), (4, .int v39), (0, .ref h), (1, .int p0), (3, .int x123_3)]) S.x S.b d_Mpg_make2_199 hl (k := 3) rfl (by rw [ez68]; rfl) (by decide) rfl (fun ls hl => ?_)
            refine lv_aload_n S.x S.b d_Mpg_make2_202 rfl (lv_at hl 2 rfl) ?_
            refine px_get S k_Mpg hT hw 0 0 21 (v := .ref (r 21)) rfl rfl rfl (by decide) m10_7 d_Mpg_make2_203 ?_
            refine lv_iload_n S.x S.b d_Mpg_make2_206 rfl (lv_at hl 4 rfl) ?_
            refine px_iald S hT hw 0 17 (n := 2100) (f := (na 21)) rfl gp_21 (x := x123_3) (vp_in_iff.mpr (by first | exact oz_e6f6ba9544 nc1 hrg_x123_3.2.1 g0 | (constructor <;> omega))) d_Mpg_make2_207 ?_
            refine lv_topi (fun z69 ez69 => ?_)
            have lz69 := Int32.le_toInt z69
            have uz69 := Int32.toInt_lt z69
            refine lv_istore_n (lv' := [(3, .int z69), (2, .int z68), (4, .int v39), (0, .ref h), (1, .int p0)]) S.x S.b d_Mpg_make2_208 rfl hl (by decide) rfl (fun ls hl => ?_)
            refine lv_goto (tgt := 123) S.x S.b d_Mpg_make2_209 (by decide) ?_
            exact ih123 ef58 ea59 md33 (wr_123 - wa34) z68 z69 _ _ ls (show 0 ≤ z68.toInt from by first | exact oz_ae613611c0 tz68 k123_0 | omega) (show z68.toInt + p0.toInt + 1 ≤ md33 from by first | exact oz_e7dfbedcfe k123_1 hm_md33.2.2.2 tz68 hm_md33.2.2.1 | omega) (show md33 ≤ (pf 13).toInt from by first | exact oz_fdad9fdf0a hm_md33.2.1 | omega) (show (ef 60).toInt ≤ (ef58 60).toInt from by first | exact oz_be764f19f0 k123_3 e62 | omega) (show (ef58 60).toInt + (wr_123 - wa34) + 1 ≤ (ef 60).toInt + wt from by first | exact oz_d132d24d7f k123_4 e63 | omega) (show (ef58 64).toInt = (ef 64).toInt from by first | exact oz_1687f4cc65 k123_5 e64 | omega) (show (ef58 65).toInt = (ef 65).toInt from by first | exact oz_1687f4cc65 k123_6 e65 | omega) (show CdK ea ea59 (ef 60).toInt from hcd) (show (na 14 p0.toNatClampNeg).toInt = 3 from by first | exact k123_8 | omega) (show ArB ta (tf 6).toInt na ma0 ma ca V d md33 (pf 13).toInt (wr_123 - wa34) bh nf (ma 18 p0.toNatClampNeg).toInt z68.toInt z69 from (by rw [ez69, show z68.toInt = x123_2.toInt + 1 by omega]; exact har2)) (show SgQ X9 (ea59 61) (ef 60).toInt (ef58 60).toInt fi S9 (aslots (tkl na ma0 ca (ma 18 p0.toNatClampNeg).toInt) (z68.toInt).toNat ++ S9) lv9 from (hsg.tq (by omega) (by omega) (aslots_i (htv_165.symm.trans (by omega)) (by omega) (by omega)))) (show (pf 13).toInt - md33 < (n_123 : Int) from by first | exact oz_2b66180fc4 hm hm_md33.2.2.2 hm_md33.2.2.1 | omega) hw (lv_sub hl [3, 4, 1, 0] rfl)
        · have nc36 : ¬ z35.toInt < (100 : Int) := mt (i_lt (x := z35) (y := 100)).mpr c36
          refine lv_aload_n S.x S.b d_Mpg_make2_138 rfl (lv_at hl 0 rfl) ?_
          refine lv_aload_n S.x S.b d_Mpg_make2_139 rfl (lv_at hl 0 rfl) ?_
          refine px_get S k_Mpg hT hw 0 0 18 (v := .ref (r 18)) rfl rfl rfl (by decide) m10_3 d_Mpg_make2_140 ?_
          refine lv_iload_n S.x S.b d_Mpg_make2_143 rfl (lv_at hl 1 rfl) ?_
          refine px_iald S hT hw 0 14 (n := 2100) (f := (ma 18)) rfl gp_18 (x := p0) (vp_in_iff.mpr (by constructor <;> omega)) d_Mpg_make2_144 ?_
          refine lv_topi (fun z70 ez70 => ?_)
          have lz70 := Int32.le_toInt z70
          have uz70 := Int32.toInt_lt z70
          have rz70 : z70.toInt = (ma 18 p0.toNatClampNeg).toInt := by rw [ez70]
          refine lv_bipush (v := 100) S.x S.b d_Mpg_make2_145 (by decide) ?_
          refine lv_isub S.x S.b d_Mpg_make2_147 ?_
          refine lv_topi (fun z71 ez71 => ?_)
          have tz71 : z71.toInt = (z70.toInt - (100 : Int) + 2147483648) % 4294967296 - 2147483648 := by rw [ez71]; exact i_sub z70 100
          have lz71 := Int32.le_toInt z71
          have uz71 := Int32.toInt_lt z71
          try replace tz71 : z71.toInt = z70.toInt - (100 : Int) := by omega
          refine lv_iconst (v := (-1)) S.x S.b d_Mpg_make2_148 (by decide) ?_
          refine lv_iload_n S.x S.b d_Mpg_make2_149 rfl (lv_at hl 2 rfl) ?_
          refine px_calli (pr := []) (px_runV (As := [.int z71, .int (-1), .int x123_2]) (rest := []) S (c_mp_taken l D cs h r g tf ta pf na ma wa cf ca ef_123 ea_123 xf xa z71 (-1) x123_2  (show -1 ≤ z71.toInt from by first | exact oz_b0880afea6 tz71 rz70 rz35 nc36 | omega) (show z71.toInt < (cf 38).toInt from by first | with_reducible rfl | with_reducible assumption | omega) (show z71.toInt < 0 → 0 ≤ (-1 : Int) ∧ (-1 : Int) < 10 from by first | with_reducible rfl | with_reducible assumption | omega) (show 0 ≤ x123_2.toInt from by first | exact k123_0 | omega) (show x123_2.toInt ≤ 4000 from by first | with_reducible rfl | with_reducible assumption | omega) (show 0 ≤ (cf 38).toInt from by first | exact oz_f3ebed1ad0 g2 g3 | omega) htk (FnT.eq hft (by omega)) (FnP.eq hfp (by omega)) _) hT (pr := []) (pcs := [wdP cs h r g tf ta pf na ma wa cf ca ef_123 ea_123 xf xa]) hw (oX_call (P := (fun A U H => (oP A g U H))) (pr := []) oG_P hw hA hP) (px_recv hT hw 0 0 rfl rfl rfl) m12_229 m12_226 m12_228 ms_12_10 m1_21 q_Mpg_taken ⟨show 4 + 1 ≤ (2 * (d + 1) + 10) from by first | with_reducible rfl | with_reducible assumption | omega, show 8 + (6 + 11) + 140 ≤ (120 * (d + 1) + 320) from by first | with_reducible rfl | with_reducible assumption | omega⟩ hl.1 rfl (Nat.le_of_ble_eq_true rfl) d_Mpg_make2_150 ⟨Nat.le_of_ble_eq_true rfl, Nat.le_of_ble_eq_true rfl⟩) hw hA (fun v73 p72 H locs hp72 hw => ?_)
          obtain ⟨rfl, e74⟩ := hp72
          replace e74 : TkV na ma ca z71.toInt (-1 : Int) x123_2.toInt v73.toInt := e74
          replace hw : pw D A s.heap H locs [wdP cs h r g tf ta pf na ma wa cf ca ef_123 ea_123 xf xa] := hw
          have lv73 := Int32.le_toInt v73
          have uv73 := Int32.toInt_lt v73
          have hcd_150 : cod z71.toInt (-1 : Int) = (ma 18 p0.toNatClampNeg).toInt := (by unfold cod; first | (rw [if_pos (by omega)]; omega) | (rw [if_neg (by omega)]; omega)); have hcn_150 : CeN nf (cod z71.toInt (-1 : Int)) := (by rw [hcd_150]; exact hce); have htv_150 := tkv_at (ta := ta) (ns := ns) (ys := ys) e74 han hfp hcn_150; have htg_150 := tkv_rng e74 hcn_150; rw [hcd_150] at htv_150
          refine lv_goto (tgt := 168) S.x S.b d_Mpg_make2_153 (by decide) ?_
          refine lv_istore (lv' := [(4, .int v73), (0, .ref h), (1, .int p0), (2, .int x123_2), (3, .int x123_3)]) S.x S.b d_Mpg_make2_168 hl (by decide) rfl (fun ls hl => ?_)
          refine lv_iload S.x S.b d_Mpg_make2_170 (lv_at hl 0 rfl) ?_
          refine lv_bipush (v := 105) S.x S.b d_Mpg_make2_172 (by decide) ?_
          refine lv_icmp_ne (tgt := 185) S.x S.b d_Mpg_make2_174 (by decide) (fun c75 => ?_) (fun c75 => ?_)
          · have nc75 : ¬ v73.toInt = (105 : Int) := mt (i_eq (x := v73) (y := 105)).mpr c75
            refine lv_aload_n S.x S.b d_Mpg_make2_185 rfl (lv_at hl 1 rfl) ?_
            refine lv_bipush (v := 22) S.x S.b d_Mpg_make2_186 (by decide) ?_
            refine lv_aload_n S.x S.b d_Mpg_make2_188 rfl (lv_at hl 1 rfl) ?_
            refine px_get S k_Mpg hT hw 0 0 18 (v := .ref (r 18)) rfl rfl rfl (by decide) m10_3 d_Mpg_make2_189 ?_
            refine lv_iload_n S.x S.b d_Mpg_make2_192 rfl (lv_at hl 4 rfl) ?_
            refine px_iald S hT hw 0 14 (n := 2100) (f := (ma 18)) rfl gp_18 (x := x123_3) (vp_in_iff.mpr (by first | exact oz_e6f6ba9544 nc1 hrg_x123_3.2.1 g0 | (constructor <;> omega))) d_Mpg_make2_193 ?_
            refine lv_topi (fun z76 ez76 => ?_)
            have lz76 := Int32.le_toInt z76
            have uz76 := Int32.toInt_lt z76
            have rz76 : z76.toInt = (ma 18 x123_3.toNatClampNeg).toInt := by rw [ez76]
            refine lv_iconst (v := 0) S.x S.b d_Mpg_make2_194 (by decide) ?_
            refine px_calli (pr := []) (px_runV (As := [.int 22, .int z76, .int 0]) (rest := []) S (c_mp_emit l D cs h r g tf ta pf na ma wa cf ca xf xa ef_123 ea_123 22 z76 0  (show 0 ≤ (ef_123 60).toInt from by first | exact oz_16d7fa9f32 k123_3 g4 | omega) (show (ef_123 60).toInt < 7000 from by first | with_reducible rfl | with_reducible assumption | omega) _) hT (pr := []) (pcs := [wdP cs h r g tf ta pf na ma wa cf ca ef_123 ea_123 xf xa]) hw px_X.tt (px_recv hT hw 0 0 rfl rfl rfl) m13_86 m13_83 m13_85 ms_14_2 m1_21 q_Mpg_emit ⟨show 0 + 1 ≤ (2 * (d + 1) + 10) from by first | with_reducible rfl | with_reducible assumption | omega, show 8 + (4 + 11) + 0 ≤ (120 * (d + 1) + 320) from by first | with_reducible rfl | with_reducible assumption | omega⟩ hl.1 rfl (Nat.le_of_ble_eq_true rfl) d_Mpg_make2_195 ⟨Nat.le_of_ble_eq_true rfl, Nat.le_of_ble_eq_true rfl⟩) hw hA (fun v82 p81 H locs hp81 hw => ?_)
            obtain ⟨ef79, ea80, rfl, e83, e84, e85, e86, e87⟩ := hp81
            replace e83 : v82.toInt = (ef_123 60).toInt := e83
            replace e84 : (ef79 60).toInt = (ef_123 60).toInt + 1 := e84
            replace e85 : (ef79 64).toInt = (ef_123 64).toInt := e85
            replace e86 : (ef79 65).toInt = (ef_123 65).toInt := e86
            replace e87 : EmU ea_123 ea80 (ef_123 60) (22 : Int32) z76 (0 : Int32) := e87
            have hcd := hcd.tr e87.cd (by omega)
            have hsy3 := hsf_md33 (fun q => absurd (htv_150.trans q) (by omega)); have hsg := hsg.em e87 (by omega) rfl (by first | omega | (simp only [List.length_cons, List.length_append]; omega)) (hcx.array (by rw [ez76]; exact hsy3.1) rfl)
            replace hw : pw D A s.heap H locs [wdP cs h r g tf ta pf na ma wa cf ca ef79 ea80 xf xa] := hw
            have lv82 := Int32.le_toInt v82
            have uv82 := Int32.toInt_lt v82
            refine lv_pop S.x S.b d_Mpg_make2_198 rfl ?_
            obtain ⟨z88, ez88⟩ : ∃ y : Int32, y = x123_2 + 1 := ⟨_, rfl⟩
            have tz88 : z88.toInt = (x123_2.toInt + 1 + 2147483648) % 4294967296 - 2147483648 := by rw [ez88]; exact i_add x123_2 1
            have lz88 := Int32.le_toInt z88
            have uz88 := Int32.toInt_lt z88
            try replace tz88 : z88.toInt = x123_2.toInt + 1 := by omega
            refine lv_iinc (v := z88) (lv' := [(2, .int z88), (4, .int v73), (0, .ref h), (1, .int p0), (3, .int x123_3)]) S.x S.b d_Mpg_make2_199 hl (k := 3) rfl (by rw [ez88]; rfl) (by decide) rfl (fun ls hl => ?_)
            refine lv_aload_n S.x S.b d_Mpg_make2_202 rfl (lv_at hl 2 rfl) ?_
            refine px_get S k_Mpg hT hw 0 0 21 (v := .ref (r 21)) rfl rfl rfl (by decide) m10_7 d_Mpg_make2_203 ?_
            refine lv_iload_n S.x S.b d_Mpg_make2_206 rfl (lv_at hl 4 rfl) ?_
            refine px_iald S hT hw 0 17 (n := 2100) (f := (na 21)) rfl gp_21 (x := x123_3) (vp_in_iff.mpr (by first | exact oz_e6f6ba9544 nc1 hrg_x123_3.2.1 g0 | (constructor <;> omega))) d_Mpg_make2_207 ?_
            refine lv_topi (fun z89 ez89 => ?_)
            have lz89 := Int32.le_toInt z89
            have uz89 := Int32.toInt_lt z89
            refine lv_istore_n (lv' := [(3, .int z89), (2, .int z88), (4, .int v73), (0, .ref h), (1, .int p0)]) S.x S.b d_Mpg_make2_208 rfl hl (by decide) rfl (fun ls hl => ?_)
            refine lv_goto (tgt := 123) S.x S.b d_Mpg_make2_209 (by decide) ?_
            exact ih123 ef79 ea80 md33 (wr_123 - wa34) z88 z89 _ _ ls (show 0 ≤ z88.toInt from by first | exact oz_ae613611c0 tz88 k123_0 | omega) (show z88.toInt + p0.toInt + 1 ≤ md33 from by first | exact oz_e7dfbedcfe k123_1 hm_md33.2.2.2 tz88 hm_md33.2.2.1 | omega) (show md33 ≤ (pf 13).toInt from by first | exact oz_fdad9fdf0a hm_md33.2.1 | omega) (show (ef 60).toInt ≤ (ef79 60).toInt from by first | exact oz_887c409de9 k123_3 e84 | omega) (show (ef79 60).toInt + (wr_123 - wa34) + 1 ≤ (ef 60).toInt + wt from by first | with_reducible rfl | with_reducible assumption | omega) (show (ef79 64).toInt = (ef 64).toInt from by first | exact oz_1687f4cc65 k123_5 e85 | omega) (show (ef79 65).toInt = (ef 65).toInt from by first | exact oz_1687f4cc65 k123_6 e86 | omega) (show CdK ea ea80 (ef 60).toInt from hcd) (show (na 14 p0.toNatClampNeg).toInt = 3 from by first | exact k123_8 | omega) (show ArB ta (tf 6).toInt na ma0 ma ca V d md33 (pf 13).toInt (wr_123 - wa34) bh nf (ma 18 p0.toNatClampNeg).toInt z88.toInt z89 from (by rw [ez89, show z88.toInt = x123_2.toInt + 1 by omega]; exact har2)) (show SgQ X9 (ea80 61) (ef 60).toInt (ef79 60).toInt fi S9 (aslots (tkl na ma0 ca (ma 18 p0.toNatClampNeg).toInt) (z88.toInt).toNat ++ S9) lv9 from (hsg.tq (by omega) (by omega) (aslots_a (fun q => absurd (htv_150.trans q) (by omega)) (by omega) (by omega)))) (show (pf 13).toInt - md33 < (n_123 : Int) from by first | exact oz_2b66180fc4 hm hm_md33.2.2.2 hm_md33.2.2.1 | omega) hw (lv_sub hl [3, 4, 1, 0] rfl)
          · have nc75 : v73.toInt = (105 : Int) := (i_eq (x := v73) (y := 105)).mp c75
            refine lv_aload_n S.x S.b d_Mpg_make2_177 rfl (lv_at hl 1 rfl) ?_
            refine lv_iload_n S.x S.b d_Mpg_make2_178 rfl (lv_at hl 4 rfl) ?_
            have hmk_x123_3 := hmf_md33 (htv_150.symm.trans (by omega)); have hnn_x123_3 := hmk_x123_3.nn
            refine px_callv (pr := []) (px_runV (As := [.int x123_3]) (rest := []) S (hLK ma0 ys ns nf wa34 V vl vh X9 fi (aslots (tkl na ma0 ca (ma 18 p0.toNatClampNeg).toInt) (x123_2.toInt).toNat ++ S9) lv9 (bh - ((aslots (tkl na ma0 ca (ma 18 p0.toNatClampNeg).toInt) (x123_2.toInt).toNat).length : Int)) h r g tf ta pf na ma wa cf ca xf xa ef_123 ea_123 x123_3 (show (pf 13).toInt ≤ 2100 from by first | exact g0 | omega) (show (tf 6).toInt ≤ 2049 from by first | exact g1 | omega) (show (cf 38).toInt = nf from by first | exact g2 | omega) (show 0 ≤ nf from by first | exact g3 | omega) (show 0 ≤ (ef_123 60).toInt from by first | exact oz_16d7fa9f32 k123_3 g4 | omega) (show (ef_123 60).toInt + wa34 ≤ 7000 from by first | exact oz_1681cdb94e k123_4 hwa2 g5 | omega) (show ((aslots (tkl na ma0 ca (ma 18 p0.toNatClampNeg).toInt) (x123_2.toInt).toNat ++ S9).length : Int) + (bh - ((aslots (tkl na ma0 ca (ma 18 p0.toNatClampNeg).toInt) (x123_2.toInt).toNat).length : Int)) ≤ X9.tall fi from by first | with_reducible rfl | with_reducible assumption | omega) htk (FnT.eq hft (by omega)) hfp han hts hcx hmk_x123_3 _) hT (pr := []) (pcs := [wdP cs h r g tf ta pf na ma wa cf ca ef_123 ea_123 xf xa]) hw (oX_call (P := (fun A U H => (oP A g U H))) (pr := []) oG_P hw hA hP) (px_recv hT hw 0 0 rfl rfl rfl) m13_90 m13_87 m13_89 ms_14_3 m1_21 q_Mpg_make2 ⟨show (2 * d + 10) + 1 ≤ (2 * (d + 1) + 10) from by first | with_reducible rfl | with_reducible assumption | omega, show 8 + (8 + 11) + (120 * d + 320) ≤ (120 * (d + 1) + 320) from by first | with_reducible rfl | with_reducible assumption | omega⟩ hl.1 rfl (Nat.le_of_ble_eq_true rfl) d_Mpg_make2_179 ⟨Nat.le_of_ble_eq_true rfl, Nat.le_of_ble_eq_true rfl⟩) hw hA (fun p94 H locs hp94 hw => ?_)
            obtain ⟨ef92, ea93, rfl, e96, e97, e98, e99, e100, e101⟩ := hp94
            replace e96 : (ef_123 60).toInt ≤ (ef92 60).toInt := e96
            replace e97 : (ef92 60).toInt ≤ (ef_123 60).toInt + wa34 := e97
            replace e98 : (ef92 64).toInt = (ef_123 64).toInt := e98
            replace e99 : (ef92 65).toInt = (ef_123 65).toInt := e99
            replace e100 : CdK ea_123 ea93 (ef_123 60).toInt := e100
            have hcd := hcd.tr e100 (by omega)
            replace e101 : SgQ X9 (ea93 61) (ef_123 60).toInt (ef92 60).toInt fi (aslots (tkl na ma0 ca (ma 18 p0.toNatClampNeg).toInt) (x123_2.toInt).toNat ++ S9) (0 :: (aslots (tkl na ma0 ca (ma 18 p0.toNatClampNeg).toInt) (x123_2.toInt).toNat ++ S9)) lv9 := e101
            have hsg := hsg.ap e100 e101 (by omega)
            replace hw : pw D A s.heap H locs [wdP cs h r g tf ta pf na ma wa cf ca ef92 ea93 xf xa] := hw
            refine lv_goto (tgt := 199) S.x S.b d_Mpg_make2_182 (by decide) ?_
            obtain ⟨z102, ez102⟩ : ∃ y : Int32, y = x123_2 + 1 := ⟨_, rfl⟩
            have tz102 : z102.toInt = (x123_2.toInt + 1 + 2147483648) % 4294967296 - 2147483648 := by rw [ez102]; exact i_add x123_2 1
            have lz102 := Int32.le_toInt z102
            have uz102 := Int32.toInt_lt z102
            try replace tz102 : z102.toInt = x123_2.toInt + 1 := by omega
            refine lv_iinc (v := z102) (lv' := [(2, .int z102), (4, .int v73), (0, .ref h), (1, .int p0), (3, .int x123_3)]) S.x S.b d_Mpg_make2_199 hl (k := 3) rfl (by rw [ez102]; rfl) (by decide) rfl (fun ls hl => ?_)
            refine lv_aload_n S.x S.b d_Mpg_make2_202 rfl (lv_at hl 2 rfl) ?_
            refine px_get S k_Mpg hT hw 0 0 21 (v := .ref (r 21)) rfl rfl rfl (by decide) m10_7 d_Mpg_make2_203 ?_
            refine lv_iload_n S.x S.b d_Mpg_make2_206 rfl (lv_at hl 4 rfl) ?_
            refine px_iald S hT hw 0 17 (n := 2100) (f := (na 21)) rfl gp_21 (x := x123_3) (vp_in_iff.mpr (by first | exact oz_e6f6ba9544 nc1 hrg_x123_3.2.1 g0 | (constructor <;> omega))) d_Mpg_make2_207 ?_
            refine lv_topi (fun z103 ez103 => ?_)
            have lz103 := Int32.le_toInt z103
            have uz103 := Int32.toInt_lt z103
            refine lv_istore_n (lv' := [(3, .int z103), (2, .int z102), (4, .int v73), (0, .ref h), (1, .int p0)]) S.x S.b d_Mpg_make2_208 rfl hl (by decide) rfl (fun ls hl => ?_)
            refine lv_goto (tgt := 123) S.x S.b d_Mpg_make2_209 (by decide) ?_
            exact ih123 ef92 ea93 md33 (wr_123 - wa34) z102 z103 _ _ ls (show 0 ≤ z102.toInt from by first | exact oz_ae613611c0 tz102 k123_0 | omega) (show z102.toInt + p0.toInt + 1 ≤ md33 from by first | exact oz_e7dfbedcfe k123_1 hm_md33.2.2.2 tz102 hm_md33.2.2.1 | omega) (show md33 ≤ (pf 13).toInt from by first | exact oz_fdad9fdf0a hm_md33.2.1 | omega) (show (ef 60).toInt ≤ (ef92 60).toInt from by first | exact oz_be764f19f0 k123_3 e96 | omega) (show (ef92 60).toInt + (wr_123 - wa34) + 1 ≤ (ef 60).toInt + wt from by first | exact oz_d132d24d7f k123_4 e97 | omega) (show (ef92 64).toInt = (ef 64).toInt from by first | exact oz_1687f4cc65 k123_5 e98 | omega) (show (ef92 65).toInt = (ef 65).toInt from by first | exact oz_1687f4cc65 k123_6 e99 | omega) (show CdK ea ea93 (ef 60).toInt from hcd) (show (na 14 p0.toNatClampNeg).toInt = 3 from by first | exact k123_8 | omega) (show ArB ta (tf 6).toInt na ma0 ma ca V d md33 (pf 13).toInt (wr_123 - wa34) bh nf (ma 18 p0.toNatClampNeg).toInt z102.toInt z103 from (by rw [ez103, show z102.toInt = x123_2.toInt + 1 by omega]; exact har2)) (show SgQ X9 (ea93 61) (ef 60).toInt (ef92 60).toInt fi S9 (aslots (tkl na ma0 ca (ma 18 p0.toNatClampNeg).toInt) (z102.toInt).toNat ++ S9) lv9 from (hsg.tq (by omega) (by omega) (aslots_i (htv_150.symm.trans (by omega)) (by omega) (by omega)))) (show (pf 13).toInt - md33 < (n_123 : Int) from by first | exact oz_2b66180fc4 hm hm_md33.2.2.2 hm_md33.2.2.1 | omega) hw (lv_sub hl [3, 4, 1, 0] rfl)
  have J389 : ∀ (n_389 : Nat) (ef_389 : Nat → Int32) (ea_389 : Nat → Nat → Int32) (mid_389 : Int) (wr_389 : Int) (x389_3 x389_4 : Int32) (H : Heap) (locs : List Loc) (ls : Array Slot), (0 ≤ mid_389) → (mid_389 ≤ (pf 13).toInt) → ((ef 60).toInt ≤ (ef_389 60).toInt) → ((ef_389 60).toInt + wr_389 ≤ (ef 60).toInt + wt) → ((ma 22 p0.toNatClampNeg).toInt < 3 → (ef_389 60).toInt + wr_389 + 4 ≤ (ef 60).toInt + wt) → ((ef_389 64).toInt = (ef 64).toInt) → ((ef_389 65).toInt = (ef 65).toInt) → (CdK ea ea_389 (ef 60).toInt) → ((na 14 p0.toNatClampNeg).toInt = 7) → (RvM ta (tf 6).toInt na ma0 ma ca V d mid_389 (pf 13).toInt wr_389 bh x389_4) → (ChI X9 (ea_389 61) (ef 60).toInt (ef_389 60).toInt fi S9 lv9 x389_3 (ma 22 p0.toNatClampNeg).toInt) → (pf 13).toInt - mid_389 < (n_389 : Int) → pw D A s.heap H locs [wdP cs h r g tf ta pf na ma wa cf ca ef_389 ea_389 xf xa] → lv_has ls 8 [(0, .ref h), (1, .int p0), (3, .int x389_3), (4, .int x389_4)] → W p l e { frames := (2 * (d + 1) + 10), cells := 0, slots := 0, locals := (120 * (d + 1) + 320) } s m [.ref h, .int p0].toArray below meth c H locs 0 0 (MQ below (va_Qv (fun ps => ∃ (ef' : Nat → Int32) (ea' : Nat → Nat → Int32), (ps = [wdP cs h r g tf ta pf na ma wa cf ca ef' ea' xf xa]) ∧ ((ef 60).toInt ≤ (ef' 60).toInt) ∧ ((ef' 60).toInt ≤ (ef 60).toInt + wt) ∧ ((ef' 64).toInt = (ef 64).toInt) ∧ ((ef' 65).toInt = (ef 65).toInt) ∧ (CdK ea ea' (ef 60).toInt) ∧ (SgQ X9 (ea' 61) (ef 60).toInt (ef' 60).toInt fi S9 (0 :: S9) lv9)) (pc_B D (va_A ([wdP cs h r g tf ta pf na ma wa cf ca ef ea xf xa] : List va_W).flatten s.heap.size)) (va_A ([wdP cs h r g tf ta pf na ma wa cf ca ef ea xf xa] : List va_W).flatten s.heap.size)) [.ref h, .int p0].toArray s 0 0 A) (F0 m 389 ls []) := by
    intro  n_389
    induction n_389 with
    | zero =>
      intro ef_389 ea_389 mid_389 wr_389 x389_3 x389_4 H locs ls k389_0 k389_1 k389_2 k389_3 k389_4 k389_5 k389_6 k389_7 k389_8 k389_9 k389_10 hm hw hl
      have lx389_3 := Int32.le_toInt x389_3
      have ux389_3 := Int32.toInt_lt x389_3
      have lx389_4 := Int32.le_toInt x389_4
      have ux389_4 := Int32.toInt_lt x389_4
      have hcd := k389_7
      have hrm := k389_9
      have hchi := k389_10
      exact absurd hm (by omega)
    | succ n_389 ih389 =>
      intro ef_389 ea_389 mid_389 wr_389 x389_3 x389_4 H locs ls k389_0 k389_1 k389_2 k389_3 k389_4 k389_5 k389_6 k389_7 k389_8 k389_9 k389_10 hm hw hl
      have lx389_3 := Int32.le_toInt x389_3
      have ux389_3 := Int32.toInt_lt x389_3
      have lx389_4 := Int32.le_toInt x389_4
      have ux389_4 := Int32.toInt_lt x389_4
      have hcd := k389_7
      have hrm := k389_9
      have hchi := k389_10
      refine lv_iload S.x S.b d_Mpg_make2_389 (lv_at hl 3 rfl) ?_
      refine lv_if_lt (tgt := 474) S.x S.b d_Mpg_make2_391 (by decide) (fun c104 => ?_) (fun c104 => ?_)
      · have nc104 : x389_4.toInt < (0 : Int) := (i_lt (x := x389_4) (y := 0)).mp c104
        refine lv_aload_n S.x S.b d_Mpg_make2_474 rfl (lv_at hl 0 rfl) ?_
        have hwp := RvM.ge hrm
        refine px_get S k_Mpg hT hw 0 0 22 (v := .ref (r 22)) rfl rfl rfl (by decide) m10_9 d_Mpg_make2_475 ?_
        refine lv_iload_n S.x S.b d_Mpg_make2_478 rfl (lv_at hl 1 rfl) ?_
        refine px_iald S hT hw 0 18 (n := 2100) (f := (ma 22)) rfl gp_22 (x := p0) (vp_in_iff.mpr (by constructor <;> omega)) d_Mpg_make2_479 ?_
        refine lv_topi (fun z105 ez105 => ?_)
        have lz105 := Int32.le_toInt z105
        have uz105 := Int32.toInt_lt z105
        have rz105 : z105.toInt = (ma 22 p0.toNatClampNeg).toInt := by rw [ez105]
        refine lv_iconst (v := 3) S.x S.b d_Mpg_make2_480 (by decide) ?_
        refine lv_icmp_ge (tgt := 772) S.x S.b d_Mpg_make2_481 (by decide) (fun c106 => ?_) (fun c106 => ?_)
        · have nc106 : (3 : Int) ≤ z105.toInt := (i_le (x := 3) (y := z105)).mp c106
          exact px_vret S hr hlk hAe hw (Nat.le_of_ble_eq_true rfl) (Nat.le_of_ble_eq_true rfl) (⟨ef_389, ea_389, rfl, (show (ef 60).toInt ≤ (ef_389 60).toInt from by first | exact k389_2 | omega), (show (ef_389 60).toInt ≤ (ef 60).toInt + wt from by first | exact oz_812b27d4c5 k389_3 hwp | omega), (show (ef_389 64).toInt = (ef 64).toInt from by first | exact k389_5 | omega), (show (ef_389 65).toInt = (ef 65).toInt from by first | exact k389_6 | omega), (show CdK ea ea_389 (ef 60).toInt from hcd), (show SgQ X9 (ea_389 61) (ef 60).toInt (ef_389 60).toInt fi S9 (0 :: S9) lv9 from ((hchi.2 (by omega)).tq rfl (by omega) rfl))⟩) d_Mpg_make2_772
        · have nc106 : ¬ (3 : Int) ≤ z105.toInt := mt (i_le (x := 3) (y := z105)).mpr c106
          refine lv_aload_n S.x S.b d_Mpg_make2_484 rfl (lv_at hl 0 rfl) ?_
          refine lv_aload_n S.x S.b d_Mpg_make2_485 rfl (lv_at hl 0 rfl) ?_
          refine px_get S k_Mpg hT hw 0 0 22 (v := .ref (r 22)) rfl rfl rfl (by decide) m10_9 d_Mpg_make2_486 ?_
          refine lv_iload_n S.x S.b d_Mpg_make2_489 rfl (lv_at hl 1 rfl) ?_
          refine px_iald S hT hw 0 18 (n := 2100) (f := (ma 22)) rfl gp_22 (x := p0) (vp_in_iff.mpr (by constructor <;> omega)) d_Mpg_make2_490 ?_
          refine lv_topi (fun z107 ez107 => ?_)
          have lz107 := Int32.le_toInt z107
          have uz107 := Int32.toInt_lt z107
          have rz107 : z107.toInt = (ma 22 p0.toNatClampNeg).toInt := by rw [ez107]
          refine lv_iconst (v := 1) S.x S.b d_Mpg_make2_491 (by decide) ?_
          refine lv_icmp_ne (tgt := 500) S.x S.b d_Mpg_make2_492 (by decide) (fun c108 => ?_) (fun c108 => ?_)
          · have nc108 : ¬ z107.toInt = (1 : Int) := mt (i_eq (x := z107) (y := 1)).mpr c108
            refine lv_bipush (v := 13) S.x S.b d_Mpg_make2_500 (by decide) ?_
            refine lv_iload_n S.x S.b d_Mpg_make2_502 rfl (lv_at hl 2 rfl) ?_
            refine lv_iconst (v := 0) S.x S.b d_Mpg_make2_503 (by decide) ?_
            refine px_calli (pr := []) (px_runV (As := [.int 13, .int x389_3, .int 0]) (rest := []) S (c_mp_emit l D cs h r g tf ta pf na ma wa cf ca xf xa ef_389 ea_389 13 x389_3 0  (show 0 ≤ (ef_389 60).toInt from by first | exact oz_16d7fa9f32 k389_2 g4 | omega) (show (ef_389 60).toInt < 7000 from by first | exact oz_12ebf431cf rz105 nc106 k389_4 g5 hwp | omega) _) hT (pr := []) (pcs := [wdP cs h r g tf ta pf na ma wa cf ca ef_389 ea_389 xf xa]) hw px_X.tt (px_recv hT hw 0 0 rfl rfl rfl) m13_86 m13_83 m13_85 ms_14_2 m1_21 q_Mpg_emit ⟨show 0 + 1 ≤ (2 * (d + 1) + 10) from by first | with_reducible rfl | with_reducible assumption | omega, show 8 + (4 + 11) + 0 ≤ (120 * (d + 1) + 320) from by first | with_reducible rfl | with_reducible assumption | omega⟩ hl.1 rfl (Nat.le_of_ble_eq_true rfl) d_Mpg_make2_504 ⟨Nat.le_of_ble_eq_true rfl, Nat.le_of_ble_eq_true rfl⟩) hw hA (fun v114 p113 H locs hp113 hw => ?_)
            obtain ⟨ef111, ea112, rfl, e115, e116, e117, e118, e119⟩ := hp113
            replace e115 : v114.toInt = (ef_389 60).toInt := e115
            replace e116 : (ef111 60).toInt = (ef_389 60).toInt + 1 := e116
            replace e117 : (ef111 64).toInt = (ef_389 64).toInt := e117
            replace e118 : (ef111 65).toInt = (ef_389 65).toInt := e118
            replace e119 : EmU ea_389 ea112 (ef_389 60) (13 : Int32) x389_3 (0 : Int32) := e119
            have hcd := hcd.tr e119.cd (by omega)
            obtain ⟨l9, hcn9, hdc9, hlo9, hs09, -, K9, hclw, hk9⟩ := ChS.em (hchi.1 (by omega)) e119 (by omega) (by decide) (by omega)
            replace hw : pw D A s.heap H locs [wdP cs h r g tf ta pf na ma wa cf ca ef111 ea112 xf xa] := hw
            have lv114 := Int32.le_toInt v114
            have uv114 := Int32.toInt_lt v114
            refine lv_istore_n (lv' := [(3, .int v114), (0, .ref h), (1, .int p0), (4, .int x389_4)]) S.x S.b d_Mpg_make2_507 rfl hl (by decide) rfl (fun ls hl => ?_)
            refine lv_aload_n S.x S.b d_Mpg_make2_508 rfl (lv_at hl 1 rfl) ?_
            refine lv_iconst (v := 1) S.x S.b d_Mpg_make2_509 (by decide) ?_
            refine lv_aload_n S.x S.b d_Mpg_make2_510 rfl (lv_at hl 1 rfl) ?_
            refine px_get S k_Mpg hT hw 0 0 22 (v := .ref (r 22)) rfl rfl rfl (by decide) m10_9 d_Mpg_make2_511 ?_
            refine lv_iload_n S.x S.b d_Mpg_make2_514 rfl (lv_at hl 2 rfl) ?_
            refine px_iald S hT hw 0 18 (n := 2100) (f := (ma 22)) rfl gp_22 (x := p0) (vp_in_iff.mpr (by constructor <;> omega)) d_Mpg_make2_515 ?_
            refine lv_topi (fun z120 ez120 => ?_)
            have lz120 := Int32.le_toInt z120
            have uz120 := Int32.toInt_lt z120
            have rz120 : z120.toInt = (ma 22 p0.toNatClampNeg).toInt := by rw [ez120]
            refine lv_iconst (v := 1) S.x S.b d_Mpg_make2_516 (by decide) ?_
            refine lv_icmp_ne (tgt := 524) S.x S.b d_Mpg_make2_517 (by decide) (fun c121 => ?_) (fun c121 => ?_)
            · have nc121 : ¬ z120.toInt = (1 : Int) := mt (i_eq (x := z120) (y := 1)).mpr c121
              refine lv_iconst (v := 1) S.x S.b d_Mpg_make2_524 (by decide) ?_
              refine lv_iconst (v := 0) S.x S.b d_Mpg_make2_525 (by decide) ?_
              refine px_calli (pr := []) (px_runV (As := [.int 1, .int 1, .int 0]) (rest := []) S (c_mp_emit l D cs h r g tf ta pf na ma wa cf ca xf xa ef111 ea112 1 1 0  (show 0 ≤ (ef111 60).toInt from by first | exact oz_2188d1bf01 e116 k389_2 g4 | omega) (show (ef111 60).toInt < 7000 from by first | exact oz_2792def35f e116 rz105 nc106 k389_4 g5 hwp | omega) _) hT (pr := []) (pcs := [wdP cs h r g tf ta pf na ma wa cf ca ef111 ea112 xf xa]) hw px_X.tt (px_recv hT hw 0 0 rfl rfl rfl) m13_86 m13_83 m13_85 ms_14_2 m1_21 q_Mpg_emit ⟨show 0 + 1 ≤ (2 * (d + 1) + 10) from by first | with_reducible rfl | with_reducible assumption | omega, show 8 + (4 + 11) + 0 ≤ (120 * (d + 1) + 320) from by first | with_reducible rfl | with_reducible assumption | omega⟩ hl.1 rfl (Nat.le_of_ble_eq_true rfl) d_Mpg_make2_526 ⟨Nat.le_of_ble_eq_true rfl, Nat.le_of_ble_eq_true rfl⟩) hw hA (fun v127 p126 H locs hp126 hw => ?_)
              obtain ⟨ef124, ea125, rfl, e128, e129, e130, e131, e132⟩ := hp126
              replace e128 : v127.toInt = (ef111 60).toInt := e128
              replace e129 : (ef124 60).toInt = (ef111 60).toInt + 1 := e129
              replace e130 : (ef124 64).toInt = (ef111 64).toInt := e130
              replace e131 : (ef124 65).toInt = (ef111 65).toInt := e131
              replace e132 : EmU ea112 ea125 (ef111 60) (1 : Int32) (1 : Int32) (0 : Int32) := e132
              have hcd := hcd.tr e132.cd (by omega)
              replace hw : pw D A s.heap H locs [wdP cs h r g tf ta pf na ma wa cf ca ef124 ea125 xf xa] := hw
              have lv127 := Int32.le_toInt v127
              have uv127 := Int32.toInt_lt v127
              refine lv_pop S.x S.b d_Mpg_make2_529 rfl ?_
              refine lv_aload_n S.x S.b d_Mpg_make2_530 rfl (lv_at hl 1 rfl) ?_
              refine lv_bipush (v := 12) S.x S.b d_Mpg_make2_531 (by decide) ?_
              refine lv_iconst (v := 0) S.x S.b d_Mpg_make2_533 (by decide) ?_
              refine lv_iconst (v := 0) S.x S.b d_Mpg_make2_534 (by decide) ?_
              refine px_calli (pr := []) (px_runV (As := [.int 12, .int 0, .int 0]) (rest := []) S (c_mp_emit l D cs h r g tf ta pf na ma wa cf ca xf xa ef124 ea125 12 0 0  (show 0 ≤ (ef124 60).toInt from by first | exact oz_18e4c16450 e129 e116 k389_2 g4 | omega) (show (ef124 60).toInt < 7000 from by first | exact oz_7af1ceb46f e129 e116 rz105 nc106 k389_4 g5 hwp | omega) _) hT (pr := []) (pcs := [wdP cs h r g tf ta pf na ma wa cf ca ef124 ea125 xf xa]) hw px_X.tt (px_recv hT hw 0 0 rfl rfl rfl) m13_86 m13_83 m13_85 ms_14_2 m1_21 q_Mpg_emit ⟨show 0 + 1 ≤ (2 * (d + 1) + 10) from by first | with_reducible rfl | with_reducible assumption | omega, show 8 + (4 + 11) + 0 ≤ (120 * (d + 1) + 320) from by first | with_reducible rfl | with_reducible assumption | omega⟩ hl.1 rfl (Nat.le_of_ble_eq_true rfl) d_Mpg_make2_535 ⟨Nat.le_of_ble_eq_true rfl, Nat.le_of_ble_eq_true rfl⟩) hw hA (fun v138 p137 H locs hp137 hw => ?_)
              obtain ⟨ef135, ea136, rfl, e139, e140, e141, e142, e143⟩ := hp137
              replace e139 : v138.toInt = (ef124 60).toInt := e139
              replace e140 : (ef135 60).toInt = (ef124 60).toInt + 1 := e140
              replace e141 : (ef135 64).toInt = (ef124 64).toInt := e141
              replace e142 : (ef135 65).toInt = (ef124 65).toInt := e142
              replace e143 : EmU ea125 ea136 (ef124 60) (12 : Int32) (0 : Int32) (0 : Int32) := e143
              have hcd := hcd.tr e143.cd (by omega)
              replace hw : pw D A s.heap H locs [wdP cs h r g tf ta pf na ma wa cf ca ef135 ea136 xf xa] := hw
              have lv138 := Int32.le_toInt v138
              have uv138 := Int32.toInt_lt v138
              refine lv_istore (lv' := [(4, .int v138), (3, .int v114), (0, .ref h), (1, .int p0)]) S.x S.b d_Mpg_make2_538 hl (by decide) rfl (fun ls hl => ?_)
              refine lv_aload_n S.x S.b d_Mpg_make2_540 rfl (lv_at hl 2 rfl) ?_
              refine lv_iload_n S.x S.b d_Mpg_make2_541 rfl (lv_at hl 1 rfl) ?_
              refine lv_aload_n S.x S.b d_Mpg_make2_542 rfl (lv_at hl 2 rfl) ?_
              refine px_get S k_Mpg hT hw 0 0 60 (v := .int (ef135 60)) rfl rfl rfl (by decide) m10_57 d_Mpg_make2_543 ?_
              refine px_callv (pr := []) (px_runV (As := [.int v114, .int (ef135 60)]) (rest := []) S (c_mp_landAll l D cs (((ef_389 60).toInt).toNat + 1) l9 h r g tf ta pf na ma wa cf ca ef135 xf xa ea136 v114 (ef135 60)  (show (((ef_389 60).toInt).toNat + 1) ≤ 7000 from by first | with_reducible rfl | with_reducible assumption | omega) (chn_k (chn_em (chn_em hcn9 hdc9 e132 (by omega)) hdc9 e143 (by omega)) (by omega)) hdc9 _) hT (pr := []) (pcs := [wdP cs h r g tf ta pf na ma wa cf ca ef135 ea136 xf xa]) hw px_X.tt (px_recv hT hw 0 0 rfl rfl rfl) m13_102 m13_99 m13_101 ms_14_6 m1_21 q_Mpg_landAll ⟨show 0 + 1 ≤ (2 * (d + 1) + 10) from by first | with_reducible rfl | with_reducible assumption | omega, show 8 + (5 + 11) + 0 ≤ (120 * (d + 1) + 320) from by first | with_reducible rfl | with_reducible assumption | omega⟩ hl.1 rfl (Nat.le_of_ble_eq_true rfl) d_Mpg_make2_546 ⟨Nat.le_of_ble_eq_true rfl, Nat.le_of_ble_eq_true rfl⟩) hw hA (fun p146 H locs hp146 hw => ?_)
              obtain ⟨ea145, rfl, e148, e149⟩ := hp146
              replace e148 : EaK ea136 ea145 := e148
              skip
              replace e149 : LaA (ea136 61) (ea145 61) l9 (ef135 60) := e149
              have hcd := hcd.tr (EaK.cd e148 e149 hlo9) (Int.le_refl _)
              replace hw : pw D A s.heap H locs [wdP cs h r g tf ta pf na ma wa cf ca ef135 ea145 xf xa] := hw
              refine lv_aload_n S.x S.b d_Mpg_make2_549 rfl (lv_at hl 2 rfl) ?_
              refine lv_iconst (v := 1) S.x S.b d_Mpg_make2_550 (by decide) ?_
              refine lv_aload_n S.x S.b d_Mpg_make2_551 rfl (lv_at hl 2 rfl) ?_
              refine px_get S k_Mpg hT hw 0 0 22 (v := .ref (r 22)) rfl rfl rfl (by decide) m10_9 d_Mpg_make2_552 ?_
              refine lv_iload_n S.x S.b d_Mpg_make2_555 rfl (lv_at hl 3 rfl) ?_
              refine px_iald S hT hw 0 18 (n := 2100) (f := (ma 22)) rfl gp_22 (x := p0) (vp_in_iff.mpr (by constructor <;> omega)) d_Mpg_make2_556 ?_
              refine lv_topi (fun z150 ez150 => ?_)
              have lz150 := Int32.le_toInt z150
              have uz150 := Int32.toInt_lt z150
              have rz150 : z150.toInt = (ma 22 p0.toNatClampNeg).toInt := by rw [ez150]
              refine lv_iconst (v := 1) S.x S.b d_Mpg_make2_557 (by decide) ?_
              refine lv_icmp_ne (tgt := 565) S.x S.b d_Mpg_make2_558 (by decide) (fun c151 => ?_) (fun c151 => ?_)
              · have nc151 : ¬ z150.toInt = (1 : Int) := mt (i_eq (x := z150) (y := 1)).mpr c151
                refine lv_iconst (v := 0) S.x S.b d_Mpg_make2_565 (by decide) ?_
                refine lv_iconst (v := 0) S.x S.b d_Mpg_make2_566 (by decide) ?_
                refine px_calli (pr := []) (px_runV (As := [.int 1, .int 0, .int 0]) (rest := []) S (c_mp_emit l D cs h r g tf ta pf na ma wa cf ca xf xa ef135 ea145 1 0 0  (show 0 ≤ (ef135 60).toInt from by first | exact oz_d59a0bbb71 e140 e129 e116 k389_2 g4 | omega) (show (ef135 60).toInt < 7000 from by first | exact oz_562b32fd06 e140 e129 e116 rz105 nc106 k389_4 g5 hwp | omega) _) hT (pr := []) (pcs := [wdP cs h r g tf ta pf na ma wa cf ca ef135 ea145 xf xa]) hw px_X.tt (px_recv hT hw 0 0 rfl rfl rfl) m13_86 m13_83 m13_85 ms_14_2 m1_21 q_Mpg_emit ⟨show 0 + 1 ≤ (2 * (d + 1) + 10) from by first | with_reducible rfl | with_reducible assumption | omega, show 8 + (4 + 11) + 0 ≤ (120 * (d + 1) + 320) from by first | with_reducible rfl | with_reducible assumption | omega⟩ hl.1 rfl (Nat.le_of_ble_eq_true rfl) d_Mpg_make2_567 ⟨Nat.le_of_ble_eq_true rfl, Nat.le_of_ble_eq_true rfl⟩) hw hA (fun v157 p156 H locs hp156 hw => ?_)
                obtain ⟨ef154, ea155, rfl, e158, e159, e160, e161, e162⟩ := hp156
                replace e158 : v157.toInt = (ef135 60).toInt := e158
                replace e159 : (ef154 60).toInt = (ef135 60).toInt + 1 := e159
                replace e160 : (ef154 64).toInt = (ef135 64).toInt := e160
                replace e161 : (ef154 65).toInt = (ef135 65).toInt := e161
                replace e162 : EmU ea145 ea155 (ef135 60) (1 : Int32) (0 : Int32) (0 : Int32) := e162
                have hcd := hcd.tr e162.cd (by omega)
                replace hw : pw D A s.heap H locs [wdP cs h r g tf ta pf na ma wa cf ca ef154 ea155 xf xa] := hw
                have lv157 := Int32.le_toInt v157
                have uv157 := Int32.toInt_lt v157
                refine lv_pop S.x S.b d_Mpg_make2_570 rfl ?_
                refine lv_aload_n S.x S.b d_Mpg_make2_571 rfl (lv_at hl 2 rfl) ?_
                refine lv_iload S.x S.b d_Mpg_make2_572 (lv_at hl 0 rfl) ?_
                refine px_callv (pr := []) (px_runV (As := [.int v138]) (rest := []) S (c_mp_land l D cs h r g tf ta pf na ma wa cf ca ef154 xf xa ea155 v138  (show 0 ≤ v138.toInt from by first | exact oz_c9a960d9b4 e139 e129 e116 k389_2 g4 | omega) (show v138.toInt < 7000 from by first | exact oz_c70dba619f e139 e129 e116 rz105 nc106 k389_4 g5 hwp | omega) _) hT (pr := []) (pcs := [wdP cs h r g tf ta pf na ma wa cf ca ef154 ea155 xf xa]) hw px_X.tt (px_recv hT hw 0 0 rfl rfl rfl) m13_106 m13_103 m13_105 ms_14_7 m1_21 q_Mpg_land ⟨show 0 + 1 ≤ (2 * (d + 1) + 10) from by first | with_reducible rfl | with_reducible assumption | omega, show 8 + (2 + 11) + 0 ≤ (120 * (d + 1) + 320) from by first | with_reducible rfl | with_reducible assumption | omega⟩ hl.1 rfl (Nat.le_of_ble_eq_true rfl) d_Mpg_make2_574 ⟨Nat.le_of_ble_eq_true rfl, Nat.le_of_ble_eq_true rfl⟩) hw hA (fun p165 H locs hp165 hw => ?_)
                obtain ⟨ea164, rfl, e167⟩ := hp165
                replace e167 : LaU ea155 ea164 v138 (ef154 60) := e167
                have hcd := hcd.tr (LaU.cd e167 (s := (ef 60).toInt) (by omega)) (Int.le_refl _)
                replace hw : pw D A s.heap H locs [wdP cs h r g tf ta pf na ma wa cf ca ef154 ea164 xf xa] := hw
                refine lv_goto (tgt := 772) S.x S.b d_Mpg_make2_577 (by decide) ?_
                exact px_vret S hr hlk hAe hw (Nat.le_of_ble_eq_true rfl) (Nat.le_of_ble_eq_true rfl) (⟨ef154, ea164, rfl, (show (ef 60).toInt ≤ (ef154 60).toInt from by first | exact oz_cc9f43beab k389_2 e159 e116 e140 e129 | omega), (show (ef154 60).toInt ≤ (ef 60).toInt + wt from by first | exact oz_08922051d3 e159 rz105 nc106 k389_4 hwp e116 e140 e129 | omega), (show (ef154 64).toInt = (ef 64).toInt from by first | exact oz_0867352dd7 k389_5 e160 e117 e141 e130 | omega), (show (ef154 65).toInt = (ef 65).toInt from by first | exact oz_0867352dd7 k389_6 e161 e118 e142 e131 | omega), (show CdK ea ea164 (ef 60).toInt from hcd), (show SgQ X9 (ea164 61) (ef 60).toInt (ef154 60).toInt fi S9 (0 :: S9) lv9 from ((chs_fin hclw hk9 hs09 hdc9 e132 e143 e149 e162 e167 (by omega) (by omega) (by omega) (by omega) (by omega) (by omega) rfl rfl rfl (by omega)).tq rfl (by omega) rfl))⟩) d_Mpg_make2_772
              · have nc151 : z150.toInt = (1 : Int) := (i_eq (x := z150) (y := 1)).mp c151
                exfalso
                omega
            · have nc121 : z120.toInt = (1 : Int) := (i_eq (x := z120) (y := 1)).mp c121
              exfalso
              omega
          · have nc108 : z107.toInt = (1 : Int) := (i_eq (x := z107) (y := 1)).mp c108
            refine lv_bipush (v := 14) S.x S.b d_Mpg_make2_495 (by decide) ?_
            refine lv_goto (tgt := 502) S.x S.b d_Mpg_make2_497 (by decide) ?_
            refine lv_iload_n S.x S.b d_Mpg_make2_502 rfl (lv_at hl 2 rfl) ?_
            refine lv_iconst (v := 0) S.x S.b d_Mpg_make2_503 (by decide) ?_
            refine px_calli (pr := []) (px_runV (As := [.int 14, .int x389_3, .int 0]) (rest := []) S (c_mp_emit l D cs h r g tf ta pf na ma wa cf ca xf xa ef_389 ea_389 14 x389_3 0  (show 0 ≤ (ef_389 60).toInt from by first | exact oz_16d7fa9f32 k389_2 g4 | omega) (show (ef_389 60).toInt < 7000 from by first | exact oz_b89bf23c89 rz107 nc108 k389_4 g5 hwp | omega) _) hT (pr := []) (pcs := [wdP cs h r g tf ta pf na ma wa cf ca ef_389 ea_389 xf xa]) hw px_X.tt (px_recv hT hw 0 0 rfl rfl rfl) m13_86 m13_83 m13_85 ms_14_2 m1_21 q_Mpg_emit ⟨show 0 + 1 ≤ (2 * (d + 1) + 10) from by first | with_reducible rfl | with_reducible assumption | omega, show 8 + (4 + 11) + 0 ≤ (120 * (d + 1) + 320) from by first | with_reducible rfl | with_reducible assumption | omega⟩ hl.1 rfl (Nat.le_of_ble_eq_true rfl) d_Mpg_make2_504 ⟨Nat.le_of_ble_eq_true rfl, Nat.le_of_ble_eq_true rfl⟩) hw hA (fun v173 p172 H locs hp172 hw => ?_)
            obtain ⟨ef170, ea171, rfl, e174, e175, e176, e177, e178⟩ := hp172
            replace e174 : v173.toInt = (ef_389 60).toInt := e174
            replace e175 : (ef170 60).toInt = (ef_389 60).toInt + 1 := e175
            replace e176 : (ef170 64).toInt = (ef_389 64).toInt := e176
            replace e177 : (ef170 65).toInt = (ef_389 65).toInt := e177
            replace e178 : EmU ea_389 ea171 (ef_389 60) (14 : Int32) x389_3 (0 : Int32) := e178
            have hcd := hcd.tr e178.cd (by omega)
            obtain ⟨l9, hcn9, hdc9, hlo9, hs09, -, K9, hclw, hk9⟩ := ChS.em (hchi.1 (by omega)) e178 (by omega) (by decide) (by omega)
            replace hw : pw D A s.heap H locs [wdP cs h r g tf ta pf na ma wa cf ca ef170 ea171 xf xa] := hw
            have lv173 := Int32.le_toInt v173
            have uv173 := Int32.toInt_lt v173
            refine lv_istore_n (lv' := [(3, .int v173), (0, .ref h), (1, .int p0), (4, .int x389_4)]) S.x S.b d_Mpg_make2_507 rfl hl (by decide) rfl (fun ls hl => ?_)
            refine lv_aload_n S.x S.b d_Mpg_make2_508 rfl (lv_at hl 1 rfl) ?_
            refine lv_iconst (v := 1) S.x S.b d_Mpg_make2_509 (by decide) ?_
            refine lv_aload_n S.x S.b d_Mpg_make2_510 rfl (lv_at hl 1 rfl) ?_
            refine px_get S k_Mpg hT hw 0 0 22 (v := .ref (r 22)) rfl rfl rfl (by decide) m10_9 d_Mpg_make2_511 ?_
            refine lv_iload_n S.x S.b d_Mpg_make2_514 rfl (lv_at hl 2 rfl) ?_
            refine px_iald S hT hw 0 18 (n := 2100) (f := (ma 22)) rfl gp_22 (x := p0) (vp_in_iff.mpr (by constructor <;> omega)) d_Mpg_make2_515 ?_
            refine lv_topi (fun z179 ez179 => ?_)
            have lz179 := Int32.le_toInt z179
            have uz179 := Int32.toInt_lt z179
            have rz179 : z179.toInt = (ma 22 p0.toNatClampNeg).toInt := by rw [ez179]
            refine lv_iconst (v := 1) S.x S.b d_Mpg_make2_516 (by decide) ?_
            refine lv_icmp_ne (tgt := 524) S.x S.b d_Mpg_make2_517 (by decide) (fun c180 => ?_) (fun c180 => ?_)
            · have nc180 : ¬ z179.toInt = (1 : Int) := mt (i_eq (x := z179) (y := 1)).mpr c180
              exfalso
              omega
            · have nc180 : z179.toInt = (1 : Int) := (i_eq (x := z179) (y := 1)).mp c180
              refine lv_iconst (v := 0) S.x S.b d_Mpg_make2_520 (by decide) ?_
              refine lv_goto (tgt := 525) S.x S.b d_Mpg_make2_521 (by decide) ?_
              refine lv_iconst (v := 0) S.x S.b d_Mpg_make2_525 (by decide) ?_
              refine px_calli (pr := []) (px_runV (As := [.int 1, .int 0, .int 0]) (rest := []) S (c_mp_emit l D cs h r g tf ta pf na ma wa cf ca xf xa ef170 ea171 1 0 0  (show 0 ≤ (ef170 60).toInt from by first | exact oz_2188d1bf01 e175 k389_2 g4 | omega) (show (ef170 60).toInt < 7000 from by first | exact oz_d7a85cbe39 e175 rz179 nc180 k389_4 g5 hwp | omega) _) hT (pr := []) (pcs := [wdP cs h r g tf ta pf na ma wa cf ca ef170 ea171 xf xa]) hw px_X.tt (px_recv hT hw 0 0 rfl rfl rfl) m13_86 m13_83 m13_85 ms_14_2 m1_21 q_Mpg_emit ⟨show 0 + 1 ≤ (2 * (d + 1) + 10) from by first | with_reducible rfl | with_reducible assumption | omega, show 8 + (4 + 11) + 0 ≤ (120 * (d + 1) + 320) from by first | with_reducible rfl | with_reducible assumption | omega⟩ hl.1 rfl (Nat.le_of_ble_eq_true rfl) d_Mpg_make2_526 ⟨Nat.le_of_ble_eq_true rfl, Nat.le_of_ble_eq_true rfl⟩) hw hA (fun v186 p185 H locs hp185 hw => ?_)
              obtain ⟨ef183, ea184, rfl, e187, e188, e189, e190, e191⟩ := hp185
              replace e187 : v186.toInt = (ef170 60).toInt := e187
              replace e188 : (ef183 60).toInt = (ef170 60).toInt + 1 := e188
              replace e189 : (ef183 64).toInt = (ef170 64).toInt := e189
              replace e190 : (ef183 65).toInt = (ef170 65).toInt := e190
              replace e191 : EmU ea171 ea184 (ef170 60) (1 : Int32) (0 : Int32) (0 : Int32) := e191
              have hcd := hcd.tr e191.cd (by omega)
              replace hw : pw D A s.heap H locs [wdP cs h r g tf ta pf na ma wa cf ca ef183 ea184 xf xa] := hw
              have lv186 := Int32.le_toInt v186
              have uv186 := Int32.toInt_lt v186
              refine lv_pop S.x S.b d_Mpg_make2_529 rfl ?_
              refine lv_aload_n S.x S.b d_Mpg_make2_530 rfl (lv_at hl 1 rfl) ?_
              refine lv_bipush (v := 12) S.x S.b d_Mpg_make2_531 (by decide) ?_
              refine lv_iconst (v := 0) S.x S.b d_Mpg_make2_533 (by decide) ?_
              refine lv_iconst (v := 0) S.x S.b d_Mpg_make2_534 (by decide) ?_
              refine px_calli (pr := []) (px_runV (As := [.int 12, .int 0, .int 0]) (rest := []) S (c_mp_emit l D cs h r g tf ta pf na ma wa cf ca xf xa ef183 ea184 12 0 0  (show 0 ≤ (ef183 60).toInt from by first | exact oz_18e4c16450 e188 e175 k389_2 g4 | omega) (show (ef183 60).toInt < 7000 from by first | exact oz_4b894d747b e188 e175 rz179 nc180 k389_4 g5 hwp | omega) _) hT (pr := []) (pcs := [wdP cs h r g tf ta pf na ma wa cf ca ef183 ea184 xf xa]) hw px_X.tt (px_recv hT hw 0 0 rfl rfl rfl) m13_86 m13_83 m13_85 ms_14_2 m1_21 q_Mpg_emit ⟨show 0 + 1 ≤ (2 * (d + 1) + 10) from by first | with_reducible rfl | with_reducible assumption | omega, show 8 + (4 + 11) + 0 ≤ (120 * (d + 1) + 320) from by first | with_reducible rfl | with_reducible assumption | omega⟩ hl.1 rfl (Nat.le_of_ble_eq_true rfl) d_Mpg_make2_535 ⟨Nat.le_of_ble_eq_true rfl, Nat.le_of_ble_eq_true rfl⟩) hw hA (fun v197 p196 H locs hp196 hw => ?_)
              obtain ⟨ef194, ea195, rfl, e198, e199, e200, e201, e202⟩ := hp196
              replace e198 : v197.toInt = (ef183 60).toInt := e198
              replace e199 : (ef194 60).toInt = (ef183 60).toInt + 1 := e199
              replace e200 : (ef194 64).toInt = (ef183 64).toInt := e200
              replace e201 : (ef194 65).toInt = (ef183 65).toInt := e201
              replace e202 : EmU ea184 ea195 (ef183 60) (12 : Int32) (0 : Int32) (0 : Int32) := e202
              have hcd := hcd.tr e202.cd (by omega)
              replace hw : pw D A s.heap H locs [wdP cs h r g tf ta pf na ma wa cf ca ef194 ea195 xf xa] := hw
              have lv197 := Int32.le_toInt v197
              have uv197 := Int32.toInt_lt v197
              refine lv_istore (lv' := [(4, .int v197), (3, .int v173), (0, .ref h), (1, .int p0)]) S.x S.b d_Mpg_make2_538 hl (by decide) rfl (fun ls hl => ?_)
              refine lv_aload_n S.x S.b d_Mpg_make2_540 rfl (lv_at hl 2 rfl) ?_
              refine lv_iload_n S.x S.b d_Mpg_make2_541 rfl (lv_at hl 1 rfl) ?_
              refine lv_aload_n S.x S.b d_Mpg_make2_542 rfl (lv_at hl 2 rfl) ?_
              refine px_get S k_Mpg hT hw 0 0 60 (v := .int (ef194 60)) rfl rfl rfl (by decide) m10_57 d_Mpg_make2_543 ?_
              refine px_callv (pr := []) (px_runV (As := [.int v173, .int (ef194 60)]) (rest := []) S (c_mp_landAll l D cs (((ef_389 60).toInt).toNat + 1) l9 h r g tf ta pf na ma wa cf ca ef194 xf xa ea195 v173 (ef194 60)  (show (((ef_389 60).toInt).toNat + 1) ≤ 7000 from by first | with_reducible rfl | with_reducible assumption | omega) (chn_k (chn_em (chn_em hcn9 hdc9 e191 (by omega)) hdc9 e202 (by omega)) (by omega)) hdc9 _) hT (pr := []) (pcs := [wdP cs h r g tf ta pf na ma wa cf ca ef194 ea195 xf xa]) hw px_X.tt (px_recv hT hw 0 0 rfl rfl rfl) m13_102 m13_99 m13_101 ms_14_6 m1_21 q_Mpg_landAll ⟨show 0 + 1 ≤ (2 * (d + 1) + 10) from by first | with_reducible rfl | with_reducible assumption | omega, show 8 + (5 + 11) + 0 ≤ (120 * (d + 1) + 320) from by first | with_reducible rfl | with_reducible assumption | omega⟩ hl.1 rfl (Nat.le_of_ble_eq_true rfl) d_Mpg_make2_546 ⟨Nat.le_of_ble_eq_true rfl, Nat.le_of_ble_eq_true rfl⟩) hw hA (fun p205 H locs hp205 hw => ?_)
              obtain ⟨ea204, rfl, e207, e208⟩ := hp205
              replace e207 : EaK ea195 ea204 := e207
              skip
              replace e208 : LaA (ea195 61) (ea204 61) l9 (ef194 60) := e208
              have hcd := hcd.tr (EaK.cd e207 e208 hlo9) (Int.le_refl _)
              replace hw : pw D A s.heap H locs [wdP cs h r g tf ta pf na ma wa cf ca ef194 ea204 xf xa] := hw
              refine lv_aload_n S.x S.b d_Mpg_make2_549 rfl (lv_at hl 2 rfl) ?_
              refine lv_iconst (v := 1) S.x S.b d_Mpg_make2_550 (by decide) ?_
              refine lv_aload_n S.x S.b d_Mpg_make2_551 rfl (lv_at hl 2 rfl) ?_
              refine px_get S k_Mpg hT hw 0 0 22 (v := .ref (r 22)) rfl rfl rfl (by decide) m10_9 d_Mpg_make2_552 ?_
              refine lv_iload_n S.x S.b d_Mpg_make2_555 rfl (lv_at hl 3 rfl) ?_
              refine px_iald S hT hw 0 18 (n := 2100) (f := (ma 22)) rfl gp_22 (x := p0) (vp_in_iff.mpr (by constructor <;> omega)) d_Mpg_make2_556 ?_
              refine lv_topi (fun z209 ez209 => ?_)
              have lz209 := Int32.le_toInt z209
              have uz209 := Int32.toInt_lt z209
              have rz209 : z209.toInt = (ma 22 p0.toNatClampNeg).toInt := by rw [ez209]
              refine lv_iconst (v := 1) S.x S.b d_Mpg_make2_557 (by decide) ?_
              refine lv_icmp_ne (tgt := 565) S.x S.b d_Mpg_make2_558 (by decide) (fun c210 => ?_) (fun c210 => ?_)
              · have nc210 : ¬ z209.toInt = (1 : Int) := mt (i_eq (x := z209) (y := 1)).mpr c210
                exfalso
                omega
              · have nc210 : z209.toInt = (1 : Int) := (i_eq (x := z209) (y := 1)).mp c210
                refine lv_iconst (v := 1) S.x S.b d_Mpg_make2_561 (by decide) ?_
                refine lv_goto (tgt := 566) S.x S.b d_Mpg_make2_562 (by decide) ?_
                refine lv_iconst (v := 0) S.x S.b d_Mpg_make2_566 (by decide) ?_
                refine px_calli (pr := []) (px_runV (As := [.int 1, .int 1, .int 0]) (rest := []) S (c_mp_emit l D cs h r g tf ta pf na ma wa cf ca xf xa ef194 ea204 1 1 0  (show 0 ≤ (ef194 60).toInt from by first | exact oz_d59a0bbb71 e199 e188 e175 k389_2 g4 | omega) (show (ef194 60).toInt < 7000 from by first | exact oz_edd4c7e1e4 e199 e188 e175 rz107 nc108 k389_4 g5 hwp | omega) _) hT (pr := []) (pcs := [wdP cs h r g tf ta pf na ma wa cf ca ef194 ea204 xf xa]) hw px_X.tt (px_recv hT hw 0 0 rfl rfl rfl) m13_86 m13_83 m13_85 ms_14_2 m1_21 q_Mpg_emit ⟨show 0 + 1 ≤ (2 * (d + 1) + 10) from by first | with_reducible rfl | with_reducible assumption | omega, show 8 + (4 + 11) + 0 ≤ (120 * (d + 1) + 320) from by first | with_reducible rfl | with_reducible assumption | omega⟩ hl.1 rfl (Nat.le_of_ble_eq_true rfl) d_Mpg_make2_567 ⟨Nat.le_of_ble_eq_true rfl, Nat.le_of_ble_eq_true rfl⟩) hw hA (fun v216 p215 H locs hp215 hw => ?_)
                obtain ⟨ef213, ea214, rfl, e217, e218, e219, e220, e221⟩ := hp215
                replace e217 : v216.toInt = (ef194 60).toInt := e217
                replace e218 : (ef213 60).toInt = (ef194 60).toInt + 1 := e218
                replace e219 : (ef213 64).toInt = (ef194 64).toInt := e219
                replace e220 : (ef213 65).toInt = (ef194 65).toInt := e220
                replace e221 : EmU ea204 ea214 (ef194 60) (1 : Int32) (1 : Int32) (0 : Int32) := e221
                have hcd := hcd.tr e221.cd (by omega)
                replace hw : pw D A s.heap H locs [wdP cs h r g tf ta pf na ma wa cf ca ef213 ea214 xf xa] := hw
                have lv216 := Int32.le_toInt v216
                have uv216 := Int32.toInt_lt v216
                refine lv_pop S.x S.b d_Mpg_make2_570 rfl ?_
                refine lv_aload_n S.x S.b d_Mpg_make2_571 rfl (lv_at hl 2 rfl) ?_
                refine lv_iload S.x S.b d_Mpg_make2_572 (lv_at hl 0 rfl) ?_
                refine px_callv (pr := []) (px_runV (As := [.int v197]) (rest := []) S (c_mp_land l D cs h r g tf ta pf na ma wa cf ca ef213 xf xa ea214 v197  (show 0 ≤ v197.toInt from by first | exact oz_c9a960d9b4 e198 e188 e175 k389_2 g4 | omega) (show v197.toInt < 7000 from by first | exact oz_7d4addd146 e198 e188 e175 rz107 nc108 k389_4 g5 hwp | omega) _) hT (pr := []) (pcs := [wdP cs h r g tf ta pf na ma wa cf ca ef213 ea214 xf xa]) hw px_X.tt (px_recv hT hw 0 0 rfl rfl rfl) m13_106 m13_103 m13_105 ms_14_7 m1_21 q_Mpg_land ⟨show 0 + 1 ≤ (2 * (d + 1) + 10) from by first | with_reducible rfl | with_reducible assumption | omega, show 8 + (2 + 11) + 0 ≤ (120 * (d + 1) + 320) from by first | with_reducible rfl | with_reducible assumption | omega⟩ hl.1 rfl (Nat.le_of_ble_eq_true rfl) d_Mpg_make2_574 ⟨Nat.le_of_ble_eq_true rfl, Nat.le_of_ble_eq_true rfl⟩) hw hA (fun p224 H locs hp224 hw => ?_)
                obtain ⟨ea223, rfl, e226⟩ := hp224
                replace e226 : LaU ea214 ea223 v197 (ef213 60) := e226
                have hcd := hcd.tr (LaU.cd e226 (s := (ef 60).toInt) (by omega)) (Int.le_refl _)
                replace hw : pw D A s.heap H locs [wdP cs h r g tf ta pf na ma wa cf ca ef213 ea223 xf xa] := hw
                refine lv_goto (tgt := 772) S.x S.b d_Mpg_make2_577 (by decide) ?_
                exact px_vret S hr hlk hAe hw (Nat.le_of_ble_eq_true rfl) (Nat.le_of_ble_eq_true rfl) (⟨ef213, ea223, rfl, (show (ef 60).toInt ≤ (ef213 60).toInt from by first | exact oz_cc9f43beab k389_2 e218 e175 e199 e188 | omega), (show (ef213 60).toInt ≤ (ef 60).toInt + wt from by first | exact oz_3ea94e08a2 e218 rz107 nc108 k389_4 hwp e175 e199 e188 | omega), (show (ef213 64).toInt = (ef 64).toInt from by first | exact oz_0867352dd7 k389_5 e219 e176 e200 e189 | omega), (show (ef213 65).toInt = (ef 65).toInt from by first | exact oz_0867352dd7 k389_6 e220 e177 e201 e190 | omega), (show CdK ea ea223 (ef 60).toInt from hcd), (show SgQ X9 (ea223 61) (ef 60).toInt (ef213 60).toInt fi S9 (0 :: S9) lv9 from ((chs_fin hclw hk9 hs09 hdc9 e191 e202 e208 e221 e226 (by omega) (by omega) (by omega) (by omega) (by omega) (by omega) rfl rfl rfl (by omega)).tq rfl (by omega) rfl))⟩) d_Mpg_make2_772
      · have nc104 : ¬ x389_4.toInt < (0 : Int) := mt (i_lt (x := x389_4) (y := 0)).mpr c104
        refine lv_aload_n S.x S.b d_Mpg_make2_394 rfl (lv_at hl 0 rfl) ?_
        obtain ⟨md227, wa228, hm_md227, hmk_x389_4, h20_x389_4, hrm2, hwa1, hwa2, hb2⟩ := RvM.go han hrm (by omega); have hec_x389_4 := hmk_x389_4.ec; have hrg_x389_4 := EcV.rng hec_x389_4; have hnn_x389_4 := hmk_x389_4.nn; have hwp2 := RvM.ge hrm2
        refine px_get S k_Mpg hT hw 0 0 22 (v := .ref (r 22)) rfl rfl rfl (by decide) m10_9 d_Mpg_make2_395 ?_
        refine lv_iload_n S.x S.b d_Mpg_make2_398 rfl (lv_at hl 1 rfl) ?_
        refine px_iald S hT hw 0 18 (n := 2100) (f := (ma 22)) rfl gp_22 (x := p0) (vp_in_iff.mpr (by constructor <;> omega)) d_Mpg_make2_399 ?_
        refine lv_topi (fun z229 ez229 => ?_)
        have lz229 := Int32.le_toInt z229
        have uz229 := Int32.toInt_lt z229
        have rz229 : z229.toInt = (ma 22 p0.toNatClampNeg).toInt := by rw [ez229]
        refine lv_iconst (v := 3) S.x S.b d_Mpg_make2_400 (by decide) ?_
        refine lv_icmp_ge (tgt := 437) S.x S.b d_Mpg_make2_401 (by decide) (fun c230 => ?_) (fun c230 => ?_)
        · have nc230 : (3 : Int) ≤ z229.toInt := (i_le (x := 3) (y := z229)).mp c230
          refine lv_aload_n S.x S.b d_Mpg_make2_437 rfl (lv_at hl 0 rfl) ?_
          refine lv_iload S.x S.b d_Mpg_make2_438 (lv_at hl 3 rfl) ?_
          refine px_callv (pr := []) (px_runV (As := [.int x389_4]) (rest := []) S (hLK ma0 ys ns nf (wa228 - 1) V vl vh X9 fi (0 :: S9) lv9 (bh - 1) h r g tf ta pf na ma wa cf ca xf xa ef_389 ea_389 x389_4 (show (pf 13).toInt ≤ 2100 from by first | exact g0 | omega) (show (tf 6).toInt ≤ 2049 from by first | exact g1 | omega) (show (cf 38).toInt = nf from by first | exact g2 | omega) (show 0 ≤ nf from by first | exact g3 | omega) (show 0 ≤ (ef_389 60).toInt from by first | exact oz_16d7fa9f32 k389_2 g4 | omega) (show (ef_389 60).toInt + (wa228 - 1) ≤ 7000 from by first | exact oz_57a12d68bd k389_3 hwa2 g5 | omega) (show ((0 :: S9).length : Int) + (bh - 1) ≤ X9.tall fi from by first | with_reducible rfl | with_reducible assumption | omega) htk (FnT.eq hft (by omega)) hfp han hts hcx hmk_x389_4 _) hT (pr := []) (pcs := [wdP cs h r g tf ta pf na ma wa cf ca ef_389 ea_389 xf xa]) hw (oX_call (P := (fun A U H => (oP A g U H))) (pr := []) oG_P hw hA hP) (px_recv hT hw 0 0 rfl rfl rfl) m13_90 m13_87 m13_89 ms_14_3 m1_21 q_Mpg_make2 ⟨show (2 * d + 10) + 1 ≤ (2 * (d + 1) + 10) from by first | with_reducible rfl | with_reducible assumption | omega, show 8 + (8 + 11) + (120 * d + 320) ≤ (120 * (d + 1) + 320) from by first | with_reducible rfl | with_reducible assumption | omega⟩ hl.1 rfl (Nat.le_of_ble_eq_true rfl) d_Mpg_make2_440 ⟨Nat.le_of_ble_eq_true rfl, Nat.le_of_ble_eq_true rfl⟩) hw hA (fun p235 H locs hp235 hw => ?_)
          obtain ⟨ef233, ea234, rfl, e237, e238, e239, e240, e241, e242⟩ := hp235
          replace e237 : (ef_389 60).toInt ≤ (ef233 60).toInt := e237
          replace e238 : (ef233 60).toInt ≤ (ef_389 60).toInt + (wa228 - 1) := e238
          replace e239 : (ef233 64).toInt = (ef_389 64).toInt := e239
          replace e240 : (ef233 65).toInt = (ef_389 65).toInt := e240
          replace e241 : CdK ea_389 ea234 (ef_389 60).toInt := e241
          have hcd := hcd.tr e241 (by omega)
          replace e242 : SgQ X9 (ea234 61) (ef_389 60).toInt (ef233 60).toInt fi (0 :: S9) (0 :: (0 :: S9)) lv9 := e242
          replace hw : pw D A s.heap H locs [wdP cs h r g tf ta pf na ma wa cf ca ef233 ea234 xf xa] := hw
          refine lv_aload_n S.x S.b d_Mpg_make2_443 rfl (lv_at hl 0 rfl) ?_
          refine lv_bipush (v := 11) S.x S.b d_Mpg_make2_444 (by decide) ?_
          refine lv_aload_n S.x S.b d_Mpg_make2_446 rfl (lv_at hl 0 rfl) ?_
          refine lv_aload_n S.x S.b d_Mpg_make2_447 rfl (lv_at hl 0 rfl) ?_
          refine px_get S k_Mpg hT hw 0 0 20 (v := .ref (r 20)) rfl rfl rfl (by decide) m10_6 d_Mpg_make2_448 ?_
          refine lv_iload S.x S.b d_Mpg_make2_451 (lv_at hl 3 rfl) ?_
          refine px_iald S hT hw 0 16 (n := 2100) (f := (ma 20)) rfl gp_20 (x := x389_4) (vp_in_iff.mpr (by first | exact oz_235fb477f2 nc104 hm_md227.2.2.2 hm_md227.2.1 g0 | (constructor <;> omega))) d_Mpg_make2_453 ?_
          refine lv_topi (fun z243 ez243 => ?_)
          have lz243 := Int32.le_toInt z243
          have uz243 := Int32.toInt_lt z243
          have h5_z243 : (0 ≤ z243.toInt ∧ z243.toInt < (tf 6).toInt) ∧ so ta z243 = 5 := (by rw [ez243]; exact ⟨⟨h20_x389_4.1, h20_x389_4.2.1⟩, h20_x389_4.2.2⟩)
          refine px_calli (pr := []) (px_runV (As := [.int z243]) (rest := [.int 11, .ref h]) S (c_mp_operatorOf l D cs h r g tf ta pf na ma wa cf ca ef233 ea234 xf xa z243  (show 0 ≤ z243.toInt from by first | with_reducible rfl | with_reducible assumption | omega) (show z243.toInt < (tf 6).toInt from by first | with_reducible rfl | with_reducible assumption | omega) (show (tf 6).toInt ≤ 2049 from by first | exact g1 | omega) (show so ta z243 = 5 from by first | exact h5_z243.2 | omega) htk _) hT (pr := []) (pcs := [wdP cs h r g tf ta pf na ma wa cf ca ef233 ea234 xf xa]) hw px_X.tt (px_recv hT hw 0 0 rfl rfl rfl) m13_98 m13_95 m13_97 ms_14_5 m1_21 q_Mpg_operatorOf ⟨show 0 + 1 ≤ (2 * (d + 1) + 10) from by first | with_reducible rfl | with_reducible assumption | omega, show 8 + (2 + 11) + 0 ≤ (120 * (d + 1) + 320) from by first | with_reducible rfl | with_reducible assumption | omega⟩ hl.1 rfl (Nat.le_of_ble_eq_true rfl) d_Mpg_make2_454 ⟨Nat.le_of_ble_eq_true rfl, Nat.le_of_ble_eq_true rfl⟩) hw hA (fun v245 p244 H locs hp244 hw => ?_)
          obtain ⟨rfl, e246, e247⟩ := hp244
          replace e246 : 0 ≤ v245.toInt := e246
          replace e247 : v245.toInt ≤ 42 := e247
          replace hw : pw D A s.heap H locs [wdP cs h r g tf ta pf na ma wa cf ca ef233 ea234 xf xa] := hw
          have lv245 := Int32.le_toInt v245
          have uv245 := Int32.toInt_lt v245
          refine lv_iconst (v := 0) S.x S.b d_Mpg_make2_457 (by decide) ?_
          refine px_calli (pr := []) (px_runV (As := [.int 11, .int v245, .int 0]) (rest := []) S (c_mp_emit l D cs h r g tf ta pf na ma wa cf ca xf xa ef233 ea234 11 v245 0  (show 0 ≤ (ef233 60).toInt from by first | exact oz_fe2fd2b0f6 e237 k389_2 g4 | omega) (show (ef233 60).toInt < 7000 from by first | exact oz_1f4c617182 e238 k389_3 hwa2 g5 | omega) _) hT (pr := []) (pcs := [wdP cs h r g tf ta pf na ma wa cf ca ef233 ea234 xf xa]) hw px_X.tt (px_recv hT hw 0 0 rfl rfl rfl) m13_86 m13_83 m13_85 ms_14_2 m1_21 q_Mpg_emit ⟨show 0 + 1 ≤ (2 * (d + 1) + 10) from by first | with_reducible rfl | with_reducible assumption | omega, show 8 + (4 + 11) + 0 ≤ (120 * (d + 1) + 320) from by first | with_reducible rfl | with_reducible assumption | omega⟩ hl.1 rfl (Nat.le_of_ble_eq_true rfl) d_Mpg_make2_458 ⟨Nat.le_of_ble_eq_true rfl, Nat.le_of_ble_eq_true rfl⟩) hw hA (fun v253 p252 H locs hp252 hw => ?_)
          obtain ⟨ef250, ea251, rfl, e254, e255, e256, e257, e258⟩ := hp252
          replace e254 : v253.toInt = (ef233 60).toInt := e254
          replace e255 : (ef250 60).toInt = (ef233 60).toInt + 1 := e255
          replace e256 : (ef250 64).toInt = (ef233 64).toInt := e256
          replace e257 : (ef250 65).toInt = (ef233 65).toInt := e257
          replace e258 : EmU ea234 ea251 (ef233 60) (11 : Int32) v245 (0 : Int32) := e258
          have hcd := hcd.tr e258.cd (by omega)
          replace hw : pw D A s.heap H locs [wdP cs h r g tf ta pf na ma wa cf ca ef250 ea251 xf xa] := hw
          have lv253 := Int32.le_toInt v253
          have uv253 := Int32.toInt_lt v253
          refine lv_pop S.x S.b d_Mpg_make2_461 rfl ?_
          refine lv_aload_n S.x S.b d_Mpg_make2_462 rfl (lv_at hl 0 rfl) ?_
          refine px_get S k_Mpg hT hw 0 0 21 (v := .ref (r 21)) rfl rfl rfl (by decide) m10_7 d_Mpg_make2_463 ?_
          refine lv_iload S.x S.b d_Mpg_make2_466 (lv_at hl 3 rfl) ?_
          refine px_iald S hT hw 0 17 (n := 2100) (f := (na 21)) rfl gp_21 (x := x389_4) (vp_in_iff.mpr (by first | exact oz_235fb477f2 nc104 hm_md227.2.2.2 hm_md227.2.1 g0 | (constructor <;> omega))) d_Mpg_make2_468 ?_
          refine lv_topi (fun z259 ez259 => ?_)
          have lz259 := Int32.le_toInt z259
          have uz259 := Int32.toInt_lt z259
          refine lv_istore (lv' := [(4, .int z259), (0, .ref h), (1, .int p0), (3, .int x389_3)]) S.x S.b d_Mpg_make2_469 hl (by decide) rfl (fun ls hl => ?_)
          refine lv_goto (tgt := 389) S.x S.b d_Mpg_make2_471 (by decide) ?_
          exact ih389 ef250 ea251 md227 (wr_389 - wa228) x389_3 z259 _ _ ls (show 0 ≤ md227 from by first | exact oz_d3d3a7f06a hm_md227.2.2.2 nc104 | omega) (show md227 ≤ (pf 13).toInt from by first | exact oz_fdad9fdf0a hm_md227.2.1 | omega) (show (ef 60).toInt ≤ (ef250 60).toInt from by first | exact oz_3eddb8f087 k389_2 e255 e237 | omega) (show (ef250 60).toInt + (wr_389 - wa228) ≤ (ef 60).toInt + wt from by first | exact oz_603b99282c k389_3 e238 e255 | omega) (show (ma 22 p0.toNatClampNeg).toInt < 3 → (ef250 60).toInt + (wr_389 - wa228) + 4 ≤ (ef 60).toInt + wt from by first | with_reducible rfl | with_reducible assumption | omega) (show (ef250 64).toInt = (ef 64).toInt from by first | exact oz_e13fc83238 k389_5 e256 e239 | omega) (show (ef250 65).toInt = (ef 65).toInt from by first | exact oz_e13fc83238 k389_6 e257 e240 | omega) (show CdK ea ea251 (ef 60).toInt from hcd) (show (na 14 p0.toNatClampNeg).toInt = 7 from by first | exact k389_8 | omega) (show RvM ta (tf 6).toInt na ma0 ma ca V d md227 (pf 13).toInt (wr_389 - wa228) bh z259 from (by rw [ez259]; exact hrm2)) (show ChI X9 (ea251 61) (ef 60).toInt (ef250 60).toInt fi S9 lv9 x389_3 (ma 22 p0.toNatClampNeg).toInt from ⟨fun q9 => absurd q9 (by omega), fun q9 => (((hchi.2 q9).ap e241 e242 (by omega)).em e258 (by omega) rfl (by first | omega | (simp only [List.length_cons, List.length_append]; omega)) (.two S9 rfl (by omega))).tq rfl (by omega) rfl⟩) (show (pf 13).toInt - md227 < (n_389 : Int) from by first | exact oz_2b66180fc4 hm hm_md227.2.2.2 hm_md227.2.2.1 | omega) hw (lv_sub hl [1, 2, 3, 0] rfl)
        · have nc230 : ¬ (3 : Int) ≤ z229.toInt := mt (i_le (x := 3) (y := z229)).mpr c230
          refine lv_aload_n S.x S.b d_Mpg_make2_404 rfl (lv_at hl 0 rfl) ?_
          refine lv_aload_n S.x S.b d_Mpg_make2_405 rfl (lv_at hl 0 rfl) ?_
          refine px_get S k_Mpg hT hw 0 0 22 (v := .ref (r 22)) rfl rfl rfl (by decide) m10_9 d_Mpg_make2_406 ?_
          refine lv_iload_n S.x S.b d_Mpg_make2_409 rfl (lv_at hl 1 rfl) ?_
          refine px_iald S hT hw 0 18 (n := 2100) (f := (ma 22)) rfl gp_22 (x := p0) (vp_in_iff.mpr (by constructor <;> omega)) d_Mpg_make2_410 ?_
          refine lv_topi (fun z260 ez260 => ?_)
          have lz260 := Int32.le_toInt z260
          have uz260 := Int32.toInt_lt z260
          have rz260 : z260.toInt = (ma 22 p0.toNatClampNeg).toInt := by rw [ez260]
          refine lv_iconst (v := 1) S.x S.b d_Mpg_make2_411 (by decide) ?_
          refine lv_icmp_ne (tgt := 420) S.x S.b d_Mpg_make2_412 (by decide) (fun c261 => ?_) (fun c261 => ?_)
          · have nc261 : ¬ z260.toInt = (1 : Int) := mt (i_eq (x := z260) (y := 1)).mpr c261
            refine lv_bipush (v := 13) S.x S.b d_Mpg_make2_420 (by decide) ?_
            refine lv_iload_n S.x S.b d_Mpg_make2_422 rfl (lv_at hl 2 rfl) ?_
            refine lv_iconst (v := 0) S.x S.b d_Mpg_make2_423 (by decide) ?_
            refine px_calli (pr := []) (px_runV (As := [.int 13, .int x389_3, .int 0]) (rest := []) S (c_mp_emit l D cs h r g tf ta pf na ma wa cf ca xf xa ef_389 ea_389 13 x389_3 0  (show 0 ≤ (ef_389 60).toInt from by first | exact oz_16d7fa9f32 k389_2 g4 | omega) (show (ef_389 60).toInt < 7000 from by first | exact oz_ad11a34479 k389_3 g5 hwa2 hnn_x389_4.1 | omega) _) hT (pr := []) (pcs := [wdP cs h r g tf ta pf na ma wa cf ca ef_389 ea_389 xf xa]) hw px_X.tt (px_recv hT hw 0 0 rfl rfl rfl) m13_86 m13_83 m13_85 ms_14_2 m1_21 q_Mpg_emit ⟨show 0 + 1 ≤ (2 * (d + 1) + 10) from by first | with_reducible rfl | with_reducible assumption | omega, show 8 + (4 + 11) + 0 ≤ (120 * (d + 1) + 320) from by first | with_reducible rfl | with_reducible assumption | omega⟩ hl.1 rfl (Nat.le_of_ble_eq_true rfl) d_Mpg_make2_424 ⟨Nat.le_of_ble_eq_true rfl, Nat.le_of_ble_eq_true rfl⟩) hw hA (fun v267 p266 H locs hp266 hw => ?_)
            obtain ⟨ef264, ea265, rfl, e268, e269, e270, e271, e272⟩ := hp266
            replace e268 : v267.toInt = (ef_389 60).toInt := e268
            replace e269 : (ef264 60).toInt = (ef_389 60).toInt + 1 := e269
            replace e270 : (ef264 64).toInt = (ef_389 64).toInt := e270
            replace e271 : (ef264 65).toInt = (ef_389 65).toInt := e271
            replace e272 : EmU ea_389 ea265 (ef_389 60) (13 : Int32) x389_3 (0 : Int32) := e272
            have hcd := hcd.tr e272.cd (by omega)
            replace hw : pw D A s.heap H locs [wdP cs h r g tf ta pf na ma wa cf ca ef264 ea265 xf xa] := hw
            have lv267 := Int32.le_toInt v267
            have uv267 := Int32.toInt_lt v267
            refine lv_istore_n (lv' := [(3, .int v267), (0, .ref h), (1, .int p0), (4, .int x389_4)]) S.x S.b d_Mpg_make2_427 rfl hl (by decide) rfl (fun ls hl => ?_)
            refine lv_aload_n S.x S.b d_Mpg_make2_428 rfl (lv_at hl 1 rfl) ?_
            refine lv_iload S.x S.b d_Mpg_make2_429 (lv_at hl 3 rfl) ?_
            refine px_callv (pr := []) (px_runV (As := [.int x389_4]) (rest := []) S (hLK ma0 ys ns nf (wa228 - 1) V vl vh X9 fi S9 lv9 (bh - 1) h r g tf ta pf na ma wa cf ca xf xa ef264 ea265 x389_4 (show (pf 13).toInt ≤ 2100 from by first | exact g0 | omega) (show (tf 6).toInt ≤ 2049 from by first | exact g1 | omega) (show (cf 38).toInt = nf from by first | exact g2 | omega) (show 0 ≤ nf from by first | exact g3 | omega) (show 0 ≤ (ef264 60).toInt from by first | exact oz_2188d1bf01 e269 k389_2 g4 | omega) (show (ef264 60).toInt + (wa228 - 1) ≤ 7000 from by first | exact oz_f188fd5d8d hwa2 e269 k389_3 g5 | omega) (show (S9.length : Int) + (bh - 1) ≤ X9.tall fi from by first | with_reducible rfl | with_reducible assumption | omega) htk (FnT.eq hft (by omega)) hfp han hts hcx hmk_x389_4 _) hT (pr := []) (pcs := [wdP cs h r g tf ta pf na ma wa cf ca ef264 ea265 xf xa]) hw (oX_call (P := (fun A U H => (oP A g U H))) (pr := []) oG_P hw hA hP) (px_recv hT hw 0 0 rfl rfl rfl) m13_90 m13_87 m13_89 ms_14_3 m1_21 q_Mpg_make2 ⟨show (2 * d + 10) + 1 ≤ (2 * (d + 1) + 10) from by first | with_reducible rfl | with_reducible assumption | omega, show 8 + (8 + 11) + (120 * d + 320) ≤ (120 * (d + 1) + 320) from by first | with_reducible rfl | with_reducible assumption | omega⟩ hl.1 rfl (Nat.le_of_ble_eq_true rfl) d_Mpg_make2_431 ⟨Nat.le_of_ble_eq_true rfl, Nat.le_of_ble_eq_true rfl⟩) hw hA (fun p277 H locs hp277 hw => ?_)
            obtain ⟨ef275, ea276, rfl, e279, e280, e281, e282, e283, e284⟩ := hp277
            replace e279 : (ef264 60).toInt ≤ (ef275 60).toInt := e279
            replace e280 : (ef275 60).toInt ≤ (ef264 60).toInt + (wa228 - 1) := e280
            replace e281 : (ef275 64).toInt = (ef264 64).toInt := e281
            replace e282 : (ef275 65).toInt = (ef264 65).toInt := e282
            replace e283 : CdK ea265 ea276 (ef264 60).toInt := e283
            have hcd := hcd.tr e283 (by omega)
            replace e284 : SgQ X9 (ea276 61) (ef264 60).toInt (ef275 60).toInt fi S9 (0 :: S9) lv9 := e284
            replace hw : pw D A s.heap H locs [wdP cs h r g tf ta pf na ma wa cf ca ef275 ea276 xf xa] := hw
            refine lv_goto (tgt := 462) S.x S.b d_Mpg_make2_434 (by decide) ?_
            refine lv_aload_n S.x S.b d_Mpg_make2_462 rfl (lv_at hl 1 rfl) ?_
            refine px_get S k_Mpg hT hw 0 0 21 (v := .ref (r 21)) rfl rfl rfl (by decide) m10_7 d_Mpg_make2_463 ?_
            refine lv_iload S.x S.b d_Mpg_make2_466 (lv_at hl 3 rfl) ?_
            refine px_iald S hT hw 0 17 (n := 2100) (f := (na 21)) rfl gp_21 (x := x389_4) (vp_in_iff.mpr (by first | exact oz_235fb477f2 nc104 hm_md227.2.2.2 hm_md227.2.1 g0 | (constructor <;> omega))) d_Mpg_make2_468 ?_
            refine lv_topi (fun z285 ez285 => ?_)
            have lz285 := Int32.le_toInt z285
            have uz285 := Int32.toInt_lt z285
            refine lv_istore (lv' := [(4, .int z285), (3, .int v267), (0, .ref h), (1, .int p0)]) S.x S.b d_Mpg_make2_469 hl (by decide) rfl (fun ls hl => ?_)
            refine lv_goto (tgt := 389) S.x S.b d_Mpg_make2_471 (by decide) ?_
            exact ih389 ef275 ea276 md227 (wr_389 - wa228) v267 z285 _ _ ls (show 0 ≤ md227 from by first | exact oz_d3d3a7f06a hm_md227.2.2.2 nc104 | omega) (show md227 ≤ (pf 13).toInt from by first | exact oz_fdad9fdf0a hm_md227.2.1 | omega) (show (ef 60).toInt ≤ (ef275 60).toInt from by first | exact oz_db0ccc982f k389_2 e279 e269 | omega) (show (ef275 60).toInt + (wr_389 - wa228) ≤ (ef 60).toInt + wt from by first | exact oz_942662209a k389_3 e280 e269 | omega) (show (ma 22 p0.toNatClampNeg).toInt < 3 → (ef275 60).toInt + (wr_389 - wa228) + 4 ≤ (ef 60).toInt + wt from by first | exact fun q9 => oz_4c96eb7639 e280 rz229 nc230 k389_4 e269 | omega) (show (ef275 64).toInt = (ef 64).toInt from by first | exact oz_e13fc83238 k389_5 e281 e270 | omega) (show (ef275 65).toInt = (ef 65).toInt from by first | exact oz_e13fc83238 k389_6 e282 e271 | omega) (show CdK ea ea276 (ef 60).toInt from hcd) (show (na 14 p0.toNatClampNeg).toInt = 7 from by first | exact k389_8 | omega) (show RvM ta (tf 6).toInt na ma0 ma ca V d md227 (pf 13).toInt (wr_389 - wa228) bh z285 from (by rw [ez285]; exact hrm2)) (show ChI X9 (ea276 61) (ef 60).toInt (ef275 60).toInt fi S9 lv9 v267 (ma 22 p0.toNatClampNeg).toInt from ⟨fun q9 => ChS.nx (hchi.1 q9) e272 e283 e284 (by omega) (i_eq.mpr (by omega)) (by omega) (by decide) (by omega), fun q9 => absurd q9 (by omega)⟩) (show (pf 13).toInt - md227 < (n_389 : Int) from by first | exact oz_2b66180fc4 hm hm_md227.2.2.2 hm_md227.2.2.1 | omega) hw (lv_sub hl [2, 3, 1, 0] rfl)
          · have nc261 : z260.toInt = (1 : Int) := (i_eq (x := z260) (y := 1)).mp c261
            refine lv_bipush (v := 14) S.x S.b d_Mpg_make2_415 (by decide) ?_
            refine lv_goto (tgt := 422) S.x S.b d_Mpg_make2_417 (by decide) ?_
            refine lv_iload_n S.x S.b d_Mpg_make2_422 rfl (lv_at hl 2 rfl) ?_
            refine lv_iconst (v := 0) S.x S.b d_Mpg_make2_423 (by decide) ?_
            refine px_calli (pr := []) (px_runV (As := [.int 14, .int x389_3, .int 0]) (rest := []) S (c_mp_emit l D cs h r g tf ta pf na ma wa cf ca xf xa ef_389 ea_389 14 x389_3 0  (show 0 ≤ (ef_389 60).toInt from by first | exact oz_16d7fa9f32 k389_2 g4 | omega) (show (ef_389 60).toInt < 7000 from by first | exact oz_ad11a34479 k389_3 g5 hwa2 hnn_x389_4.1 | omega) _) hT (pr := []) (pcs := [wdP cs h r g tf ta pf na ma wa cf ca ef_389 ea_389 xf xa]) hw px_X.tt (px_recv hT hw 0 0 rfl rfl rfl) m13_86 m13_83 m13_85 ms_14_2 m1_21 q_Mpg_emit ⟨show 0 + 1 ≤ (2 * (d + 1) + 10) from by first | with_reducible rfl | with_reducible assumption | omega, show 8 + (4 + 11) + 0 ≤ (120 * (d + 1) + 320) from by first | with_reducible rfl | with_reducible assumption | omega⟩ hl.1 rfl (Nat.le_of_ble_eq_true rfl) d_Mpg_make2_424 ⟨Nat.le_of_ble_eq_true rfl, Nat.le_of_ble_eq_true rfl⟩) hw hA (fun v291 p290 H locs hp290 hw => ?_)
            obtain ⟨ef288, ea289, rfl, e292, e293, e294, e295, e296⟩ := hp290
            replace e292 : v291.toInt = (ef_389 60).toInt := e292
            replace e293 : (ef288 60).toInt = (ef_389 60).toInt + 1 := e293
            replace e294 : (ef288 64).toInt = (ef_389 64).toInt := e294
            replace e295 : (ef288 65).toInt = (ef_389 65).toInt := e295
            replace e296 : EmU ea_389 ea289 (ef_389 60) (14 : Int32) x389_3 (0 : Int32) := e296
            have hcd := hcd.tr e296.cd (by omega)
            replace hw : pw D A s.heap H locs [wdP cs h r g tf ta pf na ma wa cf ca ef288 ea289 xf xa] := hw
            have lv291 := Int32.le_toInt v291
            have uv291 := Int32.toInt_lt v291
            refine lv_istore_n (lv' := [(3, .int v291), (0, .ref h), (1, .int p0), (4, .int x389_4)]) S.x S.b d_Mpg_make2_427 rfl hl (by decide) rfl (fun ls hl => ?_)
            refine lv_aload_n S.x S.b d_Mpg_make2_428 rfl (lv_at hl 1 rfl) ?_
            refine lv_iload S.x S.b d_Mpg_make2_429 (lv_at hl 3 rfl) ?_
            refine px_callv (pr := []) (px_runV (As := [.int x389_4]) (rest := []) S (hLK ma0 ys ns nf (wa228 - 1) V vl vh X9 fi S9 lv9 (bh - 1) h r g tf ta pf na ma wa cf ca xf xa ef288 ea289 x389_4 (show (pf 13).toInt ≤ 2100 from by first | exact g0 | omega) (show (tf 6).toInt ≤ 2049 from by first | exact g1 | omega) (show (cf 38).toInt = nf from by first | exact g2 | omega) (show 0 ≤ nf from by first | exact g3 | omega) (show 0 ≤ (ef288 60).toInt from by first | exact oz_2188d1bf01 e293 k389_2 g4 | omega) (show (ef288 60).toInt + (wa228 - 1) ≤ 7000 from by first | exact oz_f188fd5d8d hwa2 e293 k389_3 g5 | omega) (show (S9.length : Int) + (bh - 1) ≤ X9.tall fi from by first | with_reducible rfl | with_reducible assumption | omega) htk (FnT.eq hft (by omega)) hfp han hts hcx hmk_x389_4 _) hT (pr := []) (pcs := [wdP cs h r g tf ta pf na ma wa cf ca ef288 ea289 xf xa]) hw (oX_call (P := (fun A U H => (oP A g U H))) (pr := []) oG_P hw hA hP) (px_recv hT hw 0 0 rfl rfl rfl) m13_90 m13_87 m13_89 ms_14_3 m1_21 q_Mpg_make2 ⟨show (2 * d + 10) + 1 ≤ (2 * (d + 1) + 10) from by first | with_reducible rfl | with_reducible assumption | omega, show 8 + (8 + 11) + (120 * d + 320) ≤ (120 * (d + 1) + 320) from by first | with_reducible rfl | with_reducible assumption | omega⟩ hl.1 rfl (Nat.le_of_ble_eq_true rfl) d_Mpg_make2_431 ⟨Nat.le_of_ble_eq_true rfl, Nat.le_of_ble_eq_true rfl⟩) hw hA (fun p301 H locs hp301 hw => ?_)
            obtain ⟨ef299, ea300, rfl, e303, e304, e305, e306, e307, e308⟩ := hp301
            replace e303 : (ef288 60).toInt ≤ (ef299 60).toInt := e303
            replace e304 : (ef299 60).toInt ≤ (ef288 60).toInt + (wa228 - 1) := e304
            replace e305 : (ef299 64).toInt = (ef288 64).toInt := e305
            replace e306 : (ef299 65).toInt = (ef288 65).toInt := e306
            replace e307 : CdK ea289 ea300 (ef288 60).toInt := e307
            have hcd := hcd.tr e307 (by omega)
            replace e308 : SgQ X9 (ea300 61) (ef288 60).toInt (ef299 60).toInt fi S9 (0 :: S9) lv9 := e308
            replace hw : pw D A s.heap H locs [wdP cs h r g tf ta pf na ma wa cf ca ef299 ea300 xf xa] := hw
            refine lv_goto (tgt := 462) S.x S.b d_Mpg_make2_434 (by decide) ?_
            refine lv_aload_n S.x S.b d_Mpg_make2_462 rfl (lv_at hl 1 rfl) ?_
            refine px_get S k_Mpg hT hw 0 0 21 (v := .ref (r 21)) rfl rfl rfl (by decide) m10_7 d_Mpg_make2_463 ?_
            refine lv_iload S.x S.b d_Mpg_make2_466 (lv_at hl 3 rfl) ?_
            refine px_iald S hT hw 0 17 (n := 2100) (f := (na 21)) rfl gp_21 (x := x389_4) (vp_in_iff.mpr (by first | exact oz_235fb477f2 nc104 hm_md227.2.2.2 hm_md227.2.1 g0 | (constructor <;> omega))) d_Mpg_make2_468 ?_
            refine lv_topi (fun z309 ez309 => ?_)
            have lz309 := Int32.le_toInt z309
            have uz309 := Int32.toInt_lt z309
            refine lv_istore (lv' := [(4, .int z309), (3, .int v291), (0, .ref h), (1, .int p0)]) S.x S.b d_Mpg_make2_469 hl (by decide) rfl (fun ls hl => ?_)
            refine lv_goto (tgt := 389) S.x S.b d_Mpg_make2_471 (by decide) ?_
            exact ih389 ef299 ea300 md227 (wr_389 - wa228) v291 z309 _ _ ls (show 0 ≤ md227 from by first | exact oz_d3d3a7f06a hm_md227.2.2.2 nc104 | omega) (show md227 ≤ (pf 13).toInt from by first | exact oz_fdad9fdf0a hm_md227.2.1 | omega) (show (ef 60).toInt ≤ (ef299 60).toInt from by first | exact oz_db0ccc982f k389_2 e303 e293 | omega) (show (ef299 60).toInt + (wr_389 - wa228) ≤ (ef 60).toInt + wt from by first | exact oz_942662209a k389_3 e304 e293 | omega) (show (ma 22 p0.toNatClampNeg).toInt < 3 → (ef299 60).toInt + (wr_389 - wa228) + 4 ≤ (ef 60).toInt + wt from by first | exact fun q9 => oz_e0543921b5 e304 rz260 nc261 k389_4 e293 | omega) (show (ef299 64).toInt = (ef 64).toInt from by first | exact oz_e13fc83238 k389_5 e305 e294 | omega) (show (ef299 65).toInt = (ef 65).toInt from by first | exact oz_e13fc83238 k389_6 e306 e295 | omega) (show CdK ea ea300 (ef 60).toInt from hcd) (show (na 14 p0.toNatClampNeg).toInt = 7 from by first | exact k389_8 | omega) (show RvM ta (tf 6).toInt na ma0 ma ca V d md227 (pf 13).toInt (wr_389 - wa228) bh z309 from (by rw [ez309]; exact hrm2)) (show ChI X9 (ea300 61) (ef 60).toInt (ef299 60).toInt fi S9 lv9 v291 (ma 22 p0.toNatClampNeg).toInt from ⟨fun q9 => ChS.nx (hchi.1 q9) e296 e307 e308 (by omega) (i_eq.mpr (by omega)) (by omega) (by decide) (by omega), fun q9 => absurd q9 (by omega)⟩) (show (pf 13).toInt - md227 < (n_389 : Int) from by first | exact oz_2b66180fc4 hm hm_md227.2.2.2 hm_md227.2.2.1 | omega) hw (lv_sub hl [2, 3, 1, 0] rfl)
  refine lv_aload_n S.x S.b d_Mpg_make2_0 rfl (lv_at hl 0 rfl) ?_
  refine px_get S k_Mpg hT hw 0 0 14 (v := .ref (r 14)) rfl rfl rfl (by decide) m9_238 d_Mpg_make2_1 ?_
  refine lv_iload_n S.x S.b d_Mpg_make2_4 rfl (lv_at hl 1 rfl) ?_
  refine px_bald S hT hw 0 10 (n := 2100) (f := (na 14)) rfl gp_14 (x := p0) (vp_in_iff.mpr (by constructor <;> omega)) d_Mpg_make2_5 ?_
  refine lv_topi (fun z310 ez310 => ?_)
  have lz310 := Int32.le_toInt z310
  have uz310 := Int32.toInt_lt z310
  have rz310 := EcV.kd hec_p0 ez310
  refine px_tableD S (dt := 645) [(52, [1]), (73, [2]), (114, [3]), (268, [4]), (294, [5]), (355, [6]), (364, [7]), (580, [8])] d_Mpg_make2_6 (by decide +kernel) (by decide) (by decide +kernel) ?_ ?_
  · intro hdf_6
    refine lv_aload_n S.x S.b d_Mpg_make2_645 rfl (lv_at hl 0 rfl) ?_
    refine px_get S k_Mpg hT hw 0 0 17 (v := .ref (r 17)) rfl rfl rfl (by decide) m10_1 d_Mpg_make2_646 ?_
    refine lv_iload_n S.x S.b d_Mpg_make2_649 rfl (lv_at hl 1 rfl) ?_
    refine px_iald S hT hw 0 13 (n := 2100) (f := (na 17)) rfl gp_17 (x := p0) (vp_in_iff.mpr (by constructor <;> omega)) d_Mpg_make2_650 ?_
    refine lv_topi (fun z311 ez311 => ?_)
    have lz311 := Int32.le_toInt z311
    have uz311 := Int32.toInt_lt z311
    obtain ⟨w1, w2, hec_z311, h9a, h9b, hw9, hso9⟩ := MkB.f9 hts han hmk_p0 (by omega) ez311; have hrg_z311 := EcV.rng hec_z311
    refine lv_istore (lv' := [(6, .int z311), (0, .ref h), (1, .int p0)]) S.x S.b d_Mpg_make2_651 hl (by decide) rfl (fun ls hl => ?_)
    refine lv_aload_n S.x S.b d_Mpg_make2_653 rfl (lv_at hl 1 rfl) ?_
    refine px_get S k_Mpg hT hw 0 0 14 (v := .ref (r 14)) rfl rfl rfl (by decide) m9_238 d_Mpg_make2_654 ?_
    refine lv_iload S.x S.b d_Mpg_make2_657 (lv_at hl 0 rfl) ?_
    refine px_bald S hT hw 0 10 (n := 2100) (f := (na 14)) rfl gp_14 (x := z311) (vp_in_iff.mpr (by first | exact oz_b0899bab4c hrg_z311.1 hrg_z311.2.1 g0 | (constructor <;> omega))) d_Mpg_make2_659 ?_
    refine lv_topi (fun z312 ez312 => ?_)
    have lz312 := Int32.le_toInt z312
    have uz312 := Int32.toInt_lt z312
    have rz312 := EcV.kd hec_z311 ez312
    refine lv_iconst (v := 4) S.x S.b d_Mpg_make2_660 (by decide) ?_
    refine lv_icmp_ne (tgt := 668) S.x S.b d_Mpg_make2_661 (by decide) (fun c313 => ?_) (fun c313 => ?_)
    · have nc313 : ¬ z312.toInt = (4 : Int) := mt (i_eq (x := z312) (y := 4)).mpr c313
      refine lv_iconst (v := 0) S.x S.b d_Mpg_make2_668 (by decide) ?_
      refine lv_istore (lv' := [(7, .int 0), (6, .int z311), (0, .ref h), (1, .int p0)]) S.x S.b d_Mpg_make2_669 hl (by decide) rfl (fun ls hl => ?_)
      refine lv_iload S.x S.b d_Mpg_make2_671 (lv_at hl 0 rfl) ?_
      refine lv_if_eq (tgt := 687) S.x S.b d_Mpg_make2_673 (by decide) (fun c314 => ?_) (fun c314 => ?_)
      ·
        refine lv_aload_n S.x S.b d_Mpg_make2_687 rfl (lv_at hl 2 rfl) ?_
        refine lv_aload_n S.x S.b d_Mpg_make2_688 rfl (lv_at hl 2 rfl) ?_
        refine px_get S k_Mpg hT hw 0 0 18 (v := .ref (r 18)) rfl rfl rfl (by decide) m10_3 d_Mpg_make2_689 ?_
        refine lv_iload_n S.x S.b d_Mpg_make2_692 rfl (lv_at hl 3 rfl) ?_
        refine px_iald S hT hw 0 14 (n := 2100) (f := (ma 18)) rfl gp_18 (x := p0) (vp_in_iff.mpr (by constructor <;> omega)) d_Mpg_make2_693 ?_
        refine lv_topi (fun z315 ez315 => ?_)
        have lz315 := Int32.le_toInt z315
        have uz315 := Int32.toInt_lt z315
        have rz315 : z315.toInt = (ma 18 p0.toNatClampNeg).toInt := by rw [ez315]
        have h9c := h9a (by omega); have hmk_z315 : MkB ta (tf 6).toInt na ma0 ma ca V d (pf 13).toInt w2 bh z315 := (by rw [ez315]; exact h9c.2); have hec_z315 := hmk_z315.ec; have hrg_z315 := EcV.rng hec_z315; have hnn_z315 := hmk_z315.nn
        refine px_callv (pr := []) (px_runV (As := [.int z315]) (rest := []) S (hLK ma0 ys ns nf w2 V vl vh X9 fi S9 lv9 bh h r g tf ta pf na ma wa cf ca xf xa ef ea z315 (show (pf 13).toInt ≤ 2100 from by first | exact g0 | omega) (show (tf 6).toInt ≤ 2049 from by first | exact g1 | omega) (show (cf 38).toInt = nf from by first | exact g2 | omega) (show 0 ≤ nf from by first | exact g3 | omega) (show 0 ≤ (ef 60).toInt from by first | exact g4 | omega) (show (ef 60).toInt + w2 ≤ 7000 from by first | with_reducible rfl | with_reducible assumption | omega) (show (S9.length : Int) + bh ≤ X9.tall fi from by first | exact g6 | omega) htk (FnT.eq hft (by omega)) hfp han hts hcx hmk_z315 _) hT (pr := []) (pcs := [wdP cs h r g tf ta pf na ma wa cf ca ef ea xf xa]) hw (oX_call (P := (fun A U H => (oP A g U H))) (pr := []) oG_P hw hA hP) (px_recv hT hw 0 0 rfl rfl rfl) m13_90 m13_87 m13_89 ms_14_3 m1_21 q_Mpg_make2 ⟨show (2 * d + 10) + 1 ≤ (2 * (d + 1) + 10) from by first | with_reducible rfl | with_reducible assumption | omega, show 8 + (8 + 11) + (120 * d + 320) ≤ (120 * (d + 1) + 320) from by first | with_reducible rfl | with_reducible assumption | omega⟩ hl.1 rfl (Nat.le_of_ble_eq_true rfl) d_Mpg_make2_694 ⟨Nat.le_of_ble_eq_true rfl, Nat.le_of_ble_eq_true rfl⟩) hw hA (fun p320 H locs hp320 hw => ?_)
        obtain ⟨ef318, ea319, rfl, e322, e323, e324, e325, e326, e327⟩ := hp320
        replace e322 : (ef 60).toInt ≤ (ef318 60).toInt := e322
        replace e323 : (ef318 60).toInt ≤ (ef 60).toInt + w2 := e323
        replace e324 : (ef318 64).toInt = (ef 64).toInt := e324
        replace e325 : (ef318 65).toInt = (ef 65).toInt := e325
        replace e326 : CdK ea ea319 (ef 60).toInt := e326
        have hcd := hcd.tr e326 (by omega)
        replace e327 : SgQ X9 (ea319 61) (ef 60).toInt (ef318 60).toInt fi S9 (0 :: S9) lv9 := e327
        have hsg := hsg.ap e326 e327 (by omega)
        replace hw : pw D A s.heap H locs [wdP cs h r g tf ta pf na ma wa cf ca ef318 ea319 xf xa] := hw
        refine lv_aload_n S.x S.b d_Mpg_make2_697 rfl (lv_at hl 2 rfl) ?_
        refine px_get S k_Mpg hT hw 0 0 8 (v := .ref (r 8)) rfl rfl rfl (by decide) m9_232 d_Mpg_make2_698 ?_
        refine lv_aload_n S.x S.b d_Mpg_make2_701 rfl (lv_at hl 2 rfl) ?_
        refine px_get S k_Mpg hT hw 0 0 15 (v := .ref (r 15)) rfl rfl rfl (by decide) m9_239 d_Mpg_make2_702 ?_
        refine lv_iload_n S.x S.b d_Mpg_make2_705 rfl (lv_at hl 3 rfl) ?_
        refine px_iald S hT hw 0 11 (n := 2100) (f := (na 15)) rfl gp_15 (x := p0) (vp_in_iff.mpr (by constructor <;> omega)) d_Mpg_make2_706 ?_
        refine lv_topi (fun z328 ez328 => ?_)
        have lz328 := Int32.le_toInt z328
        have uz328 := Int32.toInt_lt z328
        have rz328 := EcV.tok hec_p0 ez328
        refine px_iald S hT hw 0 7 (n := 2060) (f := (ta 8)) rfl gp_8 (x := z328) (vp_in_iff.mpr (by constructor <;> omega)) d_Mpg_make2_707 ?_
        refine lv_topi (fun z329 ez329 => ?_)
        have lz329 := Int32.le_toInt z329
        have uz329 := Int32.toInt_lt z329
        have rz329 : z329.toInt = sz ta z328 := by rw [ez329]; rfl
        refine lv_iconst (v := 1) S.x S.b d_Mpg_make2_708 (by decide) ?_
        refine lv_icmp_ne (tgt := 738) S.x S.b d_Mpg_make2_709 (by decide) (fun c330 => ?_) (fun c330 => ?_)
        · have nc330 : ¬ z329.toInt = (1 : Int) := mt (i_eq (x := z329) (y := 1)).mpr c330
          refine lv_aload_n S.x S.b d_Mpg_make2_738 rfl (lv_at hl 2 rfl) ?_
          refine lv_iload S.x S.b d_Mpg_make2_739 (lv_at hl 0 rfl) ?_
          refine lv_if_eq (tgt := 749) S.x S.b d_Mpg_make2_741 (by decide) (fun c331 => ?_) (fun c331 => ?_)
          ·
            refine lv_bipush (v := 6) S.x S.b d_Mpg_make2_749 (by decide) ?_
            refine lv_aload_n S.x S.b d_Mpg_make2_751 rfl (lv_at hl 2 rfl) ?_
            refine px_get S k_Mpg hT hw 0 0 18 (v := .ref (r 18)) rfl rfl rfl (by decide) m10_3 d_Mpg_make2_752 ?_
            refine lv_iload S.x S.b d_Mpg_make2_755 (lv_at hl 1 rfl) ?_
            refine px_iald S hT hw 0 14 (n := 2100) (f := (ma 18)) rfl gp_18 (x := z311) (vp_in_iff.mpr (by first | exact oz_b0899bab4c hrg_z311.1 hrg_z311.2.1 g0 | (constructor <;> omega))) d_Mpg_make2_757 ?_
            refine lv_topi (fun z332 ez332 => ?_)
            have lz332 := Int32.le_toInt z332
            have uz332 := Int32.toInt_lt z332
            have rz332 : z332.toInt = (ma 18 z311.toNatClampNeg).toInt := by rw [ez332]
            refine lv_aload_n S.x S.b d_Mpg_make2_758 rfl (lv_at hl 2 rfl) ?_
            refine lv_aload_n S.x S.b d_Mpg_make2_759 rfl (lv_at hl 2 rfl) ?_
            refine px_get S k_Mpg hT hw 0 0 15 (v := .ref (r 15)) rfl rfl rfl (by decide) m9_239 d_Mpg_make2_760 ?_
            refine lv_iload_n S.x S.b d_Mpg_make2_763 rfl (lv_at hl 3 rfl) ?_
            refine px_iald S hT hw 0 11 (n := 2100) (f := (na 15)) rfl gp_15 (x := p0) (vp_in_iff.mpr (by constructor <;> omega)) d_Mpg_make2_764 ?_
            refine lv_topi (fun z333 ez333 => ?_)
            have lz333 := Int32.le_toInt z333
            have uz333 := Int32.toInt_lt z333
            have rz333 := EcV.tok hec_p0 ez333
            have hs5_z333 : so ta z333 = 5 := (by rw [ez333]; exact hso9)
            refine px_calli (pr := []) (px_runV (As := [.int z333]) (rest := [.int z332, .int 6, .ref h]) S (c_mp_assigned l D cs h r g tf ta pf na ma wa cf ca ef318 ea319 xf xa z333  (show 0 ≤ z333.toInt from by first | exact rz333.1 | omega) (show z333.toInt < (tf 6).toInt from by first | with_reducible rfl | with_reducible assumption | omega) (show (tf 6).toInt ≤ 2049 from by first | exact g1 | omega) (show so ta z333 = 5 from by first | exact hs5_z333 | omega) htk _) hT (pr := []) (pcs := [wdP cs h r g tf ta pf na ma wa cf ca ef318 ea319 xf xa]) hw (oX_call (P := (fun A U H => (oP A g U H))) (pr := []) oG_P hw hA hP) (px_recv hT hw 0 0 rfl rfl rfl) m13_110 m13_107 m13_109 ms_14_8 m1_21 q_Mpg_assigned ⟨show 4 + 1 ≤ (2 * (d + 1) + 10) from by first | with_reducible rfl | with_reducible assumption | omega, show 8 + (6 + 11) + 160 ≤ (120 * (d + 1) + 320) from by first | with_reducible rfl | with_reducible assumption | omega⟩ hl.1 rfl (Nat.le_of_ble_eq_true rfl) d_Mpg_make2_765 ⟨Nat.le_of_ble_eq_true rfl, Nat.le_of_ble_eq_true rfl⟩) hw hA (fun v335 p334 H locs hp334 hw => ?_)
            obtain ⟨rfl, e336, e337⟩ := hp334
            replace e336 : -1 ≤ v335.toInt := e336
            replace e337 : v335.toInt ≤ 42 := e337
            replace hw : pw D A s.heap H locs [wdP cs h r g tf ta pf na ma wa cf ca ef318 ea319 xf xa] := hw
            have lv335 := Int32.le_toInt v335
            have uv335 := Int32.toInt_lt v335
            refine px_calli (pr := []) (px_runV (As := [.int 6, .int z332, .int v335]) (rest := []) S (c_mp_emit l D cs h r g tf ta pf na ma wa cf ca xf xa ef318 ea319 6 z332 v335  (show 0 ≤ (ef318 60).toInt from by first | exact oz_16d7fa9f32 e322 g4 | omega) (show (ef318 60).toInt < 7000 from by first | with_reducible rfl | with_reducible assumption | omega) _) hT (pr := []) (pcs := [wdP cs h r g tf ta pf na ma wa cf ca ef318 ea319 xf xa]) hw px_X.tt (px_recv hT hw 0 0 rfl rfl rfl) m13_86 m13_83 m13_85 ms_14_2 m1_21 q_Mpg_emit ⟨show 0 + 1 ≤ (2 * (d + 1) + 10) from by first | with_reducible rfl | with_reducible assumption | omega, show 8 + (4 + 11) + 0 ≤ (120 * (d + 1) + 320) from by first | with_reducible rfl | with_reducible assumption | omega⟩ hl.1 rfl (Nat.le_of_ble_eq_true rfl) d_Mpg_make2_768 ⟨Nat.le_of_ble_eq_true rfl, Nat.le_of_ble_eq_true rfl⟩) hw hA (fun v343 p342 H locs hp342 hw => ?_)
            obtain ⟨ef340, ea341, rfl, e344, e345, e346, e347, e348⟩ := hp342
            replace e344 : v343.toInt = (ef318 60).toInt := e344
            replace e345 : (ef340 60).toInt = (ef318 60).toInt + 1 := e345
            replace e346 : (ef340 64).toInt = (ef318 64).toInt := e346
            replace e347 : (ef340 65).toInt = (ef318 65).toInt := e347
            replace e348 : EmU ea319 ea341 (ef318 60) (6 : Int32) z332 v335 := e348
            have hcd := hcd.tr e348.cd (by omega)
            have hsg := hsg.em e348 (by omega) rfl (by first | omega | (simp only [List.length_cons, List.length_append]; omega)) (hcx.save (by rw [ez332]; exact h9c.1) (Or.inr ⟨rfl, by omega, by omega⟩))
            replace hw : pw D A s.heap H locs [wdP cs h r g tf ta pf na ma wa cf ca ef340 ea341 xf xa] := hw
            have lv343 := Int32.le_toInt v343
            have uv343 := Int32.toInt_lt v343
            refine lv_pop S.x S.b d_Mpg_make2_771 rfl ?_
            exact px_vret S hr hlk hAe hw (Nat.le_of_ble_eq_true rfl) (Nat.le_of_ble_eq_true rfl) (⟨ef340, ea341, rfl, (show (ef 60).toInt ≤ (ef340 60).toInt from by first | exact oz_887c409de9 e322 e345 | omega), (show (ef340 60).toInt ≤ (ef 60).toInt + wt from by first | with_reducible rfl | with_reducible assumption | omega), (show (ef340 64).toInt = (ef 64).toInt from by first | exact oz_1687f4cc65 e324 e346 | omega), (show (ef340 65).toInt = (ef 65).toInt from by first | exact oz_1687f4cc65 e325 e347 | omega), (show CdK ea ea341 (ef 60).toInt from hcd), (show SgQ X9 (ea341 61) (ef 60).toInt (ef340 60).toInt fi S9 (0 :: S9) lv9 from (hsg.tq (by omega) (by omega) rfl))⟩) d_Mpg_make2_772
          · exact absurd c331 (by decide)
        · have nc330 : z329.toInt = (1 : Int) := (i_eq (x := z329) (y := 1)).mp c330
          refine lv_aload_n S.x S.b d_Mpg_make2_712 rfl (lv_at hl 2 rfl) ?_
          refine lv_iload S.x S.b d_Mpg_make2_713 (lv_at hl 0 rfl) ?_
          refine lv_if_eq (tgt := 722) S.x S.b d_Mpg_make2_715 (by decide) (fun c349 => ?_) (fun c349 => ?_)
          ·
            refine lv_iconst (v := 3) S.x S.b d_Mpg_make2_722 (by decide) ?_
            refine lv_aload_n S.x S.b d_Mpg_make2_723 rfl (lv_at hl 2 rfl) ?_
            refine px_get S k_Mpg hT hw 0 0 18 (v := .ref (r 18)) rfl rfl rfl (by decide) m10_3 d_Mpg_make2_724 ?_
            refine lv_iload S.x S.b d_Mpg_make2_727 (lv_at hl 1 rfl) ?_
            refine px_iald S hT hw 0 14 (n := 2100) (f := (ma 18)) rfl gp_18 (x := z311) (vp_in_iff.mpr (by first | exact oz_b0899bab4c hrg_z311.1 hrg_z311.2.1 g0 | (constructor <;> omega))) d_Mpg_make2_729 ?_
            refine lv_topi (fun z350 ez350 => ?_)
            have lz350 := Int32.le_toInt z350
            have uz350 := Int32.toInt_lt z350
            have rz350 : z350.toInt = (ma 18 z311.toNatClampNeg).toInt := by rw [ez350]
            refine lv_iconst (v := 0) S.x S.b d_Mpg_make2_730 (by decide) ?_
            refine px_calli (pr := []) (px_runV (As := [.int 3, .int z350, .int 0]) (rest := []) S (c_mp_emit l D cs h r g tf ta pf na ma wa cf ca xf xa ef318 ea319 3 z350 0  (show 0 ≤ (ef318 60).toInt from by first | exact oz_16d7fa9f32 e322 g4 | omega) (show (ef318 60).toInt < 7000 from by first | with_reducible rfl | with_reducible assumption | omega) _) hT (pr := []) (pcs := [wdP cs h r g tf ta pf na ma wa cf ca ef318 ea319 xf xa]) hw px_X.tt (px_recv hT hw 0 0 rfl rfl rfl) m13_86 m13_83 m13_85 ms_14_2 m1_21 q_Mpg_emit ⟨show 0 + 1 ≤ (2 * (d + 1) + 10) from by first | with_reducible rfl | with_reducible assumption | omega, show 8 + (4 + 11) + 0 ≤ (120 * (d + 1) + 320) from by first | with_reducible rfl | with_reducible assumption | omega⟩ hl.1 rfl (Nat.le_of_ble_eq_true rfl) d_Mpg_make2_731 ⟨Nat.le_of_ble_eq_true rfl, Nat.le_of_ble_eq_true rfl⟩) hw hA (fun v356 p355 H locs hp355 hw => ?_)
            obtain ⟨ef353, ea354, rfl, e357, e358, e359, e360, e361⟩ := hp355
            replace e357 : v356.toInt = (ef318 60).toInt := e357
            replace e358 : (ef353 60).toInt = (ef318 60).toInt + 1 := e358
            replace e359 : (ef353 64).toInt = (ef318 64).toInt := e359
            replace e360 : (ef353 65).toInt = (ef318 65).toInt := e360
            replace e361 : EmU ea319 ea354 (ef318 60) (3 : Int32) z350 (0 : Int32) := e361
            have hcd := hcd.tr e361.cd (by omega)
            have hsg := hsg.em e361 (by omega) rfl (by first | omega | (simp only [List.length_cons, List.length_append]; omega)) (hcx.save (by rw [ez350]; exact h9c.1) (Or.inl rfl))
            replace hw : pw D A s.heap H locs [wdP cs h r g tf ta pf na ma wa cf ca ef353 ea354 xf xa] := hw
            have lv356 := Int32.le_toInt v356
            have uv356 := Int32.toInt_lt v356
            refine lv_pop S.x S.b d_Mpg_make2_734 rfl ?_
            refine lv_goto (tgt := 772) S.x S.b d_Mpg_make2_735 (by decide) ?_
            exact px_vret S hr hlk hAe hw (Nat.le_of_ble_eq_true rfl) (Nat.le_of_ble_eq_true rfl) (⟨ef353, ea354, rfl, (show (ef 60).toInt ≤ (ef353 60).toInt from by first | exact oz_887c409de9 e322 e358 | omega), (show (ef353 60).toInt ≤ (ef 60).toInt + wt from by first | with_reducible rfl | with_reducible assumption | omega), (show (ef353 64).toInt = (ef 64).toInt from by first | exact oz_1687f4cc65 e324 e359 | omega), (show (ef353 65).toInt = (ef 65).toInt from by first | exact oz_1687f4cc65 e325 e360 | omega), (show CdK ea ea354 (ef 60).toInt from hcd), (show SgQ X9 (ea354 61) (ef 60).toInt (ef353 60).toInt fi S9 (0 :: S9) lv9 from (hsg.tq (by omega) (by omega) rfl))⟩) d_Mpg_make2_772
          · exact absurd c349 (by decide)
      · exact absurd c314 (by decide)
    · have nc313 : z312.toInt = (4 : Int) := (i_eq (x := z312) (y := 4)).mp c313
      refine lv_iconst (v := 1) S.x S.b d_Mpg_make2_664 (by decide) ?_
      refine lv_goto (tgt := 669) S.x S.b d_Mpg_make2_665 (by decide) ?_
      refine lv_istore (lv' := [(7, .int 1), (6, .int z311), (0, .ref h), (1, .int p0)]) S.x S.b d_Mpg_make2_669 hl (by decide) rfl (fun ls hl => ?_)
      refine lv_iload S.x S.b d_Mpg_make2_671 (lv_at hl 0 rfl) ?_
      refine lv_if_eq (tgt := 687) S.x S.b d_Mpg_make2_673 (by decide) (fun c362 => ?_) (fun c362 => ?_)
      · exact absurd c362 (by decide)
      ·
        refine lv_aload_n S.x S.b d_Mpg_make2_676 rfl (lv_at hl 2 rfl) ?_
        refine lv_aload_n S.x S.b d_Mpg_make2_677 rfl (lv_at hl 2 rfl) ?_
        refine px_get S k_Mpg hT hw 0 0 17 (v := .ref (r 17)) rfl rfl rfl (by decide) m10_1 d_Mpg_make2_678 ?_
        refine lv_iload S.x S.b d_Mpg_make2_681 (lv_at hl 1 rfl) ?_
        refine px_iald S hT hw 0 13 (n := 2100) (f := (na 17)) rfl gp_17 (x := z311) (vp_in_iff.mpr (by first | exact oz_b0899bab4c hrg_z311.1 hrg_z311.2.1 g0 | (constructor <;> omega))) d_Mpg_make2_683 ?_
        refine lv_topi (fun z363 ez363 => ?_)
        have lz363 := Int32.le_toInt z363
        have uz363 := Int32.toInt_lt z363
        have h9c := h9b (by omega); have hmk_z363 : MkB ta (tf 6).toInt na ma0 ma ca V d (pf 13).toInt (w1 - 1) bh z363 := (by rw [ez363]; exact h9c.2.1); have hec_z363 := hmk_z363.ec; have hrg_z363 := EcV.rng hec_z363; have hnn_z363 := hmk_z363.nn
        refine px_callv (pr := []) (px_runV (As := [.int z363]) (rest := []) S (hLK ma0 ys ns nf (w1 - 1) V vl vh X9 fi S9 lv9 bh h r g tf ta pf na ma wa cf ca xf xa ef ea z363 (show (pf 13).toInt ≤ 2100 from by first | exact g0 | omega) (show (tf 6).toInt ≤ 2049 from by first | exact g1 | omega) (show (cf 38).toInt = nf from by first | exact g2 | omega) (show 0 ≤ nf from by first | exact g3 | omega) (show 0 ≤ (ef 60).toInt from by first | exact g4 | omega) (show (ef 60).toInt + (w1 - 1) ≤ 7000 from by first | with_reducible rfl | with_reducible assumption | omega) (show (S9.length : Int) + bh ≤ X9.tall fi from by first | exact g6 | omega) htk (FnT.eq hft (by omega)) hfp han hts hcx hmk_z363 _) hT (pr := []) (pcs := [wdP cs h r g tf ta pf na ma wa cf ca ef ea xf xa]) hw (oX_call (P := (fun A U H => (oP A g U H))) (pr := []) oG_P hw hA hP) (px_recv hT hw 0 0 rfl rfl rfl) m13_90 m13_87 m13_89 ms_14_3 m1_21 q_Mpg_make2 ⟨show (2 * d + 10) + 1 ≤ (2 * (d + 1) + 10) from by first | with_reducible rfl | with_reducible assumption | omega, show 8 + (8 + 11) + (120 * d + 320) ≤ (120 * (d + 1) + 320) from by first | with_reducible rfl | with_reducible assumption | omega⟩ hl.1 rfl (Nat.le_of_ble_eq_true rfl) d_Mpg_make2_684 ⟨Nat.le_of_ble_eq_true rfl, Nat.le_of_ble_eq_true rfl⟩) hw hA (fun p368 H locs hp368 hw => ?_)
        obtain ⟨ef366, ea367, rfl, e370, e371, e372, e373, e374, e375⟩ := hp368
        replace e370 : (ef 60).toInt ≤ (ef366 60).toInt := e370
        replace e371 : (ef366 60).toInt ≤ (ef 60).toInt + (w1 - 1) := e371
        replace e372 : (ef366 64).toInt = (ef 64).toInt := e372
        replace e373 : (ef366 65).toInt = (ef 65).toInt := e373
        replace e374 : CdK ea ea367 (ef 60).toInt := e374
        have hcd := hcd.tr e374 (by omega)
        replace e375 : SgQ X9 (ea367 61) (ef 60).toInt (ef366 60).toInt fi S9 (0 :: S9) lv9 := e375
        have hsg := hsg.ap e374 e375 (by omega)
        replace hw : pw D A s.heap H locs [wdP cs h r g tf ta pf na ma wa cf ca ef366 ea367 xf xa] := hw
        refine lv_aload_n S.x S.b d_Mpg_make2_687 rfl (lv_at hl 2 rfl) ?_
        refine lv_aload_n S.x S.b d_Mpg_make2_688 rfl (lv_at hl 2 rfl) ?_
        refine px_get S k_Mpg hT hw 0 0 18 (v := .ref (r 18)) rfl rfl rfl (by decide) m10_3 d_Mpg_make2_689 ?_
        refine lv_iload_n S.x S.b d_Mpg_make2_692 rfl (lv_at hl 3 rfl) ?_
        refine px_iald S hT hw 0 14 (n := 2100) (f := (ma 18)) rfl gp_18 (x := p0) (vp_in_iff.mpr (by constructor <;> omega)) d_Mpg_make2_693 ?_
        refine lv_topi (fun z376 ez376 => ?_)
        have lz376 := Int32.le_toInt z376
        have uz376 := Int32.toInt_lt z376
        have rz376 : z376.toInt = (ma 18 p0.toNatClampNeg).toInt := by rw [ez376]
        have hmk_z376 : MkB ta (tf 6).toInt na ma0 ma ca V d (pf 13).toInt w2 (bh - 1) z376 := (by rw [ez376]; exact h9c.2.2); have hec_z376 := hmk_z376.ec; have hrg_z376 := EcV.rng hec_z376; have hnn_z376 := hmk_z376.nn
        refine px_callv (pr := []) (px_runV (As := [.int z376]) (rest := []) S (hLK ma0 ys ns nf w2 V vl vh X9 fi (0 :: S9) lv9 (bh - 1) h r g tf ta pf na ma wa cf ca xf xa ef366 ea367 z376 (show (pf 13).toInt ≤ 2100 from by first | exact g0 | omega) (show (tf 6).toInt ≤ 2049 from by first | exact g1 | omega) (show (cf 38).toInt = nf from by first | exact g2 | omega) (show 0 ≤ nf from by first | exact g3 | omega) (show 0 ≤ (ef366 60).toInt from by first | exact oz_16d7fa9f32 e370 g4 | omega) (show (ef366 60).toInt + w2 ≤ 7000 from by first | exact oz_ef3889ada3 hw9.2.2 e371 g5 | omega) (show ((0 :: S9).length : Int) + (bh - 1) ≤ X9.tall fi from by first | with_reducible rfl | with_reducible assumption | omega) htk (FnT.eq hft (by omega)) hfp han hts hcx hmk_z376 _) hT (pr := []) (pcs := [wdP cs h r g tf ta pf na ma wa cf ca ef366 ea367 xf xa]) hw (oX_call (P := (fun A U H => (oP A g U H))) (pr := []) oG_P hw hA hP) (px_recv hT hw 0 0 rfl rfl rfl) m13_90 m13_87 m13_89 ms_14_3 m1_21 q_Mpg_make2 ⟨show (2 * d + 10) + 1 ≤ (2 * (d + 1) + 10) from by first | with_reducible rfl | with_reducible assumption | omega, show 8 + (8 + 11) + (120 * d + 320) ≤ (120 * (d + 1) + 320) from by first | with_reducible rfl | with_reducible assumption | omega⟩ hl.1 rfl (Nat.le_of_ble_eq_true rfl) d_Mpg_make2_694 ⟨Nat.le_of_ble_eq_true rfl, Nat.le_of_ble_eq_true rfl⟩) hw hA (fun p381 H locs hp381 hw => ?_)
        obtain ⟨ef379, ea380, rfl, e383, e384, e385, e386, e387, e388⟩ := hp381
        replace e383 : (ef366 60).toInt ≤ (ef379 60).toInt := e383
        replace e384 : (ef379 60).toInt ≤ (ef366 60).toInt + w2 := e384
        replace e385 : (ef379 64).toInt = (ef366 64).toInt := e385
        replace e386 : (ef379 65).toInt = (ef366 65).toInt := e386
        replace e387 : CdK ea367 ea380 (ef366 60).toInt := e387
        have hcd := hcd.tr e387 (by omega)
        replace e388 : SgQ X9 (ea380 61) (ef366 60).toInt (ef379 60).toInt fi (0 :: S9) (0 :: (0 :: S9)) lv9 := e388
        have hsg := hsg.ap e387 e388 (by omega)
        replace hw : pw D A s.heap H locs [wdP cs h r g tf ta pf na ma wa cf ca ef379 ea380 xf xa] := hw
        refine lv_aload_n S.x S.b d_Mpg_make2_697 rfl (lv_at hl 2 rfl) ?_
        refine px_get S k_Mpg hT hw 0 0 8 (v := .ref (r 8)) rfl rfl rfl (by decide) m9_232 d_Mpg_make2_698 ?_
        refine lv_aload_n S.x S.b d_Mpg_make2_701 rfl (lv_at hl 2 rfl) ?_
        refine px_get S k_Mpg hT hw 0 0 15 (v := .ref (r 15)) rfl rfl rfl (by decide) m9_239 d_Mpg_make2_702 ?_
        refine lv_iload_n S.x S.b d_Mpg_make2_705 rfl (lv_at hl 3 rfl) ?_
        refine px_iald S hT hw 0 11 (n := 2100) (f := (na 15)) rfl gp_15 (x := p0) (vp_in_iff.mpr (by constructor <;> omega)) d_Mpg_make2_706 ?_
        refine lv_topi (fun z389 ez389 => ?_)
        have lz389 := Int32.le_toInt z389
        have uz389 := Int32.toInt_lt z389
        have rz389 := EcV.tok hec_p0 ez389
        refine px_iald S hT hw 0 7 (n := 2060) (f := (ta 8)) rfl gp_8 (x := z389) (vp_in_iff.mpr (by constructor <;> omega)) d_Mpg_make2_707 ?_
        refine lv_topi (fun z390 ez390 => ?_)
        have lz390 := Int32.le_toInt z390
        have uz390 := Int32.toInt_lt z390
        have rz390 : z390.toInt = sz ta z389 := by rw [ez390]; rfl
        refine lv_iconst (v := 1) S.x S.b d_Mpg_make2_708 (by decide) ?_
        refine lv_icmp_ne (tgt := 738) S.x S.b d_Mpg_make2_709 (by decide) (fun c391 => ?_) (fun c391 => ?_)
        · have nc391 : ¬ z390.toInt = (1 : Int) := mt (i_eq (x := z390) (y := 1)).mpr c391
          refine lv_aload_n S.x S.b d_Mpg_make2_738 rfl (lv_at hl 2 rfl) ?_
          refine lv_iload S.x S.b d_Mpg_make2_739 (lv_at hl 0 rfl) ?_
          refine lv_if_eq (tgt := 749) S.x S.b d_Mpg_make2_741 (by decide) (fun c392 => ?_) (fun c392 => ?_)
          · exact absurd c392 (by decide)
          ·
            refine lv_bipush (v := 7) S.x S.b d_Mpg_make2_744 (by decide) ?_
            refine lv_goto (tgt := 751) S.x S.b d_Mpg_make2_746 (by decide) ?_
            refine lv_aload_n S.x S.b d_Mpg_make2_751 rfl (lv_at hl 2 rfl) ?_
            refine px_get S k_Mpg hT hw 0 0 18 (v := .ref (r 18)) rfl rfl rfl (by decide) m10_3 d_Mpg_make2_752 ?_
            refine lv_iload S.x S.b d_Mpg_make2_755 (lv_at hl 1 rfl) ?_
            refine px_iald S hT hw 0 14 (n := 2100) (f := (ma 18)) rfl gp_18 (x := z311) (vp_in_iff.mpr (by first | exact oz_b0899bab4c hrg_z311.1 hrg_z311.2.1 g0 | (constructor <;> omega))) d_Mpg_make2_757 ?_
            refine lv_topi (fun z393 ez393 => ?_)
            have lz393 := Int32.le_toInt z393
            have uz393 := Int32.toInt_lt z393
            have rz393 : z393.toInt = (ma 18 z311.toNatClampNeg).toInt := by rw [ez393]
            refine lv_aload_n S.x S.b d_Mpg_make2_758 rfl (lv_at hl 2 rfl) ?_
            refine lv_aload_n S.x S.b d_Mpg_make2_759 rfl (lv_at hl 2 rfl) ?_
            refine px_get S k_Mpg hT hw 0 0 15 (v := .ref (r 15)) rfl rfl rfl (by decide) m9_239 d_Mpg_make2_760 ?_
            refine lv_iload_n S.x S.b d_Mpg_make2_763 rfl (lv_at hl 3 rfl) ?_
            refine px_iald S hT hw 0 11 (n := 2100) (f := (na 15)) rfl gp_15 (x := p0) (vp_in_iff.mpr (by constructor <;> omega)) d_Mpg_make2_764 ?_
            refine lv_topi (fun z394 ez394 => ?_)
            have lz394 := Int32.le_toInt z394
            have uz394 := Int32.toInt_lt z394
            have rz394 := EcV.tok hec_p0 ez394
            have hs5_z394 : so ta z394 = 5 := (by rw [ez394]; exact hso9)
            refine px_calli (pr := []) (px_runV (As := [.int z394]) (rest := [.int z393, .int 7, .ref h]) S (c_mp_assigned l D cs h r g tf ta pf na ma wa cf ca ef379 ea380 xf xa z394  (show 0 ≤ z394.toInt from by first | exact rz394.1 | omega) (show z394.toInt < (tf 6).toInt from by first | with_reducible rfl | with_reducible assumption | omega) (show (tf 6).toInt ≤ 2049 from by first | exact g1 | omega) (show so ta z394 = 5 from by first | exact hs5_z394 | omega) htk _) hT (pr := []) (pcs := [wdP cs h r g tf ta pf na ma wa cf ca ef379 ea380 xf xa]) hw (oX_call (P := (fun A U H => (oP A g U H))) (pr := []) oG_P hw hA hP) (px_recv hT hw 0 0 rfl rfl rfl) m13_110 m13_107 m13_109 ms_14_8 m1_21 q_Mpg_assigned ⟨show 4 + 1 ≤ (2 * (d + 1) + 10) from by first | with_reducible rfl | with_reducible assumption | omega, show 8 + (6 + 11) + 160 ≤ (120 * (d + 1) + 320) from by first | with_reducible rfl | with_reducible assumption | omega⟩ hl.1 rfl (Nat.le_of_ble_eq_true rfl) d_Mpg_make2_765 ⟨Nat.le_of_ble_eq_true rfl, Nat.le_of_ble_eq_true rfl⟩) hw hA (fun v396 p395 H locs hp395 hw => ?_)
            obtain ⟨rfl, e397, e398⟩ := hp395
            replace e397 : -1 ≤ v396.toInt := e397
            replace e398 : v396.toInt ≤ 42 := e398
            replace hw : pw D A s.heap H locs [wdP cs h r g tf ta pf na ma wa cf ca ef379 ea380 xf xa] := hw
            have lv396 := Int32.le_toInt v396
            have uv396 := Int32.toInt_lt v396
            refine px_calli (pr := []) (px_runV (As := [.int 7, .int z393, .int v396]) (rest := []) S (c_mp_emit l D cs h r g tf ta pf na ma wa cf ca xf xa ef379 ea380 7 z393 v396  (show 0 ≤ (ef379 60).toInt from by first | exact oz_fe2fd2b0f6 e383 e370 g4 | omega) (show (ef379 60).toInt < 7000 from by first | exact oz_0d476d6751 e384 hw9.2.2 e371 g5 | omega) _) hT (pr := []) (pcs := [wdP cs h r g tf ta pf na ma wa cf ca ef379 ea380 xf xa]) hw px_X.tt (px_recv hT hw 0 0 rfl rfl rfl) m13_86 m13_83 m13_85 ms_14_2 m1_21 q_Mpg_emit ⟨show 0 + 1 ≤ (2 * (d + 1) + 10) from by first | with_reducible rfl | with_reducible assumption | omega, show 8 + (4 + 11) + 0 ≤ (120 * (d + 1) + 320) from by first | with_reducible rfl | with_reducible assumption | omega⟩ hl.1 rfl (Nat.le_of_ble_eq_true rfl) d_Mpg_make2_768 ⟨Nat.le_of_ble_eq_true rfl, Nat.le_of_ble_eq_true rfl⟩) hw hA (fun v404 p403 H locs hp403 hw => ?_)
            obtain ⟨ef401, ea402, rfl, e405, e406, e407, e408, e409⟩ := hp403
            replace e405 : v404.toInt = (ef379 60).toInt := e405
            replace e406 : (ef401 60).toInt = (ef379 60).toInt + 1 := e406
            replace e407 : (ef401 64).toInt = (ef379 64).toInt := e407
            replace e408 : (ef401 65).toInt = (ef379 65).toInt := e408
            replace e409 : EmU ea380 ea402 (ef379 60) (7 : Int32) z393 v396 := e409
            have hcd := hcd.tr e409.cd (by omega)
            have hsg := hsg.em e409 (by omega) rfl (by first | omega | (simp only [List.length_cons, List.length_append]; omega)) (hcx.sel (by rw [ez393]; exact h9c.1) (Or.inr ⟨rfl, by omega, by omega⟩))
            replace hw : pw D A s.heap H locs [wdP cs h r g tf ta pf na ma wa cf ca ef401 ea402 xf xa] := hw
            have lv404 := Int32.le_toInt v404
            have uv404 := Int32.toInt_lt v404
            refine lv_pop S.x S.b d_Mpg_make2_771 rfl ?_
            exact px_vret S hr hlk hAe hw (Nat.le_of_ble_eq_true rfl) (Nat.le_of_ble_eq_true rfl) (⟨ef401, ea402, rfl, (show (ef 60).toInt ≤ (ef401 60).toInt from by first | exact oz_3eddb8f087 e370 e406 e383 | omega), (show (ef401 60).toInt ≤ (ef 60).toInt + wt from by first | exact oz_003cf3ba25 hw9.2.2 e371 e406 e384 | omega), (show (ef401 64).toInt = (ef 64).toInt from by first | exact oz_e13fc83238 e372 e407 e385 | omega), (show (ef401 65).toInt = (ef 65).toInt from by first | exact oz_e13fc83238 e373 e408 e386 | omega), (show CdK ea ea402 (ef 60).toInt from hcd), (show SgQ X9 (ea402 61) (ef 60).toInt (ef401 60).toInt fi S9 (0 :: S9) lv9 from (hsg.tq (by omega) (by omega) rfl))⟩) d_Mpg_make2_772
        · have nc391 : z390.toInt = (1 : Int) := (i_eq (x := z390) (y := 1)).mp c391
          refine lv_aload_n S.x S.b d_Mpg_make2_712 rfl (lv_at hl 2 rfl) ?_
          refine lv_iload S.x S.b d_Mpg_make2_713 (lv_at hl 0 rfl) ?_
          refine lv_if_eq (tgt := 722) S.x S.b d_Mpg_make2_715 (by decide) (fun c410 => ?_) (fun c410 => ?_)
          · exact absurd c410 (by decide)
          ·
            refine lv_iconst (v := 5) S.x S.b d_Mpg_make2_718 (by decide) ?_
            refine lv_goto (tgt := 723) S.x S.b d_Mpg_make2_719 (by decide) ?_
            refine lv_aload_n S.x S.b d_Mpg_make2_723 rfl (lv_at hl 2 rfl) ?_
            refine px_get S k_Mpg hT hw 0 0 18 (v := .ref (r 18)) rfl rfl rfl (by decide) m10_3 d_Mpg_make2_724 ?_
            refine lv_iload S.x S.b d_Mpg_make2_727 (lv_at hl 1 rfl) ?_
            refine px_iald S hT hw 0 14 (n := 2100) (f := (ma 18)) rfl gp_18 (x := z311) (vp_in_iff.mpr (by first | exact oz_b0899bab4c hrg_z311.1 hrg_z311.2.1 g0 | (constructor <;> omega))) d_Mpg_make2_729 ?_
            refine lv_topi (fun z411 ez411 => ?_)
            have lz411 := Int32.le_toInt z411
            have uz411 := Int32.toInt_lt z411
            have rz411 : z411.toInt = (ma 18 z311.toNatClampNeg).toInt := by rw [ez411]
            refine lv_iconst (v := 0) S.x S.b d_Mpg_make2_730 (by decide) ?_
            refine px_calli (pr := []) (px_runV (As := [.int 5, .int z411, .int 0]) (rest := []) S (c_mp_emit l D cs h r g tf ta pf na ma wa cf ca xf xa ef379 ea380 5 z411 0  (show 0 ≤ (ef379 60).toInt from by first | exact oz_fe2fd2b0f6 e383 e370 g4 | omega) (show (ef379 60).toInt < 7000 from by first | exact oz_0d476d6751 e384 hw9.2.2 e371 g5 | omega) _) hT (pr := []) (pcs := [wdP cs h r g tf ta pf na ma wa cf ca ef379 ea380 xf xa]) hw px_X.tt (px_recv hT hw 0 0 rfl rfl rfl) m13_86 m13_83 m13_85 ms_14_2 m1_21 q_Mpg_emit ⟨show 0 + 1 ≤ (2 * (d + 1) + 10) from by first | with_reducible rfl | with_reducible assumption | omega, show 8 + (4 + 11) + 0 ≤ (120 * (d + 1) + 320) from by first | with_reducible rfl | with_reducible assumption | omega⟩ hl.1 rfl (Nat.le_of_ble_eq_true rfl) d_Mpg_make2_731 ⟨Nat.le_of_ble_eq_true rfl, Nat.le_of_ble_eq_true rfl⟩) hw hA (fun v417 p416 H locs hp416 hw => ?_)
            obtain ⟨ef414, ea415, rfl, e418, e419, e420, e421, e422⟩ := hp416
            replace e418 : v417.toInt = (ef379 60).toInt := e418
            replace e419 : (ef414 60).toInt = (ef379 60).toInt + 1 := e419
            replace e420 : (ef414 64).toInt = (ef379 64).toInt := e420
            replace e421 : (ef414 65).toInt = (ef379 65).toInt := e421
            replace e422 : EmU ea380 ea415 (ef379 60) (5 : Int32) z411 (0 : Int32) := e422
            have hcd := hcd.tr e422.cd (by omega)
            have hsg := hsg.em e422 (by omega) rfl (by first | omega | (simp only [List.length_cons, List.length_append]; omega)) (hcx.sel (by rw [ez411]; exact h9c.1) (Or.inl rfl))
            replace hw : pw D A s.heap H locs [wdP cs h r g tf ta pf na ma wa cf ca ef414 ea415 xf xa] := hw
            have lv417 := Int32.le_toInt v417
            have uv417 := Int32.toInt_lt v417
            refine lv_pop S.x S.b d_Mpg_make2_734 rfl ?_
            refine lv_goto (tgt := 772) S.x S.b d_Mpg_make2_735 (by decide) ?_
            exact px_vret S hr hlk hAe hw (Nat.le_of_ble_eq_true rfl) (Nat.le_of_ble_eq_true rfl) (⟨ef414, ea415, rfl, (show (ef 60).toInt ≤ (ef414 60).toInt from by first | exact oz_3eddb8f087 e370 e419 e383 | omega), (show (ef414 60).toInt ≤ (ef 60).toInt + wt from by first | exact oz_003cf3ba25 hw9.2.2 e371 e419 e384 | omega), (show (ef414 64).toInt = (ef 64).toInt from by first | exact oz_e13fc83238 e372 e420 e385 | omega), (show (ef414 65).toInt = (ef 65).toInt from by first | exact oz_e13fc83238 e373 e421 e386 | omega), (show CdK ea ea415 (ef 60).toInt from hcd), (show SgQ X9 (ea415 61) (ef 60).toInt (ef414 60).toInt fi S9 (0 :: S9) lv9 from (hsg.tq (by omega) (by omega) rfl))⟩) d_Mpg_make2_772
  · refine List.forall_mem_cons.mpr ⟨fun c423 => ?_, List.forall_mem_cons.mpr ⟨fun c423 => ?_, List.forall_mem_cons.mpr ⟨fun c423 => ?_, List.forall_mem_cons.mpr ⟨fun c423 => ?_, List.forall_mem_cons.mpr ⟨fun c423 => ?_, List.forall_mem_cons.mpr ⟨fun c423 => ?_, List.forall_mem_cons.mpr ⟨fun c423 => ?_, List.forall_mem_cons.mpr ⟨fun c423 => ?_, fun _ h => absurd h List.not_mem_nil⟩⟩⟩⟩⟩⟩⟩⟩
    · simp only [List.mem_cons, List.not_mem_nil, or_false] at c423
      refine lv_aload_n S.x S.b d_Mpg_make2_52 rfl (lv_at hl 0 rfl) ?_
      have hw12 := EwV.k12 hmk_p0.1 (by omega)
      refine lv_iconst (v := 1) S.x S.b d_Mpg_make2_53 (by decide) ?_
      refine lv_aload_n S.x S.b d_Mpg_make2_54 rfl (lv_at hl 0 rfl) ?_
      refine px_get S k_Mpg hT hw 0 0 10 (v := .ref (r 10)) rfl rfl rfl (by decide) m9_234 d_Mpg_make2_55 ?_
      refine lv_aload_n S.x S.b d_Mpg_make2_58 rfl (lv_at hl 0 rfl) ?_
      refine px_get S k_Mpg hT hw 0 0 15 (v := .ref (r 15)) rfl rfl rfl (by decide) m9_239 d_Mpg_make2_59 ?_
      refine lv_iload_n S.x S.b d_Mpg_make2_62 rfl (lv_at hl 1 rfl) ?_
      refine px_iald S hT hw 0 11 (n := 2100) (f := (na 15)) rfl gp_15 (x := p0) (vp_in_iff.mpr (by constructor <;> omega)) d_Mpg_make2_63 ?_
      refine lv_topi (fun z424 ez424 => ?_)
      have lz424 := Int32.le_toInt z424
      have uz424 := Int32.toInt_lt z424
      have rz424 := EcV.tok hec_p0 ez424
      refine px_iald S hT hw 0 9 (n := 2060) (f := (ta 10)) rfl gp_10 (x := z424) (vp_in_iff.mpr (by constructor <;> omega)) d_Mpg_make2_64 ?_
      refine lv_topi (fun z425 ez425 => ?_)
      have lz425 := Int32.le_toInt z425
      have uz425 := Int32.toInt_lt z425
      refine lv_iconst (v := 0) S.x S.b d_Mpg_make2_65 (by decide) ?_
      refine px_calli (pr := []) (px_runV (As := [.int 1, .int z425, .int 0]) (rest := []) S (c_mp_emit l D cs h r g tf ta pf na ma wa cf ca xf xa ef ea 1 z425 0  (show 0 ≤ (ef 60).toInt from by first | exact g4 | omega) (show (ef 60).toInt < 7000 from by first | exact oz_a47963ef3b g5 hw12 | omega) _) hT (pr := []) (pcs := [wdP cs h r g tf ta pf na ma wa cf ca ef ea xf xa]) hw px_X.tt (px_recv hT hw 0 0 rfl rfl rfl) m13_86 m13_83 m13_85 ms_14_2 m1_21 q_Mpg_emit ⟨show 0 + 1 ≤ (2 * (d + 1) + 10) from by first | with_reducible rfl | with_reducible assumption | omega, show 8 + (4 + 11) + 0 ≤ (120 * (d + 1) + 320) from by first | with_reducible rfl | with_reducible assumption | omega⟩ hl.1 rfl (Nat.le_of_ble_eq_true rfl) d_Mpg_make2_66 ⟨Nat.le_of_ble_eq_true rfl, Nat.le_of_ble_eq_true rfl⟩) hw hA (fun v431 p430 H locs hp430 hw => ?_)
      obtain ⟨ef428, ea429, rfl, e432, e433, e434, e435, e436⟩ := hp430
      replace e432 : v431.toInt = (ef 60).toInt := e432
      replace e433 : (ef428 60).toInt = (ef 60).toInt + 1 := e433
      replace e434 : (ef428 64).toInt = (ef 64).toInt := e434
      replace e435 : (ef428 65).toInt = (ef 65).toInt := e435
      replace e436 : EmU ea ea429 (ef 60) (1 : Int32) z425 (0 : Int32) := e436
      have hcd := hcd.tr e436.cd (by omega)
      have hsg := hsg.em e436 (by omega) rfl (by first | omega | (simp only [List.length_cons, List.length_append]; omega)) (.push S9 rfl)
      replace hw : pw D A s.heap H locs [wdP cs h r g tf ta pf na ma wa cf ca ef428 ea429 xf xa] := hw
      have lv431 := Int32.le_toInt v431
      have uv431 := Int32.toInt_lt v431
      refine lv_pop S.x S.b d_Mpg_make2_69 rfl ?_
      refine lv_goto (tgt := 772) S.x S.b d_Mpg_make2_70 (by decide) ?_
      exact px_vret S hr hlk hAe hw (Nat.le_of_ble_eq_true rfl) (Nat.le_of_ble_eq_true rfl) (⟨ef428, ea429, rfl, (show (ef 60).toInt ≤ (ef428 60).toInt from by first | exact oz_7db54039c4 e433 | omega), (show (ef428 60).toInt ≤ (ef 60).toInt + wt from by first | exact oz_33b972cc46 hw12 e433 | omega), (show (ef428 64).toInt = (ef 64).toInt from by first | exact e434 | omega), (show (ef428 65).toInt = (ef 65).toInt from by first | exact e435 | omega), (show CdK ea ea429 (ef 60).toInt from hcd), (show SgQ X9 (ea429 61) (ef 60).toInt (ef428 60).toInt fi S9 (0 :: S9) lv9 from (hsg.tq (by omega) (by omega) rfl))⟩) d_Mpg_make2_772
    · simp only [List.mem_cons, List.not_mem_nil, or_false] at c423
      refine lv_aload_n S.x S.b d_Mpg_make2_73 rfl (lv_at hl 0 rfl) ?_
      have hw12 := EwV.k12 hmk_p0.1 (by omega)
      refine px_get S k_Mpg hT hw 0 0 18 (v := .ref (r 18)) rfl rfl rfl (by decide) m10_3 d_Mpg_make2_74 ?_
      refine lv_iload_n S.x S.b d_Mpg_make2_77 rfl (lv_at hl 1 rfl) ?_
      refine px_iald S hT hw 0 14 (n := 2100) (f := (ma 18)) rfl gp_18 (x := p0) (vp_in_iff.mpr (by constructor <;> omega)) d_Mpg_make2_78 ?_
      refine lv_topi (fun z437 ez437 => ?_)
      have lz437 := Int32.le_toInt z437
      have uz437 := Int32.toInt_lt z437
      have rz437 : z437.toInt = (ma 18 p0.toNatClampNeg).toInt := by rw [ez437]
      refine lv_if_ge (tgt := 98) S.x S.b d_Mpg_make2_79 (by decide) (fun c438 => ?_) (fun c438 => ?_)
      · have nc438 : (0 : Int) ≤ z437.toInt := (i_le (x := 0) (y := z437)).mp c438
        refine lv_aload_n S.x S.b d_Mpg_make2_98 rfl (lv_at hl 0 rfl) ?_
        refine lv_iconst (v := 2) S.x S.b d_Mpg_make2_99 (by decide) ?_
        refine lv_aload_n S.x S.b d_Mpg_make2_100 rfl (lv_at hl 0 rfl) ?_
        refine px_get S k_Mpg hT hw 0 0 18 (v := .ref (r 18)) rfl rfl rfl (by decide) m10_3 d_Mpg_make2_101 ?_
        refine lv_iload_n S.x S.b d_Mpg_make2_104 rfl (lv_at hl 1 rfl) ?_
        refine px_iald S hT hw 0 14 (n := 2100) (f := (ma 18)) rfl gp_18 (x := p0) (vp_in_iff.mpr (by constructor <;> omega)) d_Mpg_make2_105 ?_
        refine lv_topi (fun z439 ez439 => ?_)
        have lz439 := Int32.le_toInt z439
        have uz439 := Int32.toInt_lt z439
        have rz439 : z439.toInt = (ma 18 p0.toNatClampNeg).toInt := by rw [ez439]
        refine lv_iconst (v := 0) S.x S.b d_Mpg_make2_106 (by decide) ?_
        refine px_calli (pr := []) (px_runV (As := [.int 2, .int z439, .int 0]) (rest := []) S (c_mp_emit l D cs h r g tf ta pf na ma wa cf ca xf xa ef ea 2 z439 0  (show 0 ≤ (ef 60).toInt from by first | exact g4 | omega) (show (ef 60).toInt < 7000 from by first | exact oz_a47963ef3b g5 hw12 | omega) _) hT (pr := []) (pcs := [wdP cs h r g tf ta pf na ma wa cf ca ef ea xf xa]) hw px_X.tt (px_recv hT hw 0 0 rfl rfl rfl) m13_86 m13_83 m13_85 ms_14_2 m1_21 q_Mpg_emit ⟨show 0 + 1 ≤ (2 * (d + 1) + 10) from by first | with_reducible rfl | with_reducible assumption | omega, show 8 + (4 + 11) + 0 ≤ (120 * (d + 1) + 320) from by first | with_reducible rfl | with_reducible assumption | omega⟩ hl.1 rfl (Nat.le_of_ble_eq_true rfl) d_Mpg_make2_107 ⟨Nat.le_of_ble_eq_true rfl, Nat.le_of_ble_eq_true rfl⟩) hw hA (fun v445 p444 H locs hp444 hw => ?_)
        obtain ⟨ef442, ea443, rfl, e446, e447, e448, e449, e450⟩ := hp444
        replace e446 : v445.toInt = (ef 60).toInt := e446
        replace e447 : (ef442 60).toInt = (ef 60).toInt + 1 := e447
        replace e448 : (ef442 64).toInt = (ef 64).toInt := e448
        replace e449 : (ef442 65).toInt = (ef 65).toInt := e449
        replace e450 : EmU ea ea443 (ef 60) (2 : Int32) z439 (0 : Int32) := e450
        have hcd := hcd.tr e450.cd (by omega)
        have hsg := hsg.em e450 (by omega) rfl (by first | omega | (simp only [List.length_cons, List.length_append]; omega)) (hcx.load (by rw [ez439]; exact MkB.f2 hts hmk_p0 (by omega) (by omega)) (Or.inl rfl))
        replace hw : pw D A s.heap H locs [wdP cs h r g tf ta pf na ma wa cf ca ef442 ea443 xf xa] := hw
        have lv445 := Int32.le_toInt v445
        have uv445 := Int32.toInt_lt v445
        refine lv_pop S.x S.b d_Mpg_make2_110 rfl ?_
        refine lv_goto (tgt := 772) S.x S.b d_Mpg_make2_111 (by decide) ?_
        exact px_vret S hr hlk hAe hw (Nat.le_of_ble_eq_true rfl) (Nat.le_of_ble_eq_true rfl) (⟨ef442, ea443, rfl, (show (ef 60).toInt ≤ (ef442 60).toInt from by first | exact oz_7db54039c4 e447 | omega), (show (ef442 60).toInt ≤ (ef 60).toInt + wt from by first | exact oz_33b972cc46 hw12 e447 | omega), (show (ef442 64).toInt = (ef 64).toInt from by first | exact e448 | omega), (show (ef442 65).toInt = (ef 65).toInt from by first | exact e449 | omega), (show CdK ea ea443 (ef 60).toInt from hcd), (show SgQ X9 (ea443 61) (ef 60).toInt (ef442 60).toInt fi S9 (0 :: S9) lv9 from (hsg.tq (by omega) (by omega) rfl))⟩) d_Mpg_make2_772
      · have nc438 : ¬ (0 : Int) ≤ z437.toInt := mt (i_le (x := 0) (y := z437)).mpr c438
        refine lv_aload_n S.x S.b d_Mpg_make2_82 rfl (lv_at hl 0 rfl) ?_
        refine lv_iconst (v := 1) S.x S.b d_Mpg_make2_83 (by decide) ?_
        refine lv_aload_n S.x S.b d_Mpg_make2_84 rfl (lv_at hl 0 rfl) ?_
        refine px_get S k_Mpg hT hw 0 0 19 (v := .ref (r 19)) rfl rfl rfl (by decide) m10_5 d_Mpg_make2_85 ?_
        refine lv_iload_n S.x S.b d_Mpg_make2_88 rfl (lv_at hl 1 rfl) ?_
        refine px_iald S hT hw 0 15 (n := 2100) (f := (ma 19)) rfl gp_19 (x := p0) (vp_in_iff.mpr (by constructor <;> omega)) d_Mpg_make2_89 ?_
        refine lv_topi (fun z451 ez451 => ?_)
        have lz451 := Int32.le_toInt z451
        have uz451 := Int32.toInt_lt z451
        refine lv_iconst (v := 0) S.x S.b d_Mpg_make2_90 (by decide) ?_
        refine px_calli (pr := []) (px_runV (As := [.int 1, .int z451, .int 0]) (rest := []) S (c_mp_emit l D cs h r g tf ta pf na ma wa cf ca xf xa ef ea 1 z451 0  (show 0 ≤ (ef 60).toInt from by first | exact g4 | omega) (show (ef 60).toInt < 7000 from by first | exact oz_a47963ef3b g5 hw12 | omega) _) hT (pr := []) (pcs := [wdP cs h r g tf ta pf na ma wa cf ca ef ea xf xa]) hw px_X.tt (px_recv hT hw 0 0 rfl rfl rfl) m13_86 m13_83 m13_85 ms_14_2 m1_21 q_Mpg_emit ⟨show 0 + 1 ≤ (2 * (d + 1) + 10) from by first | with_reducible rfl | with_reducible assumption | omega, show 8 + (4 + 11) + 0 ≤ (120 * (d + 1) + 320) from by first | with_reducible rfl | with_reducible assumption | omega⟩ hl.1 rfl (Nat.le_of_ble_eq_true rfl) d_Mpg_make2_91 ⟨Nat.le_of_ble_eq_true rfl, Nat.le_of_ble_eq_true rfl⟩) hw hA (fun v457 p456 H locs hp456 hw => ?_)
        obtain ⟨ef454, ea455, rfl, e458, e459, e460, e461, e462⟩ := hp456
        replace e458 : v457.toInt = (ef 60).toInt := e458
        replace e459 : (ef454 60).toInt = (ef 60).toInt + 1 := e459
        replace e460 : (ef454 64).toInt = (ef 64).toInt := e460
        replace e461 : (ef454 65).toInt = (ef 65).toInt := e461
        replace e462 : EmU ea ea455 (ef 60) (1 : Int32) z451 (0 : Int32) := e462
        have hcd := hcd.tr e462.cd (by omega)
        have hsg := hsg.em e462 (by omega) rfl (by first | omega | (simp only [List.length_cons, List.length_append]; omega)) (.push S9 rfl)
        replace hw : pw D A s.heap H locs [wdP cs h r g tf ta pf na ma wa cf ca ef454 ea455 xf xa] := hw
        have lv457 := Int32.le_toInt v457
        have uv457 := Int32.toInt_lt v457
        refine lv_pop S.x S.b d_Mpg_make2_94 rfl ?_
        refine lv_goto (tgt := 772) S.x S.b d_Mpg_make2_95 (by decide) ?_
        exact px_vret S hr hlk hAe hw (Nat.le_of_ble_eq_true rfl) (Nat.le_of_ble_eq_true rfl) (⟨ef454, ea455, rfl, (show (ef 60).toInt ≤ (ef454 60).toInt from by first | exact oz_7db54039c4 e459 | omega), (show (ef454 60).toInt ≤ (ef 60).toInt + wt from by first | exact oz_33b972cc46 hw12 e459 | omega), (show (ef454 64).toInt = (ef 64).toInt from by first | exact e460 | omega), (show (ef454 65).toInt = (ef 65).toInt from by first | exact e461 | omega), (show CdK ea ea455 (ef 60).toInt from hcd), (show SgQ X9 (ea455 61) (ef 60).toInt (ef454 60).toInt fi S9 (0 :: S9) lv9 from (hsg.tq (by omega) (by omega) rfl))⟩) d_Mpg_make2_772
    · simp only [List.mem_cons, List.not_mem_nil, or_false] at c423
      refine lv_iconst (v := 0) S.x S.b d_Mpg_make2_114 (by decide) ?_
      refine lv_istore_n (lv' := [(2, .int 0), (0, .ref h), (1, .int p0)]) S.x S.b d_Mpg_make2_115 rfl hl (by decide) rfl (fun ls hl => ?_)
      refine lv_aload_n S.x S.b d_Mpg_make2_116 rfl (lv_at hl 1 rfl) ?_
      refine px_get S k_Mpg hT hw 0 0 17 (v := .ref (r 17)) rfl rfl rfl (by decide) m10_1 d_Mpg_make2_117 ?_
      refine lv_iload_n S.x S.b d_Mpg_make2_120 rfl (lv_at hl 2 rfl) ?_
      refine px_iald S hT hw 0 13 (n := 2100) (f := (na 17)) rfl gp_17 (x := p0) (vp_in_iff.mpr (by constructor <;> omega)) d_Mpg_make2_121 ?_
      refine lv_topi (fun z463 ez463 => ?_)
      have lz463 := Int32.le_toInt z463
      have uz463 := Int32.toInt_lt z463
      have har := MkB.f3 hts hmk_p0 (by omega) ez463
      refine lv_istore_n (lv' := [(3, .int z463), (2, .int 0), (0, .ref h), (1, .int p0)]) S.x S.b d_Mpg_make2_122 rfl hl (by decide) rfl (fun ls hl => ?_)
      exact J123 (((pf 13).toInt - (p0.toInt + 1)).toNat + 1) ef ea (p0.toInt + 1) (wt - 1) (0 : Int32) z463 _ _ ls (show 0 ≤ (0 : Int) from by first | decide | omega) (show (0 : Int) + p0.toInt + 1 ≤ (p0.toInt + 1) from by first | exact oz_5323360a91 | omega) (show (p0.toInt + 1) ≤ (pf 13).toInt from by first | with_reducible rfl | with_reducible assumption | omega) (show (ef 60).toInt ≤ (ef 60).toInt from by first | exact oz_1cb5f934a5 | omega) (show (ef 60).toInt + (wt - 1) + 1 ≤ (ef 60).toInt + wt from by first | exact oz_b266494760 | omega) (show (ef 64).toInt = (ef 64).toInt from rfl) (show (ef 65).toInt = (ef 65).toInt from rfl) (show CdK ea ea (ef 60).toInt from hcd) (show (na 14 p0.toNatClampNeg).toInt = 3 from by first | with_reducible rfl | with_reducible assumption | omega) (show ArB ta (tf 6).toInt na ma0 ma ca V d (p0.toInt + 1) (pf 13).toInt (wt - 1) bh nf (ma 18 p0.toNatClampNeg).toInt (0 : Int) z463 from har) (show SgQ X9 (ea 61) (ef 60).toInt (ef 60).toInt fi S9 (aslots (tkl na ma0 ca (ma 18 p0.toNatClampNeg).toInt) ((0 : Int)).toNat ++ S9) lv9 from (hsg.tq (by omega) (by omega) (by rfl))) (show (pf 13).toInt - (p0.toInt + 1) < (((((pf 13).toInt - (p0.toInt + 1)).toNat + 1 : Nat) : Int) : Int) from by first | exact oz_natlt | omega) hw (lv_sub hl [2, 3, 1, 0] rfl)
    · simp only [List.mem_cons, List.not_mem_nil, or_false] at c423
      refine lv_aload_n S.x S.b d_Mpg_make2_268 rfl (lv_at hl 0 rfl) ?_
      refine lv_aload_n S.x S.b d_Mpg_make2_269 rfl (lv_at hl 0 rfl) ?_
      refine px_get S k_Mpg hT hw 0 0 17 (v := .ref (r 17)) rfl rfl rfl (by decide) m10_1 d_Mpg_make2_270 ?_
      refine lv_iload_n S.x S.b d_Mpg_make2_273 rfl (lv_at hl 1 rfl) ?_
      refine px_iald S hT hw 0 13 (n := 2100) (f := (na 17)) rfl gp_17 (x := p0) (vp_in_iff.mpr (by constructor <;> omega)) d_Mpg_make2_274 ?_
      refine lv_topi (fun z464 ez464 => ?_)
      have lz464 := Int32.le_toInt z464
      have uz464 := Int32.toInt_lt z464
      obtain ⟨hmk_z464, hsy4⟩ := MkB.f4 hts hmk_p0 (by omega) ez464; have hec_z464 := hmk_z464.ec; have hrg_z464 := EcV.rng hec_z464; have hnn_z464 := hmk_z464.nn
      refine px_callv (pr := []) (px_runV (As := [.int z464]) (rest := []) S (hLK ma0 ys ns nf (wt - 1) V vl vh X9 fi S9 lv9 bh h r g tf ta pf na ma wa cf ca xf xa ef ea z464 (show (pf 13).toInt ≤ 2100 from by first | exact g0 | omega) (show (tf 6).toInt ≤ 2049 from by first | exact g1 | omega) (show (cf 38).toInt = nf from by first | exact g2 | omega) (show 0 ≤ nf from by first | exact g3 | omega) (show 0 ≤ (ef 60).toInt from by first | exact g4 | omega) (show (ef 60).toInt + (wt - 1) ≤ 7000 from by first | exact oz_689fc9b9cc g5 | omega) (show (S9.length : Int) + bh ≤ X9.tall fi from by first | exact g6 | omega) htk (FnT.eq hft (by omega)) hfp han hts hcx hmk_z464 _) hT (pr := []) (pcs := [wdP cs h r g tf ta pf na ma wa cf ca ef ea xf xa]) hw (oX_call (P := (fun A U H => (oP A g U H))) (pr := []) oG_P hw hA hP) (px_recv hT hw 0 0 rfl rfl rfl) m13_90 m13_87 m13_89 ms_14_3 m1_21 q_Mpg_make2 ⟨show (2 * d + 10) + 1 ≤ (2 * (d + 1) + 10) from by first | with_reducible rfl | with_reducible assumption | omega, show 8 + (8 + 11) + (120 * d + 320) ≤ (120 * (d + 1) + 320) from by first | with_reducible rfl | with_reducible assumption | omega⟩ hl.1 rfl (Nat.le_of_ble_eq_true rfl) d_Mpg_make2_275 ⟨Nat.le_of_ble_eq_true rfl, Nat.le_of_ble_eq_true rfl⟩) hw hA (fun p469 H locs hp469 hw => ?_)
      obtain ⟨ef467, ea468, rfl, e471, e472, e473, e474, e475, e476⟩ := hp469
      replace e471 : (ef 60).toInt ≤ (ef467 60).toInt := e471
      replace e472 : (ef467 60).toInt ≤ (ef 60).toInt + (wt - 1) := e472
      replace e473 : (ef467 64).toInt = (ef 64).toInt := e473
      replace e474 : (ef467 65).toInt = (ef 65).toInt := e474
      replace e475 : CdK ea ea468 (ef 60).toInt := e475
      have hcd := hcd.tr e475 (by omega)
      replace e476 : SgQ X9 (ea468 61) (ef 60).toInt (ef467 60).toInt fi S9 (0 :: S9) lv9 := e476
      have hsg := hsg.ap e475 e476 (by omega)
      replace hw : pw D A s.heap H locs [wdP cs h r g tf ta pf na ma wa cf ca ef467 ea468 xf xa] := hw
      refine lv_aload_n S.x S.b d_Mpg_make2_278 rfl (lv_at hl 0 rfl) ?_
      refine lv_iconst (v := 4) S.x S.b d_Mpg_make2_279 (by decide) ?_
      refine lv_aload_n S.x S.b d_Mpg_make2_280 rfl (lv_at hl 0 rfl) ?_
      refine px_get S k_Mpg hT hw 0 0 18 (v := .ref (r 18)) rfl rfl rfl (by decide) m10_3 d_Mpg_make2_281 ?_
      refine lv_iload_n S.x S.b d_Mpg_make2_284 rfl (lv_at hl 1 rfl) ?_
      refine px_iald S hT hw 0 14 (n := 2100) (f := (ma 18)) rfl gp_18 (x := p0) (vp_in_iff.mpr (by constructor <;> omega)) d_Mpg_make2_285 ?_
      refine lv_topi (fun z477 ez477 => ?_)
      have lz477 := Int32.le_toInt z477
      have uz477 := Int32.toInt_lt z477
      have rz477 : z477.toInt = (ma 18 p0.toNatClampNeg).toInt := by rw [ez477]
      refine lv_iconst (v := 0) S.x S.b d_Mpg_make2_286 (by decide) ?_
      refine px_calli (pr := []) (px_runV (As := [.int 4, .int z477, .int 0]) (rest := []) S (c_mp_emit l D cs h r g tf ta pf na ma wa cf ca xf xa ef467 ea468 4 z477 0  (show 0 ≤ (ef467 60).toInt from by first | exact oz_16d7fa9f32 e471 g4 | omega) (show (ef467 60).toInt < 7000 from by first | exact oz_f17f6cd5d6 e472 g5 | omega) _) hT (pr := []) (pcs := [wdP cs h r g tf ta pf na ma wa cf ca ef467 ea468 xf xa]) hw px_X.tt (px_recv hT hw 0 0 rfl rfl rfl) m13_86 m13_83 m13_85 ms_14_2 m1_21 q_Mpg_emit ⟨show 0 + 1 ≤ (2 * (d + 1) + 10) from by first | with_reducible rfl | with_reducible assumption | omega, show 8 + (4 + 11) + 0 ≤ (120 * (d + 1) + 320) from by first | with_reducible rfl | with_reducible assumption | omega⟩ hl.1 rfl (Nat.le_of_ble_eq_true rfl) d_Mpg_make2_287 ⟨Nat.le_of_ble_eq_true rfl, Nat.le_of_ble_eq_true rfl⟩) hw hA (fun v483 p482 H locs hp482 hw => ?_)
      obtain ⟨ef480, ea481, rfl, e484, e485, e486, e487, e488⟩ := hp482
      replace e484 : v483.toInt = (ef467 60).toInt := e484
      replace e485 : (ef480 60).toInt = (ef467 60).toInt + 1 := e485
      replace e486 : (ef480 64).toInt = (ef467 64).toInt := e486
      replace e487 : (ef480 65).toInt = (ef467 65).toInt := e487
      replace e488 : EmU ea468 ea481 (ef467 60) (4 : Int32) z477 (0 : Int32) := e488
      have hcd := hcd.tr e488.cd (by omega)
      have hsg := hsg.em e488 (by omega) rfl (by first | omega | (simp only [List.length_cons, List.length_append]; omega)) (hcx.elem (by rw [ez477]; exact hsy4) (Or.inl rfl))
      replace hw : pw D A s.heap H locs [wdP cs h r g tf ta pf na ma wa cf ca ef480 ea481 xf xa] := hw
      have lv483 := Int32.le_toInt v483
      have uv483 := Int32.toInt_lt v483
      refine lv_pop S.x S.b d_Mpg_make2_290 rfl ?_
      refine lv_goto (tgt := 772) S.x S.b d_Mpg_make2_291 (by decide) ?_
      exact px_vret S hr hlk hAe hw (Nat.le_of_ble_eq_true rfl) (Nat.le_of_ble_eq_true rfl) (⟨ef480, ea481, rfl, (show (ef 60).toInt ≤ (ef480 60).toInt from by first | exact oz_887c409de9 e471 e485 | omega), (show (ef480 60).toInt ≤ (ef 60).toInt + wt from by first | exact oz_8a56fd6753 e472 e485 | omega), (show (ef480 64).toInt = (ef 64).toInt from by first | exact oz_1687f4cc65 e473 e486 | omega), (show (ef480 65).toInt = (ef 65).toInt from by first | exact oz_1687f4cc65 e474 e487 | omega), (show CdK ea ea481 (ef 60).toInt from hcd), (show SgQ X9 (ea481 61) (ef 60).toInt (ef480 60).toInt fi S9 (0 :: S9) lv9 from (hsg.tq (by omega) (by omega) rfl))⟩) d_Mpg_make2_772
    · simp only [List.mem_cons, List.not_mem_nil, or_false] at c423
      refine lv_aload_n S.x S.b d_Mpg_make2_294 rfl (lv_at hl 0 rfl) ?_
      refine px_get S k_Mpg hT hw 0 0 8 (v := .ref (r 8)) rfl rfl rfl (by decide) m9_232 d_Mpg_make2_295 ?_
      refine lv_aload_n S.x S.b d_Mpg_make2_298 rfl (lv_at hl 0 rfl) ?_
      refine px_get S k_Mpg hT hw 0 0 15 (v := .ref (r 15)) rfl rfl rfl (by decide) m9_239 d_Mpg_make2_299 ?_
      refine lv_iload_n S.x S.b d_Mpg_make2_302 rfl (lv_at hl 1 rfl) ?_
      refine px_iald S hT hw 0 11 (n := 2100) (f := (na 15)) rfl gp_15 (x := p0) (vp_in_iff.mpr (by constructor <;> omega)) d_Mpg_make2_303 ?_
      refine lv_topi (fun z489 ez489 => ?_)
      have lz489 := Int32.le_toInt z489
      have uz489 := Int32.toInt_lt z489
      have rz489 := EcV.tok hec_p0 ez489
      refine px_iald S hT hw 0 7 (n := 2060) (f := (ta 8)) rfl gp_8 (x := z489) (vp_in_iff.mpr (by constructor <;> omega)) d_Mpg_make2_304 ?_
      refine lv_topi (fun z490 ez490 => ?_)
      have lz490 := Int32.le_toInt z490
      have uz490 := Int32.toInt_lt z490
      have rz490 : z490.toInt = sz ta z489 := by rw [ez490]; rfl
      refine lv_iconst (v := 2) S.x S.b d_Mpg_make2_305 (by decide) ?_
      refine lv_icmp_ne (tgt := 318) S.x S.b d_Mpg_make2_306 (by decide) (fun c491 => ?_) (fun c491 => ?_)
      · have nc491 : ¬ z490.toInt = (2 : Int) := mt (i_eq (x := z490) (y := 2)).mpr c491
        refine lv_aload_n S.x S.b d_Mpg_make2_318 rfl (lv_at hl 0 rfl) ?_
        refine lv_aload_n S.x S.b d_Mpg_make2_319 rfl (lv_at hl 0 rfl) ?_
        refine px_get S k_Mpg hT hw 0 0 17 (v := .ref (r 17)) rfl rfl rfl (by decide) m10_1 d_Mpg_make2_320 ?_
        refine lv_iload_n S.x S.b d_Mpg_make2_323 rfl (lv_at hl 1 rfl) ?_
        refine px_iald S hT hw 0 13 (n := 2100) (f := (na 17)) rfl gp_17 (x := p0) (vp_in_iff.mpr (by constructor <;> omega)) d_Mpg_make2_324 ?_
        refine lv_topi (fun z492 ez492 => ?_)
        have lz492 := Int32.le_toInt z492
        have uz492 := Int32.toInt_lt z492
        have hmk_z492 := MkB.f5 hts hmk_p0 (by omega) ez492; have hec_z492 := hmk_z492.ec; have hrg_z492 := EcV.rng hec_z492; have hnn_z492 := hmk_z492.nn
        refine px_callv (pr := []) (px_runV (As := [.int z492]) (rest := []) S (hLK ma0 ys ns nf (wt - 1) V vl vh X9 fi S9 lv9 bh h r g tf ta pf na ma wa cf ca xf xa ef ea z492 (show (pf 13).toInt ≤ 2100 from by first | exact g0 | omega) (show (tf 6).toInt ≤ 2049 from by first | exact g1 | omega) (show (cf 38).toInt = nf from by first | exact g2 | omega) (show 0 ≤ nf from by first | exact g3 | omega) (show 0 ≤ (ef 60).toInt from by first | exact g4 | omega) (show (ef 60).toInt + (wt - 1) ≤ 7000 from by first | exact oz_689fc9b9cc g5 | omega) (show (S9.length : Int) + bh ≤ X9.tall fi from by first | exact g6 | omega) htk (FnT.eq hft (by omega)) hfp han hts hcx hmk_z492 _) hT (pr := []) (pcs := [wdP cs h r g tf ta pf na ma wa cf ca ef ea xf xa]) hw (oX_call (P := (fun A U H => (oP A g U H))) (pr := []) oG_P hw hA hP) (px_recv hT hw 0 0 rfl rfl rfl) m13_90 m13_87 m13_89 ms_14_3 m1_21 q_Mpg_make2 ⟨show (2 * d + 10) + 1 ≤ (2 * (d + 1) + 10) from by first | with_reducible rfl | with_reducible assumption | omega, show 8 + (8 + 11) + (120 * d + 320) ≤ (120 * (d + 1) + 320) from by first | with_reducible rfl | with_reducible assumption | omega⟩ hl.1 rfl (Nat.le_of_ble_eq_true rfl) d_Mpg_make2_325 ⟨Nat.le_of_ble_eq_true rfl, Nat.le_of_ble_eq_true rfl⟩) hw hA (fun p497 H locs hp497 hw => ?_)
        obtain ⟨ef495, ea496, rfl, e499, e500, e501, e502, e503, e504⟩ := hp497
        replace e499 : (ef 60).toInt ≤ (ef495 60).toInt := e499
        replace e500 : (ef495 60).toInt ≤ (ef 60).toInt + (wt - 1) := e500
        replace e501 : (ef495 64).toInt = (ef 64).toInt := e501
        replace e502 : (ef495 65).toInt = (ef 65).toInt := e502
        replace e503 : CdK ea ea496 (ef 60).toInt := e503
        have hcd := hcd.tr e503 (by omega)
        replace e504 : SgQ X9 (ea496 61) (ef 60).toInt (ef495 60).toInt fi S9 (0 :: S9) lv9 := e504
        have hsg := hsg.ap e503 e504 (by omega)
        replace hw : pw D A s.heap H locs [wdP cs h r g tf ta pf na ma wa cf ca ef495 ea496 xf xa] := hw
        refine lv_aload_n S.x S.b d_Mpg_make2_328 rfl (lv_at hl 0 rfl) ?_
        refine lv_bipush (v := 10) S.x S.b d_Mpg_make2_329 (by decide) ?_
        refine lv_aload_n S.x S.b d_Mpg_make2_331 rfl (lv_at hl 0 rfl) ?_
        refine px_get S k_Mpg hT hw 0 0 4 (v := .ref (r 4)) rfl rfl rfl (by decide) m9_228 d_Mpg_make2_332 ?_
        refine lv_aload_n S.x S.b d_Mpg_make2_335 rfl (lv_at hl 0 rfl) ?_
        refine px_get S k_Mpg hT hw 0 0 7 (v := .ref (r 7)) rfl rfl rfl (by decide) m9_231 d_Mpg_make2_336 ?_
        refine lv_aload_n S.x S.b d_Mpg_make2_339 rfl (lv_at hl 0 rfl) ?_
        refine px_get S k_Mpg hT hw 0 0 15 (v := .ref (r 15)) rfl rfl rfl (by decide) m9_239 d_Mpg_make2_340 ?_
        refine lv_iload_n S.x S.b d_Mpg_make2_343 rfl (lv_at hl 1 rfl) ?_
        refine px_iald S hT hw 0 11 (n := 2100) (f := (na 15)) rfl gp_15 (x := p0) (vp_in_iff.mpr (by constructor <;> omega)) d_Mpg_make2_344 ?_
        refine lv_topi (fun z505 ez505 => ?_)
        have lz505 := Int32.le_toInt z505
        have uz505 := Int32.toInt_lt z505
        have rz505 := EcV.tok hec_p0 ez505
        refine px_iald S hT hw 0 6 (n := 2060) (f := (ta 7)) rfl gp_7 (x := z505) (vp_in_iff.mpr (by constructor <;> omega)) d_Mpg_make2_345 ?_
        refine lv_topi (fun z506 ez506 => ?_)
        have lz506 := Int32.le_toInt z506
        have uz506 := Int32.toInt_lt z506
        have rz506 : z506.toInt = bp ta z505 := by rw [ez506]; rfl
        have hz5 := tk_z5 htk (x := z505) (by omega) (by omega) (by rw [ez505]; exact EcV.n9 hec_p0 (by omega)); have hb5 := tk_b htk (x := z505) (by omega) (by omega)
        refine px_bald S hT hw 0 5 (n := 2048) (f := (ta 4)) rfl gp_4 (x := z506) (vp_in_iff.mpr (by first | exact oz_eacedfd6de rz506 hb5.1 hb5.2.2.1 hz5 hb5.2.2.2 | (constructor <;> omega))) d_Mpg_make2_346 ?_
        refine lv_topi (fun z507 ez507 => ?_)
        have lz507 := Int32.le_toInt z507
        have uz507 := Int32.toInt_lt z507
        refine lv_iconst (v := 0) S.x S.b d_Mpg_make2_347 (by decide) ?_
        refine px_calli (pr := []) (px_runV (As := [.int 10, .int z507, .int 0]) (rest := []) S (c_mp_emit l D cs h r g tf ta pf na ma wa cf ca xf xa ef495 ea496 10 z507 0  (show 0 ≤ (ef495 60).toInt from by first | exact oz_16d7fa9f32 e499 g4 | omega) (show (ef495 60).toInt < 7000 from by first | exact oz_f17f6cd5d6 e500 g5 | omega) _) hT (pr := []) (pcs := [wdP cs h r g tf ta pf na ma wa cf ca ef495 ea496 xf xa]) hw px_X.tt (px_recv hT hw 0 0 rfl rfl rfl) m13_86 m13_83 m13_85 ms_14_2 m1_21 q_Mpg_emit ⟨show 0 + 1 ≤ (2 * (d + 1) + 10) from by first | with_reducible rfl | with_reducible assumption | omega, show 8 + (4 + 11) + 0 ≤ (120 * (d + 1) + 320) from by first | with_reducible rfl | with_reducible assumption | omega⟩ hl.1 rfl (Nat.le_of_ble_eq_true rfl) d_Mpg_make2_348 ⟨Nat.le_of_ble_eq_true rfl, Nat.le_of_ble_eq_true rfl⟩) hw hA (fun v513 p512 H locs hp512 hw => ?_)
        obtain ⟨ef510, ea511, rfl, e514, e515, e516, e517, e518⟩ := hp512
        replace e514 : v513.toInt = (ef495 60).toInt := e514
        replace e515 : (ef510 60).toInt = (ef495 60).toInt + 1 := e515
        replace e516 : (ef510 64).toInt = (ef495 64).toInt := e516
        replace e517 : (ef510 65).toInt = (ef495 65).toInt := e517
        replace e518 : EmU ea496 ea511 (ef495 60) (10 : Int32) z507 (0 : Int32) := e518
        have hcd := hcd.tr e518.cd (by omega)
        have hsg := hsg.em e518 (by omega) rfl (by first | omega | (simp only [List.length_cons, List.length_append]; omega)) (.alone S9 rfl)
        replace hw : pw D A s.heap H locs [wdP cs h r g tf ta pf na ma wa cf ca ef510 ea511 xf xa] := hw
        have lv513 := Int32.le_toInt v513
        have uv513 := Int32.toInt_lt v513
        refine lv_pop S.x S.b d_Mpg_make2_351 rfl ?_
        refine lv_goto (tgt := 772) S.x S.b d_Mpg_make2_352 (by decide) ?_
        exact px_vret S hr hlk hAe hw (Nat.le_of_ble_eq_true rfl) (Nat.le_of_ble_eq_true rfl) (⟨ef510, ea511, rfl, (show (ef 60).toInt ≤ (ef510 60).toInt from by first | exact oz_887c409de9 e499 e515 | omega), (show (ef510 60).toInt ≤ (ef 60).toInt + wt from by first | exact oz_8a56fd6753 e500 e515 | omega), (show (ef510 64).toInt = (ef 64).toInt from by first | exact oz_1687f4cc65 e501 e516 | omega), (show (ef510 65).toInt = (ef 65).toInt from by first | exact oz_1687f4cc65 e502 e517 | omega), (show CdK ea ea511 (ef 60).toInt from hcd), (show SgQ X9 (ea511 61) (ef 60).toInt (ef510 60).toInt fi S9 (0 :: S9) lv9 from (hsg.tq (by omega) (by omega) rfl))⟩) d_Mpg_make2_772
      · have nc491 : z490.toInt = (2 : Int) := (i_eq (x := z490) (y := 2)).mp c491
        refine lv_aload_n S.x S.b d_Mpg_make2_309 rfl (lv_at hl 0 rfl) ?_
        have hszq : sz ta (na 15 p0.toNatClampNeg) = 2 := (by rw [← ez489]; omega)
        refine lv_iload_n S.x S.b d_Mpg_make2_310 rfl (lv_at hl 1 rfl) ?_
        refine lv_iconst (v := 2) S.x S.b d_Mpg_make2_311 (by decide) ?_
        refine px_callv (pr := []) (px_runV (As := [.int p0, .int 2]) (rest := []) S (c_mp_makeStep l D cs ma0 ys ns nf d wt V vl vh X9 fi S9 lv9 bh h r g tf ta pf na ma wa cf ca xf xa ef ea p0 2  (show (pf 13).toInt ≤ 2100 from by first | exact g0 | omega) (show (tf 6).toInt ≤ 2049 from by first | exact g1 | omega) (show (cf 38).toInt = nf from by first | exact g2 | omega) (show 0 ≤ nf from by first | exact g3 | omega) (show 0 ≤ (ef 60).toInt from by first | exact g4 | omega) (show (ef 60).toInt + wt ≤ 7000 from by first | exact g5 | omega) (show (S9.length : Int) + bh ≤ X9.tall fi from by first | exact g6 | omega) (show ((na 14 p0.toNatClampNeg).toInt = 5 ∧ sz ta (na 15 p0.toNatClampNeg) = 2) ∨ (na 14 p0.toNatClampNeg).toInt = 6 from by first | with_reducible rfl | with_reducible assumption | omega) htk (FnT.eq hft (by omega)) hfp han hts hcx hmk_p0 hLK _) hT (pr := []) (pcs := [wdP cs h r g tf ta pf na ma wa cf ca ef ea xf xa]) hw (oX_call (P := (fun A U H => (oP A g U H))) (pr := []) oG_P hw hA hP) (px_recv hT hw 0 0 rfl rfl rfl) m13_94 m13_91 m13_93 ms_14_4 m1_21 q_Mpg_makeStep ⟨show (2 * d + 11) + 1 ≤ (2 * (d + 1) + 10) from by first | with_reducible rfl | with_reducible assumption | omega, show 8 + (5 + 11) + (120 * d + 380) ≤ (120 * (d + 1) + 320) from by first | with_reducible rfl | with_reducible assumption | omega⟩ hl.1 rfl (Nat.le_of_ble_eq_true rfl) d_Mpg_make2_312 ⟨Nat.le_of_ble_eq_true rfl, Nat.le_of_ble_eq_true rfl⟩) hw hA (fun p523 H locs hp523 hw => ?_)
        obtain ⟨ef521, ea522, rfl, e525, e526, e527, e528, e529, e530⟩ := hp523
        replace e525 : (ef 60).toInt ≤ (ef521 60).toInt := e525
        replace e526 : (ef521 60).toInt ≤ (ef 60).toInt + wt := e526
        replace e527 : (ef521 64).toInt = (ef 64).toInt := e527
        replace e528 : (ef521 65).toInt = (ef 65).toInt := e528
        replace e529 : CdK ea ea522 (ef 60).toInt := e529
        have hcd := hcd.tr e529 (by omega)
        replace e530 : SgQ X9 (ea522 61) (ef 60).toInt (ef521 60).toInt fi S9 (0 :: S9) lv9 := e530
        have hsg := hsg.ap e529 e530 (by omega)
        replace hw : pw D A s.heap H locs [wdP cs h r g tf ta pf na ma wa cf ca ef521 ea522 xf xa] := hw
        refine lv_goto (tgt := 772) S.x S.b d_Mpg_make2_315 (by decide) ?_
        exact px_vret S hr hlk hAe hw (Nat.le_of_ble_eq_true rfl) (Nat.le_of_ble_eq_true rfl) (⟨ef521, ea522, rfl, (show (ef 60).toInt ≤ (ef521 60).toInt from by first | exact e525 | omega), (show (ef521 60).toInt ≤ (ef 60).toInt + wt from by first | exact e526 | omega), (show (ef521 64).toInt = (ef 64).toInt from by first | exact e527 | omega), (show (ef521 65).toInt = (ef 65).toInt from by first | exact e528 | omega), (show CdK ea ea522 (ef 60).toInt from hcd), (show SgQ X9 (ea522 61) (ef 60).toInt (ef521 60).toInt fi S9 (0 :: S9) lv9 from (hsg.tq (by omega) (by omega) rfl))⟩) d_Mpg_make2_772
    · simp only [List.mem_cons, List.not_mem_nil, or_false] at c423
      refine lv_aload_n S.x S.b d_Mpg_make2_355 rfl (lv_at hl 0 rfl) ?_
      refine lv_iload_n S.x S.b d_Mpg_make2_356 rfl (lv_at hl 1 rfl) ?_
      refine lv_iconst (v := 0) S.x S.b d_Mpg_make2_357 (by decide) ?_
      refine px_callv (pr := []) (px_runV (As := [.int p0, .int 0]) (rest := []) S (c_mp_makeStep l D cs ma0 ys ns nf d wt V vl vh X9 fi S9 lv9 bh h r g tf ta pf na ma wa cf ca xf xa ef ea p0 0  (show (pf 13).toInt ≤ 2100 from by first | exact g0 | omega) (show (tf 6).toInt ≤ 2049 from by first | exact g1 | omega) (show (cf 38).toInt = nf from by first | exact g2 | omega) (show 0 ≤ nf from by first | exact g3 | omega) (show 0 ≤ (ef 60).toInt from by first | exact g4 | omega) (show (ef 60).toInt + wt ≤ 7000 from by first | exact g5 | omega) (show (S9.length : Int) + bh ≤ X9.tall fi from by first | exact g6 | omega) (show ((na 14 p0.toNatClampNeg).toInt = 5 ∧ sz ta (na 15 p0.toNatClampNeg) = 2) ∨ (na 14 p0.toNatClampNeg).toInt = 6 from by first | with_reducible rfl | with_reducible assumption | omega) htk (FnT.eq hft (by omega)) hfp han hts hcx hmk_p0 hLK _) hT (pr := []) (pcs := [wdP cs h r g tf ta pf na ma wa cf ca ef ea xf xa]) hw (oX_call (P := (fun A U H => (oP A g U H))) (pr := []) oG_P hw hA hP) (px_recv hT hw 0 0 rfl rfl rfl) m13_94 m13_91 m13_93 ms_14_4 m1_21 q_Mpg_makeStep ⟨show (2 * d + 11) + 1 ≤ (2 * (d + 1) + 10) from by first | with_reducible rfl | with_reducible assumption | omega, show 8 + (5 + 11) + (120 * d + 380) ≤ (120 * (d + 1) + 320) from by first | with_reducible rfl | with_reducible assumption | omega⟩ hl.1 rfl (Nat.le_of_ble_eq_true rfl) d_Mpg_make2_358 ⟨Nat.le_of_ble_eq_true rfl, Nat.le_of_ble_eq_true rfl⟩) hw hA (fun p535 H locs hp535 hw => ?_)
      obtain ⟨ef533, ea534, rfl, e537, e538, e539, e540, e541, e542⟩ := hp535
      replace e537 : (ef 60).toInt ≤ (ef533 60).toInt := e537
      replace e538 : (ef533 60).toInt ≤ (ef 60).toInt + wt := e538
      replace e539 : (ef533 64).toInt = (ef 64).toInt := e539
      replace e540 : (ef533 65).toInt = (ef 65).toInt := e540
      replace e541 : CdK ea ea534 (ef 60).toInt := e541
      have hcd := hcd.tr e541 (by omega)
      replace e542 : SgQ X9 (ea534 61) (ef 60).toInt (ef533 60).toInt fi S9 (0 :: S9) lv9 := e542
      have hsg := hsg.ap e541 e542 (by omega)
      replace hw : pw D A s.heap H locs [wdP cs h r g tf ta pf na ma wa cf ca ef533 ea534 xf xa] := hw
      refine lv_goto (tgt := 772) S.x S.b d_Mpg_make2_361 (by decide) ?_
      exact px_vret S hr hlk hAe hw (Nat.le_of_ble_eq_true rfl) (Nat.le_of_ble_eq_true rfl) (⟨ef533, ea534, rfl, (show (ef 60).toInt ≤ (ef533 60).toInt from by first | exact e537 | omega), (show (ef533 60).toInt ≤ (ef 60).toInt + wt from by first | exact e538 | omega), (show (ef533 64).toInt = (ef 64).toInt from by first | exact e539 | omega), (show (ef533 65).toInt = (ef 65).toInt from by first | exact e540 | omega), (show CdK ea ea534 (ef 60).toInt from hcd), (show SgQ X9 (ea534 61) (ef 60).toInt (ef533 60).toInt fi S9 (0 :: S9) lv9 from (hsg.tq (by omega) (by omega) rfl))⟩) d_Mpg_make2_772
    · simp only [List.mem_cons, List.not_mem_nil, or_false] at c423
      refine lv_aload_n S.x S.b d_Mpg_make2_364 rfl (lv_at hl 0 rfl) ?_
      refine lv_aload_n S.x S.b d_Mpg_make2_365 rfl (lv_at hl 0 rfl) ?_
      refine px_get S k_Mpg hT hw 0 0 17 (v := .ref (r 17)) rfl rfl rfl (by decide) m10_1 d_Mpg_make2_366 ?_
      refine lv_iload_n S.x S.b d_Mpg_make2_369 rfl (lv_at hl 1 rfl) ?_
      refine px_iald S hT hw 0 13 (n := 2100) (f := (na 17)) rfl gp_17 (x := p0) (vp_in_iff.mpr (by constructor <;> omega)) d_Mpg_make2_370 ?_
      refine lv_topi (fun z543 ez543 => ?_)
      have lz543 := Int32.le_toInt z543
      have uz543 := Int32.toInt_lt z543
      obtain ⟨mc, w1, w2, hmc, hmk_z543, hrm, hw7⟩ := MkB.f7 hts han hmk_p0 (by omega) ez543; have hec_z543 := hmk_z543.ec; have hrg_z543 := EcV.rng hec_z543; have hnn_z543 := hmk_z543.nn
      refine px_callv (pr := []) (px_runV (As := [.int z543]) (rest := []) S (hLK ma0 ys ns nf w1 V vl vh X9 fi S9 lv9 bh h r g tf ta pf na ma wa cf ca xf xa ef ea z543 (show (pf 13).toInt ≤ 2100 from by first | exact g0 | omega) (show (tf 6).toInt ≤ 2049 from by first | exact g1 | omega) (show (cf 38).toInt = nf from by first | exact g2 | omega) (show 0 ≤ nf from by first | exact g3 | omega) (show 0 ≤ (ef 60).toInt from by first | exact g4 | omega) (show (ef 60).toInt + w1 ≤ 7000 from by first | exact oz_7ced39cc50 g5 hw7.2.2.2 hw7.2.1 | omega) (show (S9.length : Int) + bh ≤ X9.tall fi from by first | exact g6 | omega) htk (FnT.eq hft (by omega)) hfp han hts hcx hmk_z543 _) hT (pr := []) (pcs := [wdP cs h r g tf ta pf na ma wa cf ca ef ea xf xa]) hw (oX_call (P := (fun A U H => (oP A g U H))) (pr := []) oG_P hw hA hP) (px_recv hT hw 0 0 rfl rfl rfl) m13_90 m13_87 m13_89 ms_14_3 m1_21 q_Mpg_make2 ⟨show (2 * d + 10) + 1 ≤ (2 * (d + 1) + 10) from by first | with_reducible rfl | with_reducible assumption | omega, show 8 + (8 + 11) + (120 * d + 320) ≤ (120 * (d + 1) + 320) from by first | with_reducible rfl | with_reducible assumption | omega⟩ hl.1 rfl (Nat.le_of_ble_eq_true rfl) d_Mpg_make2_371 ⟨Nat.le_of_ble_eq_true rfl, Nat.le_of_ble_eq_true rfl⟩) hw hA (fun p548 H locs hp548 hw => ?_)
      obtain ⟨ef546, ea547, rfl, e550, e551, e552, e553, e554, e555⟩ := hp548
      replace e550 : (ef 60).toInt ≤ (ef546 60).toInt := e550
      replace e551 : (ef546 60).toInt ≤ (ef 60).toInt + w1 := e551
      replace e552 : (ef546 64).toInt = (ef 64).toInt := e552
      replace e553 : (ef546 65).toInt = (ef 65).toInt := e553
      replace e554 : CdK ea ea547 (ef 60).toInt := e554
      have hcd := hcd.tr e554 (by omega)
      replace e555 : SgQ X9 (ea547 61) (ef 60).toInt (ef546 60).toInt fi S9 (0 :: S9) lv9 := e555
      have hsg := hsg.ap e554 e555 (by omega)
      replace hw : pw D A s.heap H locs [wdP cs h r g tf ta pf na ma wa cf ca ef546 ea547 xf xa] := hw
      refine lv_iconst (v := (-1)) S.x S.b d_Mpg_make2_374 (by decide) ?_
      refine lv_istore_n (lv' := [(3, .int (-1)), (0, .ref h), (1, .int p0)]) S.x S.b d_Mpg_make2_375 rfl hl (by decide) rfl (fun ls hl => ?_)
      refine lv_aload_n S.x S.b d_Mpg_make2_376 rfl (lv_at hl 1 rfl) ?_
      refine px_get S k_Mpg hT hw 0 0 21 (v := .ref (r 21)) rfl rfl rfl (by decide) m10_7 d_Mpg_make2_377 ?_
      refine lv_aload_n S.x S.b d_Mpg_make2_380 rfl (lv_at hl 1 rfl) ?_
      refine px_get S k_Mpg hT hw 0 0 17 (v := .ref (r 17)) rfl rfl rfl (by decide) m10_1 d_Mpg_make2_381 ?_
      refine lv_iload_n S.x S.b d_Mpg_make2_384 rfl (lv_at hl 2 rfl) ?_
      refine px_iald S hT hw 0 13 (n := 2100) (f := (na 17)) rfl gp_17 (x := p0) (vp_in_iff.mpr (by constructor <;> omega)) d_Mpg_make2_385 ?_
      refine lv_topi (fun z556 ez556 => ?_)
      have lz556 := Int32.le_toInt z556
      have uz556 := Int32.toInt_lt z556
      have hsz556 : z543 = z556 := ez543.trans ez556.symm; subst hsz556
      refine px_iald S hT hw 0 17 (n := 2100) (f := (na 21)) rfl gp_21 (x := z543) (vp_in_iff.mpr (by constructor <;> omega)) d_Mpg_make2_386 ?_
      refine lv_topi (fun z557 ez557 => ?_)
      have lz557 := Int32.le_toInt z557
      have uz557 := Int32.toInt_lt z557
      refine lv_istore (lv' := [(4, .int z557), (3, .int (-1)), (0, .ref h), (1, .int p0)]) S.x S.b d_Mpg_make2_387 hl (by decide) rfl (fun ls hl => ?_)
      exact J389 (((pf 13).toInt - mc).toNat + 1) ef546 ea547 mc w2 (-1) z557 _ _ ls (show 0 ≤ mc from by first | exact hmc.1 | omega) (show mc ≤ (pf 13).toInt from by first | exact oz_fdad9fdf0a hmc.2 | omega) (show (ef 60).toInt ≤ (ef546 60).toInt from by first | exact e550 | omega) (show (ef546 60).toInt + w2 ≤ (ef 60).toInt + wt from by first | exact oz_68a3de4aae hw7.2.2.2 e551 | omega) (show (ma 22 p0.toNatClampNeg).toInt < 3 → (ef546 60).toInt + w2 + 4 ≤ (ef 60).toInt + wt from by first | with_reducible rfl | with_reducible assumption | omega) (show (ef546 64).toInt = (ef 64).toInt from by first | exact e552 | omega) (show (ef546 65).toInt = (ef 65).toInt from by first | exact e553 | omega) (show CdK ea ea547 (ef 60).toInt from hcd) (show (na 14 p0.toNatClampNeg).toInt = 7 from by first | with_reducible rfl | with_reducible assumption | omega) (show RvM ta (tf 6).toInt na ma0 ma ca V d mc (pf 13).toInt w2 bh z557 from (by rw [ez557]; exact hrm)) (show ChI X9 (ea547 61) (ef 60).toInt (ef546 60).toInt fi S9 lv9 (-1) (ma 22 p0.toNatClampNeg).toInt from (chi_0 (hsg.tq (by omega) (by omega) rfl) (by decide))) (show (pf 13).toInt - mc < (((((pf 13).toInt - mc).toNat + 1 : Nat) : Int) : Int) from by first | exact oz_natlt | omega) hw (lv_sub hl [2, 3, 1, 0] rfl)
    · simp only [List.mem_cons, List.not_mem_nil, or_false] at c423
      refine lv_aload_n S.x S.b d_Mpg_make2_580 rfl (lv_at hl 0 rfl) ?_
      refine lv_aload_n S.x S.b d_Mpg_make2_581 rfl (lv_at hl 0 rfl) ?_
      refine px_get S k_Mpg hT hw 0 0 17 (v := .ref (r 17)) rfl rfl rfl (by decide) m10_1 d_Mpg_make2_582 ?_
      refine lv_iload_n S.x S.b d_Mpg_make2_585 rfl (lv_at hl 1 rfl) ?_
      refine px_iald S hT hw 0 13 (n := 2100) (f := (na 17)) rfl gp_17 (x := p0) (vp_in_iff.mpr (by constructor <;> omega)) d_Mpg_make2_586 ?_
      refine lv_topi (fun z558 ez558 => ?_)
      have lz558 := Int32.le_toInt z558
      have uz558 := Int32.toInt_lt z558
      obtain ⟨w1, w2, w3, hmk_z558, hmk_y8, hmk_x8, hw8⟩ := MkB.f8 hts han hmk_p0 (by omega) ez558; have hec_z558 := hmk_z558.ec; have hrg_z558 := EcV.rng hec_z558; have hnn_z558 := hmk_z558.nn
      refine px_callv (pr := []) (px_runV (As := [.int z558]) (rest := []) S (hLK ma0 ys ns nf w1 V vl vh X9 fi S9 lv9 bh h r g tf ta pf na ma wa cf ca xf xa ef ea z558 (show (pf 13).toInt ≤ 2100 from by first | exact g0 | omega) (show (tf 6).toInt ≤ 2049 from by first | exact g1 | omega) (show (cf 38).toInt = nf from by first | exact g2 | omega) (show 0 ≤ nf from by first | exact g3 | omega) (show 0 ≤ (ef 60).toInt from by first | exact g4 | omega) (show (ef 60).toInt + w1 ≤ 7000 from by first | with_reducible rfl | with_reducible assumption | omega) (show (S9.length : Int) + bh ≤ X9.tall fi from by first | exact g6 | omega) htk (FnT.eq hft (by omega)) hfp han hts hcx hmk_z558 _) hT (pr := []) (pcs := [wdP cs h r g tf ta pf na ma wa cf ca ef ea xf xa]) hw (oX_call (P := (fun A U H => (oP A g U H))) (pr := []) oG_P hw hA hP) (px_recv hT hw 0 0 rfl rfl rfl) m13_90 m13_87 m13_89 ms_14_3 m1_21 q_Mpg_make2 ⟨show (2 * d + 10) + 1 ≤ (2 * (d + 1) + 10) from by first | with_reducible rfl | with_reducible assumption | omega, show 8 + (8 + 11) + (120 * d + 320) ≤ (120 * (d + 1) + 320) from by first | with_reducible rfl | with_reducible assumption | omega⟩ hl.1 rfl (Nat.le_of_ble_eq_true rfl) d_Mpg_make2_587 ⟨Nat.le_of_ble_eq_true rfl, Nat.le_of_ble_eq_true rfl⟩) hw hA (fun p563 H locs hp563 hw => ?_)
      obtain ⟨ef561, ea562, rfl, e565, e566, e567, e568, e569, e570⟩ := hp563
      replace e565 : (ef 60).toInt ≤ (ef561 60).toInt := e565
      replace e566 : (ef561 60).toInt ≤ (ef 60).toInt + w1 := e566
      replace e567 : (ef561 64).toInt = (ef 64).toInt := e567
      replace e568 : (ef561 65).toInt = (ef 65).toInt := e568
      replace e569 : CdK ea ea562 (ef 60).toInt := e569
      have hcd := hcd.tr e569 (by omega)
      replace e570 : SgQ X9 (ea562 61) (ef 60).toInt (ef561 60).toInt fi S9 (0 :: S9) lv9 := e570
      have hsg := hsg.ap e569 e570 (by omega)
      replace hw : pw D A s.heap H locs [wdP cs h r g tf ta pf na ma wa cf ca ef561 ea562 xf xa] := hw
      refine lv_aload_n S.x S.b d_Mpg_make2_590 rfl (lv_at hl 0 rfl) ?_
      refine lv_bipush (v := 13) S.x S.b d_Mpg_make2_591 (by decide) ?_
      refine lv_iconst (v := 0) S.x S.b d_Mpg_make2_593 (by decide) ?_
      refine lv_iconst (v := 0) S.x S.b d_Mpg_make2_594 (by decide) ?_
      refine px_calli (pr := []) (px_runV (As := [.int 13, .int 0, .int 0]) (rest := []) S (c_mp_emit l D cs h r g tf ta pf na ma wa cf ca xf xa ef561 ea562 13 0 0  (show 0 ≤ (ef561 60).toInt from by first | exact oz_16d7fa9f32 e565 g4 | omega) (show (ef561 60).toInt < 7000 from by first | with_reducible rfl | with_reducible assumption | omega) _) hT (pr := []) (pcs := [wdP cs h r g tf ta pf na ma wa cf ca ef561 ea562 xf xa]) hw px_X.tt (px_recv hT hw 0 0 rfl rfl rfl) m13_86 m13_83 m13_85 ms_14_2 m1_21 q_Mpg_emit ⟨show 0 + 1 ≤ (2 * (d + 1) + 10) from by first | with_reducible rfl | with_reducible assumption | omega, show 8 + (4 + 11) + 0 ≤ (120 * (d + 1) + 320) from by first | with_reducible rfl | with_reducible assumption | omega⟩ hl.1 rfl (Nat.le_of_ble_eq_true rfl) d_Mpg_make2_595 ⟨Nat.le_of_ble_eq_true rfl, Nat.le_of_ble_eq_true rfl⟩) hw hA (fun v576 p575 H locs hp575 hw => ?_)
      obtain ⟨ef573, ea574, rfl, e577, e578, e579, e580, e581⟩ := hp575
      replace e577 : v576.toInt = (ef561 60).toInt := e577
      replace e578 : (ef573 60).toInt = (ef561 60).toInt + 1 := e578
      replace e579 : (ef573 64).toInt = (ef561 64).toInt := e579
      replace e580 : (ef573 65).toInt = (ef561 65).toInt := e580
      replace e581 : EmU ea562 ea574 (ef561 60) (13 : Int32) (0 : Int32) (0 : Int32) := e581
      have hcd := hcd.tr e581.cd (by omega)
      replace hw : pw D A s.heap H locs [wdP cs h r g tf ta pf na ma wa cf ca ef573 ea574 xf xa] := hw
      have lv576 := Int32.le_toInt v576
      have uv576 := Int32.toInt_lt v576
      refine lv_istore (lv' := [(4, .int v576), (0, .ref h), (1, .int p0)]) S.x S.b d_Mpg_make2_598 hl (by decide) rfl (fun ls hl => ?_)
      refine lv_aload_n S.x S.b d_Mpg_make2_600 rfl (lv_at hl 1 rfl) ?_
      refine lv_aload_n S.x S.b d_Mpg_make2_601 rfl (lv_at hl 1 rfl) ?_
      refine px_get S k_Mpg hT hw 0 0 18 (v := .ref (r 18)) rfl rfl rfl (by decide) m10_3 d_Mpg_make2_602 ?_
      refine lv_iload_n S.x S.b d_Mpg_make2_605 rfl (lv_at hl 2 rfl) ?_
      refine px_iald S hT hw 0 14 (n := 2100) (f := (ma 18)) rfl gp_18 (x := p0) (vp_in_iff.mpr (by constructor <;> omega)) d_Mpg_make2_606 ?_
      refine lv_topi (fun z582 ez582 => ?_)
      have lz582 := Int32.le_toInt z582
      have uz582 := Int32.toInt_lt z582
      have rz582 : z582.toInt = (ma 18 p0.toNatClampNeg).toInt := by rw [ez582]
      have hmk_z582 : MkB ta (tf 6).toInt na ma0 ma ca V d (pf 13).toInt w2 bh z582 := (by rw [ez582]; exact hmk_y8); have hec_z582 := hmk_z582.ec; have hrg_z582 := EcV.rng hec_z582; have hnn_z582 := hmk_z582.nn
      refine px_callv (pr := []) (px_runV (As := [.int z582]) (rest := []) S (hLK ma0 ys ns nf w2 V vl vh X9 fi S9 lv9 bh h r g tf ta pf na ma wa cf ca xf xa ef573 ea574 z582 (show (pf 13).toInt ≤ 2100 from by first | exact g0 | omega) (show (tf 6).toInt ≤ 2049 from by first | exact g1 | omega) (show (cf 38).toInt = nf from by first | exact g2 | omega) (show 0 ≤ nf from by first | exact g3 | omega) (show 0 ≤ (ef573 60).toInt from by first | exact oz_2188d1bf01 e578 e565 g4 | omega) (show (ef573 60).toInt + w2 ≤ 7000 from by first | with_reducible rfl | with_reducible assumption | omega) (show (S9.length : Int) + bh ≤ X9.tall fi from by first | exact g6 | omega) htk (FnT.eq hft (by omega)) hfp han hts hcx hmk_z582 _) hT (pr := []) (pcs := [wdP cs h r g tf ta pf na ma wa cf ca ef573 ea574 xf xa]) hw (oX_call (P := (fun A U H => (oP A g U H))) (pr := []) oG_P hw hA hP) (px_recv hT hw 0 0 rfl rfl rfl) m13_90 m13_87 m13_89 ms_14_3 m1_21 q_Mpg_make2 ⟨show (2 * d + 10) + 1 ≤ (2 * (d + 1) + 10) from by first | with_reducible rfl | with_reducible assumption | omega, show 8 + (8 + 11) + (120 * d + 320) ≤ (120 * (d + 1) + 320) from by first | with_reducible rfl | with_reducible assumption | omega⟩ hl.1 rfl (Nat.le_of_ble_eq_true rfl) d_Mpg_make2_607 ⟨Nat.le_of_ble_eq_true rfl, Nat.le_of_ble_eq_true rfl⟩) hw hA (fun p587 H locs hp587 hw => ?_)
      obtain ⟨ef585, ea586, rfl, e589, e590, e591, e592, e593, e594⟩ := hp587
      replace e589 : (ef573 60).toInt ≤ (ef585 60).toInt := e589
      replace e590 : (ef585 60).toInt ≤ (ef573 60).toInt + w2 := e590
      replace e591 : (ef585 64).toInt = (ef573 64).toInt := e591
      replace e592 : (ef585 65).toInt = (ef573 65).toInt := e592
      replace e593 : CdK ea574 ea586 (ef573 60).toInt := e593
      have hcd := hcd.tr e593 (by omega)
      replace e594 : SgQ X9 (ea586 61) (ef573 60).toInt (ef585 60).toInt fi S9 (0 :: S9) lv9 := e594
      replace hw : pw D A s.heap H locs [wdP cs h r g tf ta pf na ma wa cf ca ef585 ea586 xf xa] := hw
      refine lv_aload_n S.x S.b d_Mpg_make2_610 rfl (lv_at hl 1 rfl) ?_
      refine lv_bipush (v := 12) S.x S.b d_Mpg_make2_611 (by decide) ?_
      refine lv_iconst (v := 0) S.x S.b d_Mpg_make2_613 (by decide) ?_
      refine lv_iconst (v := 0) S.x S.b d_Mpg_make2_614 (by decide) ?_
      refine px_calli (pr := []) (px_runV (As := [.int 12, .int 0, .int 0]) (rest := []) S (c_mp_emit l D cs h r g tf ta pf na ma wa cf ca xf xa ef585 ea586 12 0 0  (show 0 ≤ (ef585 60).toInt from by first | exact oz_6501cbe7e5 e589 e578 e565 g4 | omega) (show (ef585 60).toInt < 7000 from by first | with_reducible rfl | with_reducible assumption | omega) _) hT (pr := []) (pcs := [wdP cs h r g tf ta pf na ma wa cf ca ef585 ea586 xf xa]) hw px_X.tt (px_recv hT hw 0 0 rfl rfl rfl) m13_86 m13_83 m13_85 ms_14_2 m1_21 q_Mpg_emit ⟨show 0 + 1 ≤ (2 * (d + 1) + 10) from by first | with_reducible rfl | with_reducible assumption | omega, show 8 + (4 + 11) + 0 ≤ (120 * (d + 1) + 320) from by first | with_reducible rfl | with_reducible assumption | omega⟩ hl.1 rfl (Nat.le_of_ble_eq_true rfl) d_Mpg_make2_615 ⟨Nat.le_of_ble_eq_true rfl, Nat.le_of_ble_eq_true rfl⟩) hw hA (fun v600 p599 H locs hp599 hw => ?_)
      obtain ⟨ef597, ea598, rfl, e601, e602, e603, e604, e605⟩ := hp599
      replace e601 : v600.toInt = (ef585 60).toInt := e601
      replace e602 : (ef597 60).toInt = (ef585 60).toInt + 1 := e602
      replace e603 : (ef597 64).toInt = (ef585 64).toInt := e603
      replace e604 : (ef597 65).toInt = (ef585 65).toInt := e604
      replace e605 : EmU ea586 ea598 (ef585 60) (12 : Int32) (0 : Int32) (0 : Int32) := e605
      have hcd := hcd.tr e605.cd (by omega)
      replace hw : pw D A s.heap H locs [wdP cs h r g tf ta pf na ma wa cf ca ef597 ea598 xf xa] := hw
      have lv600 := Int32.le_toInt v600
      have uv600 := Int32.toInt_lt v600
      refine lv_istore (lv' := [(5, .int v600), (4, .int v576), (0, .ref h), (1, .int p0)]) S.x S.b d_Mpg_make2_618 hl (by decide) rfl (fun ls hl => ?_)
      refine lv_aload_n S.x S.b d_Mpg_make2_620 rfl (lv_at hl 2 rfl) ?_
      refine lv_iload S.x S.b d_Mpg_make2_621 (lv_at hl 1 rfl) ?_
      refine px_callv (pr := []) (px_runV (As := [.int v576]) (rest := []) S (c_mp_land l D cs h r g tf ta pf na ma wa cf ca ef597 xf xa ea598 v576  (show 0 ≤ v576.toInt from by first | exact oz_9921a0d148 e577 e565 g4 | omega) (show v576.toInt < 7000 from by first | with_reducible rfl | with_reducible assumption | omega) _) hT (pr := []) (pcs := [wdP cs h r g tf ta pf na ma wa cf ca ef597 ea598 xf xa]) hw px_X.tt (px_recv hT hw 0 0 rfl rfl rfl) m13_106 m13_103 m13_105 ms_14_7 m1_21 q_Mpg_land ⟨show 0 + 1 ≤ (2 * (d + 1) + 10) from by first | with_reducible rfl | with_reducible assumption | omega, show 8 + (2 + 11) + 0 ≤ (120 * (d + 1) + 320) from by first | with_reducible rfl | with_reducible assumption | omega⟩ hl.1 rfl (Nat.le_of_ble_eq_true rfl) d_Mpg_make2_623 ⟨Nat.le_of_ble_eq_true rfl, Nat.le_of_ble_eq_true rfl⟩) hw hA (fun p608 H locs hp608 hw => ?_)
      obtain ⟨ea607, rfl, e610⟩ := hp608
      replace e610 : LaU ea598 ea607 v576 (ef597 60) := e610
      have hcd := hcd.tr (LaU.cd e610 (s := (ef 60).toInt) (by omega)) (Int.le_refl _)
      replace hw : pw D A s.heap H locs [wdP cs h r g tf ta pf na ma wa cf ca ef597 ea607 xf xa] := hw
      refine lv_aload_n S.x S.b d_Mpg_make2_626 rfl (lv_at hl 2 rfl) ?_
      refine lv_aload_n S.x S.b d_Mpg_make2_627 rfl (lv_at hl 2 rfl) ?_
      refine px_get S k_Mpg hT hw 0 0 19 (v := .ref (r 19)) rfl rfl rfl (by decide) m10_5 d_Mpg_make2_628 ?_
      refine lv_iload_n S.x S.b d_Mpg_make2_631 rfl (lv_at hl 3 rfl) ?_
      refine px_iald S hT hw 0 15 (n := 2100) (f := (ma 19)) rfl gp_19 (x := p0) (vp_in_iff.mpr (by constructor <;> omega)) d_Mpg_make2_632 ?_
      refine lv_topi (fun z611 ez611 => ?_)
      have lz611 := Int32.le_toInt z611
      have uz611 := Int32.toInt_lt z611
      have hmk_z611 : MkB ta (tf 6).toInt na ma0 ma ca V d (pf 13).toInt w3 bh z611 := (by rw [ez611]; exact hmk_x8); have hec_z611 := hmk_z611.ec; have hrg_z611 := EcV.rng hec_z611; have hnn_z611 := hmk_z611.nn
      refine px_callv (pr := []) (px_runV (As := [.int z611]) (rest := []) S (hLK ma0 ys ns nf w3 V vl vh X9 fi S9 lv9 bh h r g tf ta pf na ma wa cf ca xf xa ef597 ea607 z611 (show (pf 13).toInt ≤ 2100 from by first | exact g0 | omega) (show (tf 6).toInt ≤ 2049 from by first | exact g1 | omega) (show (cf 38).toInt = nf from by first | exact g2 | omega) (show 0 ≤ nf from by first | exact g3 | omega) (show 0 ≤ (ef597 60).toInt from by first | exact oz_78bd7587d7 e602 e589 e578 e565 g4 | omega) (show (ef597 60).toInt + w3 ≤ 7000 from by first | exact oz_665bdb3ca1 hw8.2.2.2 e602 g5 e566 e590 e578 | omega) (show (S9.length : Int) + bh ≤ X9.tall fi from by first | exact g6 | omega) htk (FnT.eq hft (by omega)) hfp han hts hcx hmk_z611 _) hT (pr := []) (pcs := [wdP cs h r g tf ta pf na ma wa cf ca ef597 ea607 xf xa]) hw (oX_call (P := (fun A U H => (oP A g U H))) (pr := []) oG_P hw hA hP) (px_recv hT hw 0 0 rfl rfl rfl) m13_90 m13_87 m13_89 ms_14_3 m1_21 q_Mpg_make2 ⟨show (2 * d + 10) + 1 ≤ (2 * (d + 1) + 10) from by first | with_reducible rfl | with_reducible assumption | omega, show 8 + (8 + 11) + (120 * d + 320) ≤ (120 * (d + 1) + 320) from by first | with_reducible rfl | with_reducible assumption | omega⟩ hl.1 rfl (Nat.le_of_ble_eq_true rfl) d_Mpg_make2_633 ⟨Nat.le_of_ble_eq_true rfl, Nat.le_of_ble_eq_true rfl⟩) hw hA (fun p616 H locs hp616 hw => ?_)
      obtain ⟨ef614, ea615, rfl, e618, e619, e620, e621, e622, e623⟩ := hp616
      replace e618 : (ef597 60).toInt ≤ (ef614 60).toInt := e618
      replace e619 : (ef614 60).toInt ≤ (ef597 60).toInt + w3 := e619
      replace e620 : (ef614 64).toInt = (ef597 64).toInt := e620
      replace e621 : (ef614 65).toInt = (ef597 65).toInt := e621
      replace e622 : CdK ea607 ea615 (ef597 60).toInt := e622
      have hcd := hcd.tr e622 (by omega)
      replace e623 : SgQ X9 (ea615 61) (ef597 60).toInt (ef614 60).toInt fi S9 (0 :: S9) lv9 := e623
      replace hw : pw D A s.heap H locs [wdP cs h r g tf ta pf na ma wa cf ca ef614 ea615 xf xa] := hw
      refine lv_aload_n S.x S.b d_Mpg_make2_636 rfl (lv_at hl 2 rfl) ?_
      refine lv_iload S.x S.b d_Mpg_make2_637 (lv_at hl 0 rfl) ?_
      refine px_callv (pr := []) (px_runV (As := [.int v600]) (rest := []) S (c_mp_land l D cs h r g tf ta pf na ma wa cf ca ef614 xf xa ea615 v600  (show 0 ≤ v600.toInt from by first | exact oz_2d9ae659ef e601 e589 e578 e565 g4 | omega) (show v600.toInt < 7000 from by first | exact oz_186d00e865 e601 e590 hw8.2.2.2 e578 g5 e566 hnn_z611.1 | omega) _) hT (pr := []) (pcs := [wdP cs h r g tf ta pf na ma wa cf ca ef614 ea615 xf xa]) hw px_X.tt (px_recv hT hw 0 0 rfl rfl rfl) m13_106 m13_103 m13_105 ms_14_7 m1_21 q_Mpg_land ⟨show 0 + 1 ≤ (2 * (d + 1) + 10) from by first | with_reducible rfl | with_reducible assumption | omega, show 8 + (2 + 11) + 0 ≤ (120 * (d + 1) + 320) from by first | with_reducible rfl | with_reducible assumption | omega⟩ hl.1 rfl (Nat.le_of_ble_eq_true rfl) d_Mpg_make2_639 ⟨Nat.le_of_ble_eq_true rfl, Nat.le_of_ble_eq_true rfl⟩) hw hA (fun p626 H locs hp626 hw => ?_)
      obtain ⟨ea625, rfl, e628⟩ := hp626
      replace e628 : LaU ea615 ea625 v600 (ef614 60) := e628
      have hcd := hcd.tr (LaU.cd e628 (s := (ef 60).toInt) (by omega)) (Int.le_refl _)
      replace hw : pw D A s.heap H locs [wdP cs h r g tf ta pf na ma wa cf ca ef614 ea625 xf xa] := hw
      refine lv_goto (tgt := 772) S.x S.b d_Mpg_make2_642 (by decide) ?_
      exact px_vret S hr hlk hAe hw (Nat.le_of_ble_eq_true rfl) (Nat.le_of_ble_eq_true rfl) (⟨ef614, ea625, rfl, (show (ef 60).toInt ≤ (ef614 60).toInt from by first | exact oz_013402b7ac e565 e618 e578 e602 e589 | omega), (show (ef614 60).toInt ≤ (ef 60).toInt + wt from by first | exact oz_2ac729c12b hw8.2.2.2 e566 e619 e578 e590 e602 | omega), (show (ef614 64).toInt = (ef 64).toInt from by first | exact oz_0867352dd7 e567 e620 e579 e603 e591 | omega), (show (ef614 65).toInt = (ef 65).toInt from by first | exact oz_0867352dd7 e568 e621 e580 e604 e592 | omega), (show CdK ea ea625 (ef 60).toInt from hcd), (show SgQ X9 (ea625 61) (ef 60).toInt (ef614 60).toInt fi S9 (0 :: S9) lv9 from ((sgq_if hsg e581 e593 e594 e605 e610 e622 e623 e628 (by omega) (by omega) (by omega) (by omega) (by omega) (by omega) rfl rfl (by omega) (by omega) (by omega)).tq rfl (by omega) rfl))⟩) d_Mpg_make2_772
theorem makc_all (l : Launch) (D : va_G) (cs : Nat → ClassId) : ∀ d : Nat, MakC l D cs d := by
  intro d
  induction d with
  | zero => intro ma0 ys ns nf wt V vl vh X9 fi S9 lv9 bh h r g tf ta pf na ma wa cf ca xf xa ef ea p0 g0 g1 g2 g3 g4 g5 g6 htk hft hfp han hts hcx hmk; exact (mkb_0 hmk).elim
  | succ d ih => intro ma0 ys ns nf wt V vl vh X9 fi S9 lv9 bh h r g tf ta pf na ma wa cf ca xf xa ef ea p0 g0 g1 g2 g3 g4 g5 g6 htk hft hfp han hts hcx hmk; exact c_mp_mk1 l D cs ma0 ys ns nf d wt V vl vh X9 fi S9 lv9 bh h r g tf ta pf na ma wa cf ca xf xa ef ea p0 g0 g1 g2 g3 g4 g5 g6 htk hft hfp han hts hcx hmk ih
set_option maxHeartbeats 4000000 in
set_option maxRecDepth 100000 in
theorem c_S_make (l : Launch) (D : va_G) (cs : Nat → ClassId) (ma0 : Nat → Nat → Int32) (ys : Int) (ns : Int) (nf : Int) (d : Nat) (wt : Int) (V : Nat → Nat → Prop) (vl : Int) (vh : Int) (X9 : Cx) (fi : Int) (S9 : List Nat) (lv9 : Nat) (bh : Int) (h : Nat) (r : Nat → Nat) (g : Nat → Nat → Option Nat) (tf : Nat → Int32) (ta : Nat → Nat → Int32) (pf : Nat → Int32) (na : Nat → Nat → Int32) (ma : Nat → Nat → Int32) (wa : Nat → Nat → Int32) (cf : Nat → Int32) (ca : Nat → Nat → Int32) (xf : Nat → Int32) (xa : Nat → Nat → Int32) (ef : Nat → Int32) (ea : Nat → Nat → Int32) (p0 : Int32)  (g0 : (pf 13).toInt ≤ 2100) (g1 : (tf 6).toInt ≤ 2049) (g2 : (cf 38).toInt = nf) (g3 : 0 ≤ nf) (g4 : 0 ≤ (ef 60).toInt) (g5 : (ef 60).toInt + wt ≤ 7000) (g6 : (S9.length : Int) + bh ≤ X9.tall fi) (htk : TkI tf ta) (hft : FnT (tf 6).toInt na ca (cf 38).toInt) (hfp : FnP na ca nf) (han : Ann na ma0 ma) (hts : Ts (Gk ta ca na ma0 ns ys nf) na ma vl vh V) (hcx : CxI X9 fi ca ns ys nf (tkl na ma0 ca)) (hmk : MkB ta (tf 6).toInt na ma0 ma ca V d (pf 13).toInt wt bh p0) : MetV l y_Mpg_make2 b_Mpg_make2 8 D cs (2 * d + 10) (120 * d + 320) (0) (0) [.ref h, .int p0] [wdP cs h r g tf ta pf na ma wa cf ca ef ea xf xa] (oX (fun A U H => (oP A g U H)) [wdP cs h r g tf ta pf na ma wa cf ca ef ea xf xa]) (fun ps => ∃ (ef' : Nat → Int32) (ea' : Nat → Nat → Int32), (ps = [wdP cs h r g tf ta pf na ma wa cf ca ef' ea' xf xa]) ∧ ((ef 60).toInt ≤ (ef' 60).toInt) ∧ ((ef' 60).toInt ≤ (ef 60).toInt + wt) ∧ ((ef' 64).toInt = (ef 64).toInt) ∧ ((ef' 65).toInt = (ef 65).toInt) ∧ (CdK ea ea' (ef 60).toInt) ∧ (SgQ X9 (ea' 61) (ef 60).toInt (ef' 60).toInt fi S9 (0 :: S9) lv9)) := by
  exact makc_all l D cs d ma0 ys ns nf wt V vl vh X9 fi S9 lv9 bh h r g tf ta pf na ma wa cf ca xf xa ef ea p0 g0 g1 g2 g3 g4 g5 g6 htk hft hfp han hts hcx hmk
