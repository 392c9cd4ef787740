theorem oz_f06a029546 {n0 n1 n2 : Nat}  : 0 + (5 * n0 + 4 * n1 + n2) ≤ (5 * n0 + 4 * n1 + n2) := by omega
theorem oz_71d01cab57 {n0 n1 n2 : Nat}  : 0 + (9804 * n0 + 342 * n1 + 36864 * n2) ≤ (9804 * n0 + 342 * n1 + 36864 * n2) := by omega
theorem oz_c7dee4c87e {n0 n1 n2 n3 n4 n5 n6 : Nat} (h0 : n0 + (5 * n4 + 4 * n5 + n6) ≤ 5 * n1 + 4 * n2 + n3) : (0 + n0) + 0 ≤ (5 * n1 + 4 * n2 + n3) := by omega
theorem oz_8f57d4b9d7 {n0 n1 n2 n3 n4 n5 n6 : Nat} (h0 : n0 + (9804 * n4 + 342 * n5 + 36864 * n6) ≤ 9804 * n1 + 342 * n2 + 36864 * n3) : (0 + n0) + 0 ≤ (9804 * n1 + 342 * n2 + 36864 * n3) := by omega
theorem oz_4f50ab301a {a0 : Int} (h0 : a0 = (0 : Int)) : 0 ≤ a0 := by omega
theorem oz_92ea0ac9cc {a0 : Int} (h0 : a0 = (0 : Int)) : a0 ≤ 1 := by omega
theorem oz_301bb61272 {a0 a2 : Int} {n1 : Nat} (h0 : 1000000 - a2 < ((n1 + 1 : Nat) : Int)) (h1 : a0 = a2 + 1) : 1000000 - a0 < (n1 : Int) := by omega
theorem oz_8d9c241760 {n0 n1 n2 n3 n4 n5 n6 : Nat} (h0 : n0 + (5 * n1 + 4 * n2 + n3) ≤ 5 * n4 + 4 * n5 + n6) : n0 + (5 * n1 + 4 * n2 + n3) ≤ (5 * n4 + 4 * n5 + n6) := by omega
theorem oz_7d29951c31 {n0 n1 n2 n3 n4 n5 n6 : Nat} (h0 : n0 + (9804 * n1 + 342 * n2 + 36864 * n3) ≤ 9804 * n4 + 342 * n5 + 36864 * n6) : n0 + (9804 * n1 + 342 * n2 + 36864 * n3) ≤ (9804 * n4 + 342 * n5 + 36864 * n6) := by omega
theorem oz_0f434a6095 {n0 n1 n2 n3 n4 n5 n6 n7 n8 n9 n10 : Nat} (h0 : n0 + (5 * n5 + 4 * n6 + n7) ≤ 5 * n2 + 4 * n3 + n4) (h1 : n1 + (5 * n8 + 4 * n9 + n10) ≤ 5 * n5 + 4 * n6 + n7) : (n0 + n1) + 0 ≤ (5 * n2 + 4 * n3 + n4) := by omega
theorem oz_3b764635d7 {n0 n1 n2 n3 n4 n5 n6 n7 n8 n9 n10 : Nat} (h0 : n0 + (9804 * n5 + 342 * n6 + 36864 * n7) ≤ 9804 * n2 + 342 * n3 + 36864 * n4) (h1 : n1 + (9804 * n8 + 342 * n9 + 36864 * n10) ≤ 9804 * n5 + 342 * n6 + 36864 * n7) : (n0 + n1) + 0 ≤ (9804 * n2 + 342 * n3 + 36864 * n4) := by omega
theorem oz_09730e4356 {n0 n1 n2 n3 n4 n5 n6 n7 n8 n9 n10 : Nat} (h0 : n0 + (5 * n8 + 4 * n9 + n10) ≤ 5 * n5 + 4 * n6 + n7) (h1 : n1 + (5 * n2 + 4 * n3 + n4) ≤ 5 * n8 + 4 * n9 + n10) : (n0 + n1) + (5 * n2 + 4 * n3 + n4) ≤ 5 * n5 + 4 * n6 + n7 := by omega
theorem oz_0d0bbc14c3 {n0 n1 n2 n3 n4 n5 n6 n7 n8 n9 n10 : Nat} (h0 : n0 + (9804 * n8 + 342 * n9 + 36864 * n10) ≤ 9804 * n5 + 342 * n6 + 36864 * n7) (h1 : n1 + (9804 * n2 + 342 * n3 + 36864 * n4) ≤ 9804 * n8 + 342 * n9 + 36864 * n10) : (n0 + n1) + (9804 * n2 + 342 * n3 + 36864 * n4) ≤ 9804 * n5 + 342 * n6 + 36864 * n7 := by omega
theorem m8_57 : Cond.methodLink "HomeSystem$Kernel" 104 ⟨"HomeSystem$Kernel", "partner", "(LHomeSystem$AnyProcess;)I"⟩ ∈ AL := AL_8 (List.mem_of_getElem? (i := 57) rfl) rfl
theorem m8_60 : Cond.code ⟨"HomeSystem$Kernel", "partner", "(LHomeSystem$AnyProcess;)I"⟩ prog_4_method_7_code 3 (Option.some FieldType.int) ∈ AL := AL_8 (List.mem_of_getElem? (i := 60) rfl) rfl
theorem ms_5_9 : Cond.selects "HomeSystem$Kernel" ⟨"HomeSystem$Kernel", "partner", "(LHomeSystem$AnyProcess;)I"⟩ ⟨"HomeSystem$Kernel", "partner", "(LHomeSystem$AnyProcess;)I"⟩ ∈ AL := AL_p (q := (⟨"HomeSystem$Kernel", "partner", "(LHomeSystem$AnyProcess;)I"⟩, 10)) (by unfold lw_privs; exact List.mem_append_right _ (List.mem_append_right _ (List.mem_append_right _ (List.mem_append_right _ (List.mem_append_left _ (List.mem_of_getElem? (i := 9) rfl))))))
theorem m8_59 : Cond.instanceMethod ⟨"HomeSystem$Kernel", "partner", "(LHomeSystem$AnyProcess;)I"⟩ ∈ AL := AL_8 (List.mem_of_getElem? (i := 59) rfl) rfl
theorem m8_159 : Cond.methodLink "HomeSystem$Kernel" 139 ⟨"HomeSystem$Kernel", "receive", "(LHomeSystem$AnyProcess;II)Z"⟩ ∈ AL := AL_8 (List.mem_of_getElem? (i := 159) rfl) rfl
theorem m8_162 : Cond.code ⟨"HomeSystem$Kernel", "receive", "(LHomeSystem$AnyProcess;II)Z"⟩ prog_4_method_9_code 6 (Option.some FieldType.boolean) ∈ AL := AL_8 (List.mem_of_getElem? (i := 162) rfl) rfl
theorem ms_6_3 : Cond.selects "HomeSystem$Kernel" ⟨"HomeSystem$Kernel", "receive", "(LHomeSystem$AnyProcess;II)Z"⟩ ⟨"HomeSystem$Kernel", "receive", "(LHomeSystem$AnyProcess;II)Z"⟩ ∈ AL := AL_p (q := (⟨"HomeSystem$Kernel", "receive", "(LHomeSystem$AnyProcess;II)Z"⟩, 10)) (by unfold lw_privs; exact List.mem_append_right _ (List.mem_append_right _ (List.mem_append_right _ (List.mem_append_right _ (List.mem_append_right _ (List.mem_append_left _ (List.mem_of_getElem? (i := 3) rfl)))))))
theorem m8_161 : Cond.instanceMethod ⟨"HomeSystem$Kernel", "receive", "(LHomeSystem$AnyProcess;II)Z"⟩ ∈ AL := AL_8 (List.mem_of_getElem? (i := 161) rfl) rfl
theorem m8_61 : Cond.methodLink "HomeSystem$Kernel" 114 ⟨"HomeSystem$AnyProcess", "write", "(I)V"⟩ ∈ AL := AL_8 (List.mem_of_getElem? (i := 61) rfl) rfl
theorem m8_66 : Cond.code ⟨"HomeSystem$AnyProcess", "write", "(I)V"⟩ prog_2_method_4_code 2 (Option.none : Option Jvm.ClassFile.FieldType) ∈ AL := AL_8 (List.mem_of_getElem? (i := 66) rfl) rfl
theorem m8_63 : Cond.sameMethod "HomeSystem$AnyProcess" "HomeSystem$AnyProcess" "write" "(I)V" ∈ AL := AL_8 (List.mem_of_getElem? (i := 63) rfl) rfl
theorem m8_62 : Cond.instanceMethod ⟨"HomeSystem$AnyProcess", "write", "(I)V"⟩ ∈ AL := AL_8 (List.mem_of_getElem? (i := 62) rfl) rfl
theorem m8_65 : Cond.selects "HomeSystem$TextProcess" ⟨"HomeSystem$AnyProcess", "write", "(I)V"⟩ ⟨"HomeSystem$AnyProcess", "write", "(I)V"⟩ ∈ AL := AL_8 (List.mem_of_getElem? (i := 65) rfl) rfl
theorem m8_147 : Cond.methodLink "HomeSystem$Kernel" 131 ⟨"HomeSystem$Kernel", "send", "(LHomeSystem$AnyProcess;II)Z"⟩ ∈ AL := AL_8 (List.mem_of_getElem? (i := 147) rfl) rfl
theorem m8_150 : Cond.code ⟨"HomeSystem$Kernel", "send", "(LHomeSystem$AnyProcess;II)Z"⟩ prog_4_method_8_code 4 (Option.some FieldType.boolean) ∈ AL := AL_8 (List.mem_of_getElem? (i := 150) rfl) rfl
theorem ms_6_0 : Cond.selects "HomeSystem$Kernel" ⟨"HomeSystem$Kernel", "send", "(LHomeSystem$AnyProcess;II)Z"⟩ ⟨"HomeSystem$Kernel", "send", "(LHomeSystem$AnyProcess;II)Z"⟩ ∈ AL := AL_p (q := (⟨"HomeSystem$Kernel", "send", "(LHomeSystem$AnyProcess;II)Z"⟩, 10)) (by unfold lw_privs; exact List.mem_append_right _ (List.mem_append_right _ (List.mem_append_right _ (List.mem_append_right _ (List.mem_append_right _ (List.mem_append_left _ (List.mem_of_getElem? (i := 0) rfl)))))))
theorem m8_149 : Cond.instanceMethod ⟨"HomeSystem$Kernel", "send", "(LHomeSystem$AnyProcess;II)Z"⟩ ∈ AL := AL_8 (List.mem_of_getElem? (i := 149) rfl) rfl
theorem m8_76 : Cond.methodLink "HomeSystem$Kernel" 123 ⟨"HomeSystem$Kernel", "spawn", "(LHomeSystem$AnyProcess;II)I"⟩ ∈ AL := AL_8 (List.mem_of_getElem? (i := 76) rfl) rfl
theorem m8_79 : Cond.code ⟨"HomeSystem$Kernel", "spawn", "(LHomeSystem$AnyProcess;II)I"⟩ prog_4_method_11_code 5 (Option.some FieldType.int) ∈ AL := AL_8 (List.mem_of_getElem? (i := 79) rfl) rfl
theorem ms_5_10 : Cond.selects "HomeSystem$Kernel" ⟨"HomeSystem$Kernel", "spawn", "(LHomeSystem$AnyProcess;II)I"⟩ ⟨"HomeSystem$Kernel", "spawn", "(LHomeSystem$AnyProcess;II)I"⟩ ∈ AL := AL_p (q := (⟨"HomeSystem$Kernel", "spawn", "(LHomeSystem$AnyProcess;II)I"⟩, 10)) (by unfold lw_privs; exact List.mem_append_right _ (List.mem_append_right _ (List.mem_append_right _ (List.mem_append_right _ (List.mem_append_left _ (List.mem_of_getElem? (i := 10) rfl))))))
theorem m8_78 : Cond.instanceMethod ⟨"HomeSystem$Kernel", "spawn", "(LHomeSystem$AnyProcess;II)I"⟩ ∈ AL := AL_8 (List.mem_of_getElem? (i := 78) rfl) rfl
theorem m8_155 : Cond.methodLink "HomeSystem$Kernel" 135 ⟨"HomeSystem$Kernel", "await", "(LHomeSystem$AnyProcess;I)Z"⟩ ∈ AL := AL_8 (List.mem_of_getElem? (i := 155) rfl) rfl
theorem m8_158 : Cond.code ⟨"HomeSystem$Kernel", "await", "(LHomeSystem$AnyProcess;I)Z"⟩ prog_4_method_10_code 4 (Option.some FieldType.boolean) ∈ AL := AL_8 (List.mem_of_getElem? (i := 158) rfl) rfl
theorem ms_6_2 : Cond.selects "HomeSystem$Kernel" ⟨"HomeSystem$Kernel", "await", "(LHomeSystem$AnyProcess;I)Z"⟩ ⟨"HomeSystem$Kernel", "await", "(LHomeSystem$AnyProcess;I)Z"⟩ ∈ AL := AL_p (q := (⟨"HomeSystem$Kernel", "await", "(LHomeSystem$AnyProcess;I)Z"⟩, 10)) (by unfold lw_privs; exact List.mem_append_right _ (List.mem_append_right _ (List.mem_append_right _ (List.mem_append_right _ (List.mem_append_right _ (List.mem_append_left _ (List.mem_of_getElem? (i := 2) rfl)))))))
theorem m8_157 : Cond.instanceMethod ⟨"HomeSystem$Kernel", "await", "(LHomeSystem$AnyProcess;I)Z"⟩ ∈ AL := AL_8 (List.mem_of_getElem? (i := 157) rfl) rfl
theorem m8_80 : Cond.methodLink "HomeSystem$Kernel" 127 ⟨"HomeSystem$Kernel", "move", "(LHomeSystem$AnyProcess;I)V"⟩ ∈ AL := AL_8 (List.mem_of_getElem? (i := 80) rfl) rfl
theorem m8_83 : Cond.code ⟨"HomeSystem$Kernel", "move", "(LHomeSystem$AnyProcess;I)V"⟩ prog_4_method_12_code 5 (Option.none : Option Jvm.ClassFile.FieldType) ∈ AL := AL_8 (List.mem_of_getElem? (i := 83) rfl) rfl
theorem ms_5_11 : Cond.selects "HomeSystem$Kernel" ⟨"HomeSystem$Kernel", "move", "(LHomeSystem$AnyProcess;I)V"⟩ ⟨"HomeSystem$Kernel", "move", "(LHomeSystem$AnyProcess;I)V"⟩ ∈ AL := AL_p (q := (⟨"HomeSystem$Kernel", "move", "(LHomeSystem$AnyProcess;I)V"⟩, 10)) (by unfold lw_privs; exact List.mem_append_right _ (List.mem_append_right _ (List.mem_append_right _ (List.mem_append_right _ (List.mem_append_left _ (List.mem_of_getElem? (i := 11) rfl))))))
theorem m8_82 : Cond.instanceMethod ⟨"HomeSystem$Kernel", "move", "(LHomeSystem$AnyProcess;I)V"⟩ ∈ AL := AL_8 (List.mem_of_getElem? (i := 82) rfl) rfl
theorem m8_64 : Cond.selects "HomeSystem$RawProcess" ⟨"HomeSystem$AnyProcess", "write", "(I)V"⟩ ⟨"HomeSystem$AnyProcess", "write", "(I)V"⟩ ∈ AL := AL_8 (List.mem_of_getElem? (i := 64) rfl) rfl
theorem m8_48 : Cond.constant "HomeSystem$Kernel" 65 (1000000) ∈ AL := AL_8 (List.mem_of_getElem? (i := 48) rfl) rfl
theorem m6_155 : Cond.fieldLink "HomeSystem$Kernel" 92 "HomeSystem$AnyProcess" "calling" "Z" ∈ AL := AL_6 (List.mem_of_getElem? (i := 155) rfl) rfl
theorem m8_163 : Cond.methodLink "HomeSystem$Kernel" 98 ⟨"HomeSystem$AnyProcess", "go", "()V"⟩ ∈ AL := AL_8 (List.mem_of_getElem? (i := 163) rfl) rfl
theorem m8_239 : Cond.code ⟨"HomeSystem$TextProcess", "go", "()V"⟩ prog_11_method_3_code 2 (Option.none : Option Jvm.ClassFile.FieldType) ∈ AL := AL_8 (List.mem_of_getElem? (i := 239) rfl) rfl
theorem m8_165 : Cond.sameMethod "HomeSystem$AnyProcess" "HomeSystem$AnyProcess" "go" "()V" ∈ AL := AL_8 (List.mem_of_getElem? (i := 165) rfl) rfl
theorem m8_238 : Cond.instanceMethod ⟨"HomeSystem$TextProcess", "go", "()V"⟩ ∈ AL := AL_8 (List.mem_of_getElem? (i := 238) rfl) rfl
theorem m8_237 : Cond.selects "HomeSystem$TextProcess" ⟨"HomeSystem$AnyProcess", "go", "()V"⟩ ⟨"HomeSystem$TextProcess", "go", "()V"⟩ ∈ AL := AL_8 (List.mem_of_getElem? (i := 237) rfl) rfl
theorem m8_164n : Cond.declares ⟨"HomeSystem$AnyProcess", "go", "()V"⟩ ∈ tables_1 := by unfold tables_1; exact List.mem_append_right _ (List.mem_append_right _ (List.mem_append_right _ (List.mem_append_right _ (List.mem_append_right _ (List.mem_append_right _ (List.mem_append_right _ (List.mem_append_left _ (List.mem_of_getElem? (i := 164) rfl))))))))
theorem m8_53 : Cond.methodLink "HomeSystem$Kernel" 95 ⟨"HomeSystem$Kernel", "serve", "(LHomeSystem$AnyProcess;)Z"⟩ ∈ AL := AL_8 (List.mem_of_getElem? (i := 53) rfl) rfl
theorem m8_56 : Cond.code ⟨"HomeSystem$Kernel", "serve", "(LHomeSystem$AnyProcess;)Z"⟩ prog_4_method_6_code 4 (Option.some FieldType.boolean) ∈ AL := AL_8 (List.mem_of_getElem? (i := 56) rfl) rfl
theorem ms_5_8 : Cond.selects "HomeSystem$Kernel" ⟨"HomeSystem$Kernel", "serve", "(LHomeSystem$AnyProcess;)Z"⟩ ⟨"HomeSystem$Kernel", "serve", "(LHomeSystem$AnyProcess;)Z"⟩ ∈ AL := AL_p (q := (⟨"HomeSystem$Kernel", "serve", "(LHomeSystem$AnyProcess;)Z"⟩, 10)) (by unfold lw_privs; exact List.mem_append_right _ (List.mem_append_right _ (List.mem_append_right _ (List.mem_append_right _ (List.mem_append_left _ (List.mem_of_getElem? (i := 8) rfl))))))
theorem m8_55 : Cond.instanceMethod ⟨"HomeSystem$Kernel", "serve", "(LHomeSystem$AnyProcess;)Z"⟩ ∈ AL := AL_8 (List.mem_of_getElem? (i := 55) rfl) rfl
theorem m8_168 : Cond.code ⟨"HomeSystem$RawProcess", "go", "()V"⟩ prog_8_method_3_code 2 (Option.none : Option Jvm.ClassFile.FieldType) ∈ AL := AL_8 (List.mem_of_getElem? (i := 168) rfl) rfl
theorem m8_167 : Cond.instanceMethod ⟨"HomeSystem$RawProcess", "go", "()V"⟩ ∈ AL := AL_8 (List.mem_of_getElem? (i := 167) rfl) rfl
theorem m8_166 : Cond.selects "HomeSystem$RawProcess" ⟨"HomeSystem$AnyProcess", "go", "()V"⟩ ⟨"HomeSystem$RawProcess", "go", "()V"⟩ ∈ AL := AL_8 (List.mem_of_getElem? (i := 166) rfl) rfl
abbrev b_Ker_serve : ByteArray := prog_4_method_6_code
def y_Ker_serve : MethodName := ⟨"HomeSystem$Kernel", "serve", "(LHomeSystem$AnyProcess;)Z"⟩
theorem d_Ker_serve_0 : decode b_Ker_serve 0 = .ok (.aload_n 1, 1) := by decide +kernel
theorem d_Ker_serve_1 : decode b_Ker_serve 1 = .ok (.getfield 101, 3) := by decide +kernel
theorem d_Ker_serve_4 : decode b_Ker_serve 4 = .ok (.istore_n 2, 1) := by decide +kernel
theorem d_Ker_serve_5 : decode b_Ker_serve 5 = .ok (.aload_n 0, 1) := by decide +kernel
theorem d_Ker_serve_6 : decode b_Ker_serve 6 = .ok (.aload_n 1, 1) := by decide +kernel
theorem d_Ker_serve_7 : decode b_Ker_serve 7 = .ok (.invokevirtual 104, 3) := by decide +kernel
theorem d_Ker_serve_10 : decode b_Ker_serve 10 = .ok (.istore_n 3, 1) := by decide +kernel
theorem d_Ker_serve_11 : decode b_Ker_serve 11 = .ok (.aload_n 1, 1) := by decide +kernel
theorem d_Ker_serve_12 : decode b_Ker_serve 12 = .ok (.getfield 108, 3) := by decide +kernel
theorem d_Ker_serve_15 : decode b_Ker_serve 15 = .ok (.tableswitch 148 1 9 #[49, 105, 148, 148, 64, 130, 83, 83, 94], 49) := by decide +kernel
theorem d_Ker_serve_64 : decode b_Ker_serve 64 = .ok (.aload_n 1, 1) := by decide +kernel
theorem d_Ker_serve_65 : decode b_Ker_serve 65 = .ok (.aload_n 1, 1) := by decide +kernel
theorem d_Ker_serve_66 : decode b_Ker_serve 66 = .ok (.getfield 111, 3) := by decide +kernel
theorem d_Ker_serve_69 : decode b_Ker_serve 69 = .ok (.invokevirtual 114, 3) := by decide +kernel
theorem d_Ker_serve_72 : decode b_Ker_serve 72 = .ok (.aload_n 1, 1) := by decide +kernel
theorem d_Ker_serve_73 : decode b_Ker_serve 73 = .ok (.iconst 0, 1) := by decide +kernel
theorem d_Ker_serve_74 : decode b_Ker_serve 74 = .ok (.invokevirtual 117, 3) := by decide +kernel
theorem d_Ker_serve_77 : decode b_Ker_serve 77 = .ok (.iconst 1, 1) := by decide +kernel
theorem d_Ker_serve_78 : decode b_Ker_serve 78 = .ok (.ireturn, 1) := by decide +kernel
theorem d_Ker_serve_79 : decode b_Ker_serve 79 = .ok (.aload_n 1, 1) := by decide +kernel
theorem d_Ker_serve_80 : decode b_Ker_serve 80 = .ok (.aload_n 0, 1) := by decide +kernel
theorem d_Ker_serve_81 : decode b_Ker_serve 81 = .ok (.aload_n 1, 1) := by decide +kernel
theorem d_Ker_serve_82 : decode b_Ker_serve 82 = .ok (.aload_n 1, 1) := by decide +kernel
theorem d_Ker_serve_83 : decode b_Ker_serve 83 = .ok (.getfield 111, 3) := by decide +kernel
theorem d_Ker_serve_86 : decode b_Ker_serve 86 = .ok (.aload_n 1, 1) := by decide +kernel
theorem d_Ker_serve_87 : decode b_Ker_serve 87 = .ok (.getfield 120, 3) := by decide +kernel
theorem d_Ker_serve_90 : decode b_Ker_serve 90 = .ok (.invokevirtual 123, 3) := by decide +kernel
theorem d_Ker_serve_93 : decode b_Ker_serve 93 = .ok (.invokevirtual 117, 3) := by decide +kernel
theorem d_Ker_serve_96 : decode b_Ker_serve 96 = .ok (.iconst 1, 1) := by decide +kernel
theorem d_Ker_serve_97 : decode b_Ker_serve 97 = .ok (.ireturn, 1) := by decide +kernel
theorem d_Ker_serve_98 : decode b_Ker_serve 98 = .ok (.aload_n 0, 1) := by decide +kernel
theorem d_Ker_serve_99 : decode b_Ker_serve 99 = .ok (.aload_n 1, 1) := by decide +kernel
theorem d_Ker_serve_100 : decode b_Ker_serve 100 = .ok (.aload_n 1, 1) := by decide +kernel
theorem d_Ker_serve_101 : decode b_Ker_serve 101 = .ok (.getfield 111, 3) := by decide +kernel
theorem d_Ker_serve_104 : decode b_Ker_serve 104 = .ok (.invokevirtual 127, 3) := by decide +kernel
theorem d_Ker_serve_107 : decode b_Ker_serve 107 = .ok (.iconst 1, 1) := by decide +kernel
theorem d_Ker_serve_108 : decode b_Ker_serve 108 = .ok (.ireturn, 1) := by decide +kernel
theorem d_Ker_serve_109 : decode b_Ker_serve 109 = .ok (.aload_n 1, 1) := by decide +kernel
theorem d_Ker_serve_110 : decode b_Ker_serve 110 = .ok (.iconst 1, 1) := by decide +kernel
theorem d_Ker_serve_111 : decode b_Ker_serve 111 = .ok (.aload_n 1, 1) := by decide +kernel
theorem d_Ker_serve_112 : decode b_Ker_serve 112 = .ok (.getfield 111, 3) := by decide +kernel
theorem d_Ker_serve_115 : decode b_Ker_serve 115 = .ok (.invokevirtual 74, 3) := by decide +kernel
theorem d_Ker_serve_118 : decode b_Ker_serve 118 = .ok (.iconst 1, 1) := by decide +kernel
theorem d_Ker_serve_119 : decode b_Ker_serve 119 = .ok (.ireturn, 1) := by decide +kernel
theorem d_Ker_serve_120 : decode b_Ker_serve 120 = .ok (.aload_n 0, 1) := by decide +kernel
theorem d_Ker_serve_121 : decode b_Ker_serve 121 = .ok (.aload_n 1, 1) := by decide +kernel
theorem d_Ker_serve_122 : decode b_Ker_serve 122 = .ok (.iload_n 3, 1) := by decide +kernel
theorem d_Ker_serve_123 : decode b_Ker_serve 123 = .ok (.aload_n 1, 1) := by decide +kernel
theorem d_Ker_serve_124 : decode b_Ker_serve 124 = .ok (.getfield 111, 3) := by decide +kernel
theorem d_Ker_serve_127 : decode b_Ker_serve 127 = .ok (.ifCond .ne 9, 3) := by decide +kernel
theorem d_Ker_serve_130 : decode b_Ker_serve 130 = .ok (.iconst 2, 1) := by decide +kernel
theorem d_Ker_serve_131 : decode b_Ker_serve 131 = .ok (.iload_n 2, 1) := by decide +kernel
theorem d_Ker_serve_132 : decode b_Ker_serve 132 = .ok (.imul, 1) := by decide +kernel
theorem d_Ker_serve_133 : decode b_Ker_serve 133 = .ok (.goto 8, 3) := by decide +kernel
theorem d_Ker_serve_136 : decode b_Ker_serve 136 = .ok (.iconst 2, 1) := by decide +kernel
theorem d_Ker_serve_137 : decode b_Ker_serve 137 = .ok (.iload_n 3, 1) := by decide +kernel
theorem d_Ker_serve_138 : decode b_Ker_serve 138 = .ok (.imul, 1) := by decide +kernel
theorem d_Ker_serve_139 : decode b_Ker_serve 139 = .ok (.iconst 1, 1) := by decide +kernel
theorem d_Ker_serve_140 : decode b_Ker_serve 140 = .ok (.iadd, 1) := by decide +kernel
theorem d_Ker_serve_141 : decode b_Ker_serve 141 = .ok (.invokevirtual 131, 3) := by decide +kernel
theorem d_Ker_serve_144 : decode b_Ker_serve 144 = .ok (.ireturn, 1) := by decide +kernel
theorem d_Ker_serve_145 : decode b_Ker_serve 145 = .ok (.aload_n 0, 1) := by decide +kernel
theorem d_Ker_serve_146 : decode b_Ker_serve 146 = .ok (.aload_n 1, 1) := by decide +kernel
theorem d_Ker_serve_147 : decode b_Ker_serve 147 = .ok (.aload_n 1, 1) := by decide +kernel
theorem d_Ker_serve_148 : decode b_Ker_serve 148 = .ok (.getfield 111, 3) := by decide +kernel
theorem d_Ker_serve_151 : decode b_Ker_serve 151 = .ok (.ifCond .ne 7, 3) := by decide +kernel
theorem d_Ker_serve_154 : decode b_Ker_serve 154 = .ok (.iconst (-1), 1) := by decide +kernel
theorem d_Ker_serve_155 : decode b_Ker_serve 155 = .ok (.goto 4, 3) := by decide +kernel
theorem d_Ker_serve_158 : decode b_Ker_serve 158 = .ok (.iload_n 3, 1) := by decide +kernel
theorem d_Ker_serve_159 : decode b_Ker_serve 159 = .ok (.invokevirtual 135, 3) := by decide +kernel
theorem d_Ker_serve_162 : decode b_Ker_serve 162 = .ok (.ireturn, 1) := by decide +kernel
theorem d_Ker_serve_163 : decode b_Ker_serve 163 = .ok (.aload_n 0, 1) := by decide +kernel
theorem d_Ker_serve_164 : decode b_Ker_serve 164 = .ok (.aload_n 1, 1) := by decide +kernel
theorem d_Ker_serve_165 : decode b_Ker_serve 165 = .ok (.iload_n 3, 1) := by decide +kernel
theorem d_Ker_serve_166 : decode b_Ker_serve 166 = .ok (.aload_n 1, 1) := by decide +kernel
theorem d_Ker_serve_167 : decode b_Ker_serve 167 = .ok (.getfield 111, 3) := by decide +kernel
theorem d_Ker_serve_170 : decode b_Ker_serve 170 = .ok (.ifCond .ne 11, 3) := by decide +kernel
theorem d_Ker_serve_173 : decode b_Ker_serve 173 = .ok (.iconst 2, 1) := by decide +kernel
theorem d_Ker_serve_174 : decode b_Ker_serve 174 = .ok (.iload_n 2, 1) := by decide +kernel
theorem d_Ker_serve_175 : decode b_Ker_serve 175 = .ok (.imul, 1) := by decide +kernel
theorem d_Ker_serve_176 : decode b_Ker_serve 176 = .ok (.iconst 1, 1) := by decide +kernel
theorem d_Ker_serve_177 : decode b_Ker_serve 177 = .ok (.iadd, 1) := by decide +kernel
theorem d_Ker_serve_178 : decode b_Ker_serve 178 = .ok (.goto 6, 3) := by decide +kernel
theorem d_Ker_serve_181 : decode b_Ker_serve 181 = .ok (.iconst 2, 1) := by decide +kernel
theorem d_Ker_serve_182 : decode b_Ker_serve 182 = .ok (.iload_n 3, 1) := by decide +kernel
theorem d_Ker_serve_183 : decode b_Ker_serve 183 = .ok (.imul, 1) := by decide +kernel
theorem d_Ker_serve_184 : decode b_Ker_serve 184 = .ok (.invokevirtual 139, 3) := by decide +kernel
theorem d_Ker_serve_187 : decode b_Ker_serve 187 = .ok (.ireturn, 1) := by decide +kernel
theorem q_Ker_serve : px_y y_Ker_serve 1 := by unfold px_y; decide +kernel
set_option maxHeartbeats 4000000 in
set_option maxRecDepth 100000 in
theorem c_k_serve_T (l : Launch) (D : va_G) (cs : Nat → ClassId) (hk : Nat) (kr : Nat → Nat) (pq : Nat → Option Nat) (kf : Nat → Int32) (PV : Nat → Pvs) (pz : Nat → Option Nat) (tq : Nat → Option Nat) (rq : Nat → Option Nat) (ka : Nat → Nat → Int32) (TR : Nat → Nat → Nat) (TO : Nat → Option Nat) (TF : Nat → Nat → Int32) (TA : Nat → Nat → Nat → Int32) (RR : Nat → Nat → Nat) (RM : Nat → Option Nat) (RW : Nat → Option Nat) (RF : Nat → Nat → Int32) (RA : Nat → Nat → Nat → Int32) (RC : Nat → Nat → Int32) (ip hx : Nat) (g0 : 0 ≤ (kf 8).toInt) (g1 : (kf 8).toInt ≤ 100) (g2 : (TF ip 21).toInt = 1) (hki : KnI pq PV pz tq rq TO TF TA RW RF) (hro : RoI ka) (hrm : RmI rq RM) (hip : ip < 13) (hcu : CuT pq PV tq TO ip hx) : MgI l y_Ker_serve b_Ker_serve 4 (.boolean) D cs 8 330 ((5 * ndS 13 tq + 4 * ndS 13 rq + ndS 13 RM)) ((9804 * ndS 13 tq + 342 * ndS 13 rq + 36864 * ndS 13 RM)) [.ref hk, .ref hx] [wd_Ker cs hk kr (fun _ => none) kf ka (gKe pq pz tq rq), fm 13 (fTx cs tq TR TO TF TA), fm 13 (fRw cs rq RR RM RW RF RA RC), fm 8 (fPp cs pq PV)] (fun _ => True) (fun v ps => ∃ (pz' : Nat → Option Nat) (tq' : Nat → Option Nat) (rq' : Nat → Option Nat) (ka' : Nat → Nat → Int32) (TR' : Nat → Nat → Nat) (TO' : Nat → Option Nat) (TF' : Nat → Nat → Int32) (TA' : Nat → Nat → Nat → Int32) (RR' : Nat → Nat → Nat) (RM' : Nat → Option Nat) (RW' : Nat → Option Nat) (RF' : Nat → Nat → Int32) (RA' : Nat → Nat → Nat → Int32) (RC' : Nat → Nat → Int32), (ps.1 = [wd_Ker cs hk kr (fun _ => none) kf ka' (gKe pq pz' tq' rq'), fm 13 (fTx cs tq' TR' TO' TF' TA'), fm 13 (fRw cs rq' RR' RM' RW' RF' RA' RC'), fm 8 (fPp cs pq PV)]) ∧ (v = 0 ∨ v = 1) ∧ (CuT pq PV tq' TO' ip hx) ∧ (KnI pq PV pz' tq' rq' TO' TF' TA' RW' RF') ∧ (RoI ka') ∧ (RmI rq' RM') ∧ (ps.2.1 + (5 * ndS 13 tq' + 4 * ndS 13 rq' + ndS 13 RM') ≤ 5 * ndS 13 tq + 4 * ndS 13 rq + ndS 13 RM) ∧ (ps.2.2 + (9804 * ndS 13 tq' + 342 * ndS 13 rq' + 36864 * ndS 13 RM') ≤ 9804 * ndS 13 tq + 342 * ndS 13 rq + 36864 * ndS 13 RM)) := by
  refine pg_enter (by decide) (Nat.le_of_ble_eq_true rfl) ?_
  intro p e s m below meth c A ls hAe S hr hlk hnm hA hT hX hw hl
  have hl : lv_has ls 4 [(0, .ref hk), (1, .ref hx)] := hl
  have cstm1 : ((-1) : Int32).toInt = (-1) := rfl
  have cst0 : (0 : Int32).toInt = 0 := rfl
  have cst1 : (1 : Int32).toInt = 1 := rfl
  have cst2 : (2 : Int32).toInt = 2 := rfl
  refine lv_aload_n S.x S.b d_Ker_serve_0 rfl (lv_at hl 1 rfl) ?_
  obtain ⟨j1, hp1, hj1, hjq1, hto1, hf01⟩ := hcu.2
  have hw : pw D A s.heap _ _ [wd_Ker cs hk kr (fun _ => none) kf ka (gKe pq pz tq rq), fm 13 (fRw cs rq RR RM RW RF RA RC), fm 8 (fPp cs pq PV), fm 13 (fTx cs tq TR TO TF TA)] := hw.sub [0, 2, 3, 1] rfl rfl
  have hw : pw D A s.heap _ _ [wd_Ker cs hk kr (fun _ => none) kf ka (gKe pq pz tq rq), fm 13 (fRw cs rq RR RM RW RF RA RC), fm 8 (fPp cs pq PV), fo 13 (fTx cs tq TR TO TF TA) ip, wd_Txp cs hx (TR ip) (fun k => if k = 3 then (some hp1) else none) (TF ip) (TA ip) (fun _ _ => none)] := ftx_out (pr := [wd_Ker cs hk kr (fun _ => none) kf ka (gKe pq pz tq rq), fm 13 (fRw cs rq RR RM RW RF RA RC), fm 8 (fPp cs pq PV)]) hw hip hcu.1 hto1
  have htn2 : TxN ip (TF ip) (TA ip) := hki.2.1 ip hip _ hcu.1
  obtain ⟨lk, ⟨i2, i3⟩, ⟨i4, i5⟩, ⟨i6, i7⟩, i8, ⟨i9, i11⟩, i10, hrt⟩ := htn2.1
  have hid2 := htn2.2.1
  have hch2 := htn2.2.2
  unfold KcI at hch2
  refine px_get S k_Txp hT hw 4 0 15 (v := .int ((TF ip) 15)) rfl rfl rfl (by decide) m6_133 d_Ker_serve_1 ?_
  refine lv_istore_n (lv' := [(2, .int ((TF ip) 15)), (0, .ref hk), (1, .ref hx)]) S.x S.b d_Ker_serve_4 rfl hl (by decide) rfl (fun ls hl => ?_)
  refine lv_aload_n S.x S.b d_Ker_serve_5 rfl (lv_at hl 1 rfl) ?_
  refine lv_aload_n S.x S.b d_Ker_serve_6 rfl (lv_at hl 2 rfl) ?_
  have hw : pw D A s.heap _ _ [wd_Ker cs hk kr (fun _ => none) kf ka (gKe pq pz tq rq), fm 13 (fRw cs rq RR RM RW RF RA RC), fm 8 (fPp cs pq PV), fm 13 (fTx cs tq TR TO TF TA)] := ftx_back (pr := [wd_Ker cs hk kr (fun _ => none) kf ka (gKe pq pz tq rq), fm 13 (fRw cs rq RR RM RW RF RA RC), fm 8 (fPp cs pq PV)]) hw hip hcu.1 hto1
  have hw : pw D A s.heap _ _ [wd_Ker cs hk kr (fun _ => none) kf ka (gKe pq pz tq rq), fm 13 (fTx cs tq TR TO TF TA), fm 13 (fRw cs rq RR RM RW RF RA RC), fm 8 (fPp cs pq PV)] := hw.sub [0, 3, 1, 2] rfl rfl
  refine px_calli (pr := []) (px_runV (As := [.ref hx]) (rest := []) S (c_k_partner_T l D cs hk kr pq pz tq rq kf ka TR TO TF TA RR RM RW RF RA RC PV  ip hx hki hip hcu _) hT (pr := []) (pcs := [wd_Ker cs hk kr (fun _ => none) kf ka (gKe pq pz tq rq), fm 13 (fTx cs tq TR TO TF TA), fm 13 (fRw cs rq RR RM RW RF RA RC), fm 8 (fPp cs pq PV)]) hw px_X.tt (px_recv hT hw 0 0 rfl rfl rfl) m8_60 m8_57 m8_59 ms_5_9 m1_19 q_Ker_partner ⟨Nat.le_of_ble_eq_true rfl, Nat.le_of_ble_eq_true rfl⟩ hl.1 rfl (Nat.le_of_ble_eq_true rfl) d_Ker_serve_7 ⟨show 0 + 0 ≤ (5 * ndS 13 tq + 4 * ndS 13 rq + ndS 13 RM) from (by first | exact oz_9c199dfd7f | omega), show 0 + 0 ≤ (9804 * ndS 13 tq + 342 * ndS 13 rq + 36864 * ndS 13 RM) from (by first | exact oz_54615505fb | omega)⟩) hw hA (fun v4 p3 H locs hp3 hw => ?_)
  obtain ⟨rfl, e5, e6⟩ := hp3
  have e5 : -1 ≤ v4.toInt := e5
  have e6 : v4.toInt ≤ 12 := e6
  have hw : pw D A s.heap H locs [wd_Ker cs hk kr (fun _ => none) kf ka (gKe pq pz tq rq), fm 13 (fTx cs tq TR TO TF TA), fm 13 (fRw cs rq RR RM RW RF RA RC), fm 8 (fPp cs pq PV)] := hw
  have lv4 := Int32.le_toInt v4
  have uv4 := Int32.toInt_lt v4
  refine lv_istore_n (lv' := [(3, .int v4), (2, .int ((TF ip) 15)), (0, .ref hk), (1, .ref hx)]) S.x S.b d_Ker_serve_10 rfl hl (by decide) rfl (fun ls hl => ?_)
  refine lv_aload_n S.x S.b d_Ker_serve_11 rfl (lv_at hl 3 rfl) ?_
  have hw : pw D A s.heap _ _ [wd_Ker cs hk kr (fun _ => none) kf ka (gKe pq pz tq rq), fm 13 (fRw cs rq RR RM RW RF RA RC), fm 8 (fPp cs pq PV), fm 13 (fTx cs tq TR TO TF TA)] := hw.sub [0, 2, 3, 1] rfl rfl
  have hw : pw D A s.heap _ _ [wd_Ker cs hk kr (fun _ => none) kf ka (gKe pq pz tq rq), fm 13 (fRw cs rq RR RM RW RF RA RC), fm 8 (fPp cs pq PV), fo 13 (fTx cs tq TR TO TF TA) ip, wd_Txp cs hx (TR ip) (fun k => if k = 3 then (some hp1) else none) (TF ip) (TA ip) (fun _ _ => none)] := ftx_out (pr := [wd_Ker cs hk kr (fun _ => none) kf ka (gKe pq pz tq rq), fm 13 (fRw cs rq RR RM RW RF RA RC), fm 8 (fPp cs pq PV)]) hw hip hcu.1 hto1
  have htn7 : TxN ip (TF ip) (TA ip) := hki.2.1 ip hip _ hcu.1
  obtain ⟨lk, ⟨i2, i3⟩, ⟨i4, i5⟩, ⟨i6, i7⟩, i8, ⟨i9, i11⟩, i10, hrt⟩ := htn7.1
  have hid7 := htn7.2.1
  have hch7 := htn7.2.2
  unfold KcI at hch7
  refine px_get S k_Txp hT hw 4 0 22 (v := .int ((TF ip) 22)) rfl rfl rfl (by decide) m6_158 d_Ker_serve_12 ?_
  refine px_tableK S (dt := 163) [(64, [1]), (120, [2]), (163, [3, 4]), (79, [5]), (145, [6]), (98, [7, 8]), (109, [9])] d_Ker_serve_15 (by decide +kernel) (by decide) (by decide +kernel) ?_ ?_
  ·
    refine lv_aload_n S.x S.b d_Ker_serve_163 rfl (lv_at hl 2 rfl) ?_
    refine lv_aload_n S.x S.b d_Ker_serve_164 rfl (lv_at hl 3 rfl) ?_
    refine lv_iload_n S.x S.b d_Ker_serve_165 rfl (lv_at hl 0 rfl) ?_
    refine lv_aload_n S.x S.b d_Ker_serve_166 rfl (lv_at hl 3 rfl) ?_
    refine px_get S k_Txp hT hw 4 0 23 (v := .int ((TF ip) 23)) rfl rfl rfl (by decide) m6_161 d_Ker_serve_167 ?_
    refine lv_if_ne (tgt := 181) S.x S.b d_Ker_serve_170 (by decide) (fun c9 => ?_) (fun c9 => ?_)
    · have nc9 : ¬ ((TF ip) 23).toInt = (0 : Int) := mt (i_eq (x := ((TF ip) 23)) (y := 0)).mpr c9
      refine lv_iconst (v := 2) S.x S.b d_Ker_serve_181 (by decide) ?_
      refine lv_iload_n S.x S.b d_Ker_serve_182 rfl (lv_at hl 0 rfl) ?_
      refine lv_imul S.x S.b d_Ker_serve_183 ?_
      refine lv_topi (fun z11 ez11 => ?_)
      have lz11 := Int32.le_toInt z11
      have uz11 := Int32.toInt_lt z11
      have tz11 : -2147483648 ≤ 2 * v4.toInt → 2 * v4.toInt < 2147483648 → z11.toInt = 2 * v4.toInt := by rw [ez11]; exact i_mulc 2 v4 (by decide)
      try replace tz11 : z11.toInt = 2 * v4.toInt := by omega
      have hw : pw D A s.heap _ _ [wd_Ker cs hk kr (fun _ => none) kf ka (gKe pq pz tq rq), fm 13 (fRw cs rq RR RM RW RF RA RC), fm 8 (fPp cs pq PV), fm 13 (fTx cs tq TR TO TF TA)] := ftx_back (pr := [wd_Ker cs hk kr (fun _ => none) kf ka (gKe pq pz tq rq), fm 13 (fRw cs rq RR RM RW RF RA RC), fm 8 (fPp cs pq PV)]) hw hip hcu.1 hto1
      have hw : pw D A s.heap _ _ [wd_Ker cs hk kr (fun _ => none) kf ka (gKe pq pz tq rq), fm 13 (fTx cs tq TR TO TF TA), fm 13 (fRw cs rq RR RM RW RF RA RC), fm 8 (fPp cs pq PV)] := hw.sub [0, 3, 1, 2] rfl rfl
      refine pg_calli (pr := []) (px_runV (As := [.ref hx, .int v4, .int z11]) (rest := []) S (c_k_receive_T l D cs hk kr pq kf PV pz tq rq ka TR TO TF TA RR RM RW RF RA RC v4 z11 ip hx (show v4.toInt = -1 ∨ (0 ≤ v4.toInt ∧ v4.toInt ≤ 12 ∧ 0 ≤ z11.toInt ∧ z11.toInt ≤ 25) from by omega) (show (TF ip 21).toInt = 1 from by first | exact g2 | omega) hki hro hrm hip hcu _ _) hT (pr := []) (pcs := [wd_Ker cs hk kr (fun _ => none) kf ka (gKe pq pz tq rq), fm 13 (fTx cs tq TR TO TF TA), fm 13 (fRw cs rq RR RM RW RF RA RC), fm 8 (fPp cs pq PV)]) hw (px_X.tot px_X.tt) (px_recv hT hw 0 0 rfl rfl rfl) m8_162 m8_159 m8_161 ms_6_3 m1_19 q_Ker_receive ⟨Nat.le_of_ble_eq_true rfl, Nat.le_of_ble_eq_true rfl⟩ hl.1 rfl (Nat.le_of_ble_eq_true rfl) d_Ker_serve_184 ⟨show 0 + (5 * ndS 13 tq + 4 * ndS 13 rq + ndS 13 RM) ≤ (5 * ndS 13 tq + 4 * ndS 13 rq + ndS 13 RM) from (by first | exact oz_f06a029546 | omega), show 0 + (9804 * ndS 13 tq + 342 * ndS 13 rq + 36864 * ndS 13 RM) ≤ (9804 * ndS 13 tq + 342 * ndS 13 rq + 36864 * ndS 13 RM) from (by first | exact oz_71d01cab57 | omega)⟩) hw hA (fun v41 p40 k42 n43 H locs hp40 hw => ?_)
      dsimp only at hp40
      obtain ⟨pz26, tq27, rq28, ka29, TR30, TO31, TF32, TA33, RR34, RM35, RW36, RF37, RA38, RC39, rfl, e44, e45, e46, e47, e48, e49, e50⟩ := hp40
      have e44 := z_rng e44
      have e45 : CuT pq PV tq27 TO31 ip hx := e45
      obtain ⟨j51, hp51, hj51, hjq51, hto51, hf051⟩ := e45.2
      have e46 : KnI pq PV pz26 tq27 rq28 TO31 TF32 TA33 RW36 RF37 := e46
      have hki := e46
      have e47 : RoI ka29 := e47
      have hro := e47
      have e48 : RmI rq28 RM35 := e48
      have hrm := e48
      have e49 : k42 + (5 * ndS 13 tq27 + 4 * ndS 13 rq28 + ndS 13 RM35) ≤ 5 * ndS 13 tq + 4 * ndS 13 rq + ndS 13 RM := e49
      have e50 : n43 + (9804 * ndS 13 tq27 + 342 * ndS 13 rq28 + 36864 * ndS 13 RM35) ≤ 9804 * ndS 13 tq + 342 * ndS 13 rq + 36864 * ndS 13 RM := e50
      have hw : pw D A s.heap H locs [wd_Ker cs hk kr (fun _ => none) kf ka29 (gKe pq pz26 tq27 rq28), fm 13 (fTx cs tq27 TR30 TO31 TF32 TA33), fm 13 (fRw cs rq28 RR34 RM35 RW36 RF37 RA38 RC39), fm 8 (fPp cs pq PV)] := hw
      have lv41 := Int32.le_toInt v41
      have uv41 := Int32.toInt_lt v41
      exact pg_iret (v := v41) S hr (z_nar (by omega)) hlk hAe hw (show (0 + k42) ≤ (5 * ndS 13 tq + 4 * ndS 13 rq + ndS 13 RM) from by first | exact oz_c18bd8c19e e49 | omega) (show (0 + n43) ≤ (9804 * ndS 13 tq + 342 * ndS 13 rq + 36864 * ndS 13 RM) from by first | exact oz_a5e7637f35 e50 | omega) (⟨pz26, tq27, rq28, ka29, TR30, TO31, TF32, TA33, RR34, RM35, RW36, RF37, RA38, RC39, rfl, (show v41 = 0 ∨ v41 = 1 from by first | exact Or.inl rfl | exact Or.inr rfl | exact z_or (by omega)), (show CuT pq PV tq27 TO31 ip hx from e45), (show KnI pq PV pz26 tq27 rq28 TO31 TF32 TA33 RW36 RF37 from hki), (show RoI ka29 from hro), (show RmI rq28 RM35 from hrm), (show (0 + k42) + (5 * ndS 13 tq27 + 4 * ndS 13 rq28 + ndS 13 RM35) ≤ 5 * ndS 13 tq + 4 * ndS 13 rq + ndS 13 RM from by first | exact oz_83cb35c84f e49 | omega), (show (0 + n43) + (9804 * ndS 13 tq27 + 342 * ndS 13 rq28 + 36864 * ndS 13 RM35) ≤ 9804 * ndS 13 tq + 342 * ndS 13 rq + 36864 * ndS 13 RM from by first | exact oz_0878d13dda e50 | omega)⟩) d_Ker_serve_187
    · have nc9 : ((TF ip) 23).toInt = (0 : Int) := (i_eq (x := ((TF ip) 23)) (y := 0)).mp c9
      refine lv_iconst (v := 2) S.x S.b d_Ker_serve_173 (by decide) ?_
      refine lv_iload_n S.x S.b d_Ker_serve_174 rfl (lv_at hl 1 rfl) ?_
      refine lv_imul S.x S.b d_Ker_serve_175 ?_
      have lr52 := Int32.le_toInt ((TF ip) 15)
      have ur52 := Int32.toInt_lt ((TF ip) 15)
      refine lv_topi (fun z53 ez53 => ?_)
      have lz53 := Int32.le_toInt z53
      have uz53 := Int32.toInt_lt z53
      have tz53 : -2147483648 ≤ 2 * ((TF ip) 15).toInt → 2 * ((TF ip) 15).toInt < 2147483648 → z53.toInt = 2 * ((TF ip) 15).toInt := by rw [ez53]; exact i_mulc 2 ((TF ip) 15) (by decide)
      try replace tz53 : z53.toInt = 2 * ((TF ip) 15).toInt := by omega
      refine lv_iconst (v := 1) S.x S.b d_Ker_serve_176 (by decide) ?_
      refine lv_iadd S.x S.b d_Ker_serve_177 ?_
      refine lv_topi (fun z54 ez54 => ?_)
      have tz54 : z54.toInt = (z53.toInt + (1 : Int) + 2147483648) % 4294967296 - 2147483648 := by rw [ez54]; exact i_add z53 1
      have lz54 := Int32.le_toInt z54
      have uz54 := Int32.toInt_lt z54
      try replace tz54 : z54.toInt = z53.toInt + (1 : Int) := by omega
      refine lv_goto (tgt := 184) S.x S.b d_Ker_serve_178 (by decide) ?_
      have hw : pw D A s.heap _ _ [wd_Ker cs hk kr (fun _ => none) kf ka (gKe pq pz tq rq), fm 13 (fRw cs rq RR RM RW RF RA RC), fm 8 (fPp cs pq PV), fm 13 (fTx cs tq TR TO TF TA)] := ftx_back (pr := [wd_Ker cs hk kr (fun _ => none) kf ka (gKe pq pz tq rq), fm 13 (fRw cs rq RR RM RW RF RA RC), fm 8 (fPp cs pq PV)]) hw hip hcu.1 hto1
      have hw : pw D A s.heap _ _ [wd_Ker cs hk kr (fun _ => none) kf ka (gKe pq pz tq rq), fm 13 (fTx cs tq TR TO TF TA), fm 13 (fRw cs rq RR RM RW RF RA RC), fm 8 (fPp cs pq PV)] := hw.sub [0, 3, 1, 2] rfl rfl
      refine pg_calli (pr := []) (px_runV (As := [.ref hx, .int v4, .int z54]) (rest := []) S (c_k_receive_T l D cs hk kr pq kf PV pz tq rq ka TR TO TF TA RR RM RW RF RA RC v4 z54 ip hx (show v4.toInt = -1 ∨ (0 ≤ v4.toInt ∧ v4.toInt ≤ 12 ∧ 0 ≤ z54.toInt ∧ z54.toInt ≤ 25) from by omega) (show (TF ip 21).toInt = 1 from by first | exact g2 | omega) hki hro hrm hip hcu _ _) hT (pr := []) (pcs := [wd_Ker cs hk kr (fun _ => none) kf ka (gKe pq pz tq rq), fm 13 (fTx cs tq TR TO TF TA), fm 13 (fRw cs rq RR RM RW RF RA RC), fm 8 (fPp cs pq PV)]) hw (px_X.tot px_X.tt) (px_recv hT hw 0 0 rfl rfl rfl) m8_162 m8_159 m8_161 ms_6_3 m1_19 q_Ker_receive ⟨Nat.le_of_ble_eq_true rfl, Nat.le_of_ble_eq_true rfl⟩ hl.1 rfl (Nat.le_of_ble_eq_true rfl) d_Ker_serve_184 ⟨show 0 + (5 * ndS 13 tq + 4 * ndS 13 rq + ndS 13 RM) ≤ (5 * ndS 13 tq + 4 * ndS 13 rq + ndS 13 RM) from (by first | exact oz_f06a029546 | omega), show 0 + (9804 * ndS 13 tq + 342 * ndS 13 rq + 36864 * ndS 13 RM) ≤ (9804 * ndS 13 tq + 342 * ndS 13 rq + 36864 * ndS 13 RM) from (by first | exact oz_71d01cab57 | omega)⟩) hw hA (fun v84 p83 k85 n86 H locs hp83 hw => ?_)
      dsimp only at hp83
      obtain ⟨pz69, tq70, rq71, ka72, TR73, TO74, TF75, TA76, RR77, RM78, RW79, RF80, RA81, RC82, rfl, e87, e88, e89, e90, e91, e92, e93⟩ := hp83
      have e87 := z_rng e87
      have e88 : CuT pq PV tq70 TO74 ip hx := e88
      obtain ⟨j94, hp94, hj94, hjq94, hto94, hf094⟩ := e88.2
      have e89 : KnI pq PV pz69 tq70 rq71 TO74 TF75 TA76 RW79 RF80 := e89
      have hki := e89
      have e90 : RoI ka72 := e90
      have hro := e90
      have e91 : RmI rq71 RM78 := e91
      have hrm := e91
      have e92 : k85 + (5 * ndS 13 tq70 + 4 * ndS 13 rq71 + ndS 13 RM78) ≤ 5 * ndS 13 tq + 4 * ndS 13 rq + ndS 13 RM := e92
      have e93 : n86 + (9804 * ndS 13 tq70 + 342 * ndS 13 rq71 + 36864 * ndS 13 RM78) ≤ 9804 * ndS 13 tq + 342 * ndS 13 rq + 36864 * ndS 13 RM := e93
      have hw : pw D A s.heap H locs [wd_Ker cs hk kr (fun _ => none) kf ka72 (gKe pq pz69 tq70 rq71), fm 13 (fTx cs tq70 TR73 TO74 TF75 TA76), fm 13 (fRw cs rq71 RR77 RM78 RW79 RF80 RA81 RC82), fm 8 (fPp cs pq PV)] := hw
      have lv84 := Int32.le_toInt v84
      have uv84 := Int32.toInt_lt v84
      exact pg_iret (v := v84) S hr (z_nar (by omega)) hlk hAe hw (show (0 + k85) ≤ (5 * ndS 13 tq + 4 * ndS 13 rq + ndS 13 RM) from by first | exact oz_c18bd8c19e e92 | omega) (show (0 + n86) ≤ (9804 * ndS 13 tq + 342 * ndS 13 rq + 36864 * ndS 13 RM) from by first | exact oz_a5e7637f35 e93 | omega) (⟨pz69, tq70, rq71, ka72, TR73, TO74, TF75, TA76, RR77, RM78, RW79, RF80, RA81, RC82, rfl, (show v84 = 0 ∨ v84 = 1 from by first | exact Or.inl rfl | exact Or.inr rfl | exact z_or (by omega)), (show CuT pq PV tq70 TO74 ip hx from e88), (show KnI pq PV pz69 tq70 rq71 TO74 TF75 TA76 RW79 RF80 from hki), (show RoI ka72 from hro), (show RmI rq71 RM78 from hrm), (show (0 + k85) + (5 * ndS 13 tq70 + 4 * ndS 13 rq71 + ndS 13 RM78) ≤ 5 * ndS 13 tq + 4 * ndS 13 rq + ndS 13 RM from by first | exact oz_83cb35c84f e92 | omega), (show (0 + n86) + (9804 * ndS 13 tq70 + 342 * ndS 13 rq71 + 36864 * ndS 13 RM78) ≤ 9804 * ndS 13 tq + 342 * ndS 13 rq + 36864 * ndS 13 RM from by first | exact oz_0878d13dda e93 | omega)⟩) d_Ker_serve_187
  · refine List.forall_mem_cons.mpr ⟨fun c95 => ?_, List.forall_mem_cons.mpr ⟨fun c95 => ?_, List.forall_mem_cons.mpr ⟨fun c95 => ?_, List.forall_mem_cons.mpr ⟨fun c95 => ?_, List.forall_mem_cons.mpr ⟨fun c95 => ?_, List.forall_mem_cons.mpr ⟨fun c95 => ?_, List.forall_mem_cons.mpr ⟨fun c95 => ?_, fun _ h => absurd h List.not_mem_nil⟩⟩⟩⟩⟩⟩⟩
    · simp only [List.mem_cons, List.not_mem_nil, or_false] at c95
      refine lv_aload_n S.x S.b d_Ker_serve_64 rfl (lv_at hl 3 rfl) ?_
      refine lv_aload_n S.x S.b d_Ker_serve_65 rfl (lv_at hl 3 rfl) ?_
      refine px_get S k_Txp hT hw 4 0 23 (v := .int ((TF ip) 23)) rfl rfl rfl (by decide) m6_161 d_Ker_serve_66 ?_
      refine px_callv (pr := [wd_Ker cs hk kr (fun _ => none) kf ka (gKe pq pz tq rq), fm 13 (fRw cs rq RR RM RW RF RA RC), fm 8 (fPp cs pq PV), fo 13 (fTx cs tq TR TO TF TA) ip]) (px_runU (As := [.int ((TF ip) 23)]) (rest := []) S (c_write_TxpK l D cs hx (TR ip) (fun _ _ => none) hp1 (TF ip) (TA ip) ((TF ip) 23)  (show 0 ≤ ((TF ip) 17).toInt from by omega) (show ((TF ip) 17).toInt ≤ 1000000 from by omega) hrt _) hT (pr := [wd_Ker cs hk kr (fun _ => none) kf ka (gKe pq pz tq rq), fm 13 (fRw cs rq RR RM RW RF RA RC), fm 8 (fPp cs pq PV), fo 13 (fTx cs tq TR TO TF TA) ip]) (pcs := [wd_Txp cs hx (TR ip) (fun k => if k = 3 then (some hp1) else none) (TF ip) (TA ip) (fun _ _ => none)]) hw px_X.tt (C := "HomeSystem$TextProcess") (x := ⟨"HomeSystem$AnyProcess", "write", "(I)V"⟩) (px_recv hT hw 4 0 rfl rfl rfl) m8_66 m8_61 m8_63 m8_62 m8_65 m1_33 rfl q_HomeSystem_AnyProcess_write ⟨Nat.le_of_ble_eq_true rfl, Nat.le_of_ble_eq_true rfl⟩ hl.1 rfl (Nat.le_of_ble_eq_true rfl) d_Ker_serve_69 ⟨show 0 + 0 ≤ (5 * ndS 13 tq + 4 * ndS 13 rq + ndS 13 RM) from (by first | exact oz_9c199dfd7f | omega), show 0 + 0 ≤ (9804 * ndS 13 tq + 342 * ndS 13 rq + 36864 * ndS 13 RM) from (by first | exact oz_54615505fb | omega)⟩) hw hA (fun p100 H locs hp100 hw => ?_)
      obtain ⟨f98, a99, rfl, e102, e103, e104, e105, e106, e107, e108, e109, e110, e111⟩ := hp100
      have e102 : (f98 17).toInt = ((TF ip) 17).toInt + 1 := e102
      have e103 : (f98 4).toInt = ((TF ip) 4).toInt := e103
      have e104 : (f98 5).toInt = ((TF ip) 5).toInt := e104
      have e105 : (f98 8).toInt = ((TF ip) 8).toInt := e105
      have e106 : (f98 9).toInt = ((TF ip) 9).toInt := e106
      have e107 : (f98 15).toInt = ((TF ip) 15).toInt := e107
      have e108 : (f98 18).toInt = ((TF ip) 18).toInt := e108
      have e109 : (f98 20).toInt = ((TF ip) 20).toInt := e109
      have e110 : (f98 21).toInt = ((TF ip) 21).toInt := e110
      have e111 : RtOk (a99 2) := e111
      have hrt := e111
      have hw : pw D A s.heap H locs [wd_Ker cs hk kr (fun _ => none) kf ka (gKe pq pz tq rq), fm 13 (fRw cs rq RR RM RW RF RA RC), fm 8 (fPp cs pq PV), fo 13 (fTx cs tq TR TO TF TA) ip, wd_Txp cs hx (TR ip) (fun k => if k = 3 then (some hp1) else none) f98 a99 (fun _ _ => none)] := hw
      refine lv_aload_n S.x S.b d_Ker_serve_72 rfl (lv_at hl 3 rfl) ?_
      refine lv_iconst (v := 0) S.x S.b d_Ker_serve_73 (by decide) ?_
      refine px_callv (pr := [wd_Ker cs hk kr (fun _ => none) kf ka (gKe pq pz tq rq), fm 13 (fRw cs rq RR RM RW RF RA RC), fm 8 (fPp cs pq PV), fo 13 (fTx cs tq TR TO TF TA) ip]) (px_runA (As := [.int 0]) (rest := []) S (c_Txp_answer l D cs hx (TR ip) (fun _ _ => none) hp1 f98 a99 0  (show TxOk (f98 4) (f98 5) (f98 8) (f98 9) (f98 17) 0 (a99 2) from ⟨(by first | exact lk | exact lk_eq lk (by omega) | exact lk_mk (by omega)), ⟨by omega, by omega⟩, ⟨by omega, by omega⟩, ⟨by omega, by omega⟩, by omega, ⟨by decide, by decide⟩, (by show _ + _ + (0 : Int) ≤ 100; omega), hrt⟩) _) hT (pr := [wd_Ker cs hk kr (fun _ => none) kf ka (gKe pq pz tq rq), fm 13 (fRw cs rq RR RM RW RF RA RC), fm 8 (fPp cs pq PV), fo 13 (fTx cs tq TR TO TF TA) ip]) (pcs := [wd_Txp cs hx (TR ip) (fun k => if k = 3 then (some hp1) else none) f98 a99 (fun _ _ => none)]) hw px_X.tt (C := "HomeSystem$TextProcess") (owner := "HomeSystem$AnyProcess") (x := ⟨"HomeSystem$AnyProcess", "answer", "(I)V"⟩) (px_recv hT hw 4 0 rfl rfl rfl) m8_75 m8_67 m8_69 m8_74 m8_73 m1_35 m8_68n ⟨by decide, by decide⟩ rfl q_Txp_answer ⟨Nat.le_of_ble_eq_true rfl, Nat.le_of_ble_eq_true rfl⟩ hl.1 rfl (Nat.le_of_ble_eq_true rfl) d_Ker_serve_74 ⟨show 0 + 0 ≤ (5 * ndS 13 tq + 4 * ndS 13 rq + ndS 13 RM) from (by first | exact oz_9c199dfd7f | omega), show 0 + 0 ≤ (9804 * ndS 13 tq + 342 * ndS 13 rq + 36864 * ndS 13 RM) from (by first | exact oz_54615505fb | omega)⟩) hw hA (fun p116 H locs hp116 hw => ?_)
      obtain ⟨f114, a115, rfl, e118, e119, e120, e121, e122, e123⟩ := hp116
      have e118 : TxOk (f114 4) (f114 5) (f114 8) (f114 9) (f114 17) (f114 21) (a115 2) := e118
      obtain ⟨lk, ⟨i2, i3⟩, ⟨i4, i5⟩, ⟨i6, i7⟩, i8, ⟨i9, i11⟩, i10, hrt⟩ := e118
      have e119 : (f114 9).toInt = (f98 9).toInt := e119
      have e120 : (f114 17).toInt = (f98 17).toInt := e120
      have e121 : (f114 21).toInt = 0 := e121
      have e122 : (f114 15).toInt = (f98 15).toInt := e122
      have e123 : (f114 20).toInt = (f98 20).toInt := e123
      have hw : pw D A s.heap H locs [wd_Ker cs hk kr (fun _ => none) kf ka (gKe pq pz tq rq), fm 13 (fRw cs rq RR RM RW RF RA RC), fm 8 (fPp cs pq PV), fo 13 (fTx cs tq TR TO TF TA) ip, wd_Txp cs hx (TR ip) (fun k => if k = 3 then (some hp1) else none) f114 a115 (fun _ _ => none)] := hw
      refine lv_iconst (v := 1) S.x S.b d_Ker_serve_77 (by decide) ?_
      have hw := ftx_in0 (pr := [wd_Ker cs hk kr (fun _ => none) kf ka (gKe pq pz tq rq), fm 13 (fRw cs rq RR RM RW RF RA RC), fm 8 (fPp cs pq PV)]) hw hip hcu.1 hto1
      obtain ⟨TF124, hu_TF124⟩ : ∃ y : Nat → Nat → Int32, y = va_up TF ip f114 := ⟨_, rfl⟩
      obtain ⟨TA125, hu_TA125⟩ : ∃ y : Nat → Nat → Nat → Int32, y = va_up TA ip a115 := ⟨_, rfl⟩
      have hw : pw D A s.heap _ _ [wd_Ker cs hk kr (fun _ => none) kf ka (gKe pq pz tq rq), fm 13 (fRw cs rq RR RM RW RF RA RC), fm 8 (fPp cs pq PV), fm 13 (fTx cs tq TR TO TF124 TA125)] := (by rw [hu_TF124, hu_TA125]; exact hw)
      have hki : KnI pq PV pz tq rq TO TF124 TA125 RW RF := (by rw [hu_TF124, hu_TA125]; exact hki.upT (show TxN ip f114 a115 from ⟨(show TxOk (f114 4) (f114 5) (f114 8) (f114 9) (f114 17) (f114 21) (a115 2) from ⟨(by first | exact lk | exact lk_eq lk (by omega) | exact lk_mk (by omega)), ⟨by omega, by omega⟩, ⟨by omega, by omega⟩, ⟨by omega, by omega⟩, by omega, ⟨by omega, by omega⟩, by omega, hrt⟩), (show ((f114 15).toInt) = ((ip : Nat) : Int) from by omega), (show 0 ≤ (f114 20).toInt ∧ (f114 20).toInt ≤ 3 ∧ ((f114 20).toInt = 0 ∨ 3 * ((ip : Nat) : Int) + (f114 20).toInt ≤ 12) from by omega)⟩))
      have hz21_TF124 : (TF124 ip 21).toInt = (f114 21).toInt := (by rw [hu_TF124, va_up_s]; try rfl)
      have hw : pw D A s.heap _ _ [wd_Ker cs hk kr (fun _ => none) kf ka (gKe pq pz tq rq), fm 13 (fTx cs tq TR TO TF124 TA125), fm 13 (fRw cs rq RR RM RW RF RA RC), fm 8 (fPp cs pq PV)] := hw.sub [0, 3, 1, 2] rfl rfl
      exact pg_iret (v := 1) S hr rfl hlk hAe hw (show 0 ≤ (5 * ndS 13 tq + 4 * ndS 13 rq + ndS 13 RM) from by first | exact oz_86e49526c7 | omega) (show 0 ≤ (9804 * ndS 13 tq + 342 * ndS 13 rq + 36864 * ndS 13 RM) from by first | exact oz_fc3b58e969 | omega) (⟨pz, tq, rq, ka, TR, TO, TF124, TA125, RR, RM, RW, RF, RA, RC, rfl, (show (1 : Int32) = 0 ∨ (1 : Int32) = 1 from by first | exact Or.inl rfl | exact Or.inr rfl | exact z_or (by omega)), (show CuT pq PV tq TO ip hx from hcu), (show KnI pq PV pz tq rq TO TF124 TA125 RW RF from hki), (show RoI ka from hro), (show RmI rq RM from hrm), (show 0 + (5 * ndS 13 tq + 4 * ndS 13 rq + ndS 13 RM) ≤ 5 * ndS 13 tq + 4 * ndS 13 rq + ndS 13 RM from by first | exact oz_9d19b050ad | omega), (show 0 + (9804 * ndS 13 tq + 342 * ndS 13 rq + 36864 * ndS 13 RM) ≤ 9804 * ndS 13 tq + 342 * ndS 13 rq + 36864 * ndS 13 RM from by first | exact oz_b5592d0ae7 | omega)⟩) d_Ker_serve_78
    · simp only [List.mem_cons, List.not_mem_nil, or_false] at c95
      refine lv_aload_n S.x S.b d_Ker_serve_120 rfl (lv_at hl 2 rfl) ?_
      refine lv_aload_n S.x S.b d_Ker_serve_121 rfl (lv_at hl 3 rfl) ?_
      refine lv_iload_n S.x S.b d_Ker_serve_122 rfl (lv_at hl 0 rfl) ?_
      refine lv_aload_n S.x S.b d_Ker_serve_123 rfl (lv_at hl 3 rfl) ?_
      refine px_get S k_Txp hT hw 4 0 23 (v := .int ((TF ip) 23)) rfl rfl rfl (by decide) m6_161 d_Ker_serve_124 ?_
      refine lv_if_ne (tgt := 136) S.x S.b d_Ker_serve_127 (by decide) (fun c126 => ?_) (fun c126 => ?_)
      · have nc126 : ¬ ((TF ip) 23).toInt = (0 : Int) := mt (i_eq (x := ((TF ip) 23)) (y := 0)).mpr c126
        refine lv_iconst (v := 2) S.x S.b d_Ker_serve_136 (by decide) ?_
        refine lv_iload_n S.x S.b d_Ker_serve_137 rfl (lv_at hl 0 rfl) ?_
        refine lv_imul S.x S.b d_Ker_serve_138 ?_
        refine lv_topi (fun z128 ez128 => ?_)
        have lz128 := Int32.le_toInt z128
        have uz128 := Int32.toInt_lt z128
        have tz128 : -2147483648 ≤ 2 * v4.toInt → 2 * v4.toInt < 2147483648 → z128.toInt = 2 * v4.toInt := by rw [ez128]; exact i_mulc 2 v4 (by decide)
        try replace tz128 : z128.toInt = 2 * v4.toInt := by omega
        refine lv_iconst (v := 1) S.x S.b d_Ker_serve_139 (by decide) ?_
        refine lv_iadd S.x S.b d_Ker_serve_140 ?_
        refine lv_topi (fun z129 ez129 => ?_)
        have tz129 : z129.toInt = (z128.toInt + (1 : Int) + 2147483648) % 4294967296 - 2147483648 := by rw [ez129]; exact i_add z128 1
        have lz129 := Int32.le_toInt z129
        have uz129 := Int32.toInt_lt z129
        try replace tz129 : z129.toInt = z128.toInt + (1 : Int) := by omega
        have hw : pw D A s.heap _ _ [wd_Ker cs hk kr (fun _ => none) kf ka (gKe pq pz tq rq), fm 13 (fRw cs rq RR RM RW RF RA RC), fm 8 (fPp cs pq PV), fm 13 (fTx cs tq TR TO TF TA)] := ftx_back (pr := [wd_Ker cs hk kr (fun _ => none) kf ka (gKe pq pz tq rq), fm 13 (fRw cs rq RR RM RW RF RA RC), fm 8 (fPp cs pq PV)]) hw hip hcu.1 hto1
        have hw : pw D A s.heap _ _ [wd_Ker cs hk kr (fun _ => none) kf ka (gKe pq pz tq rq), fm 13 (fTx cs tq TR TO TF TA), fm 13 (fRw cs rq RR RM RW RF RA RC), fm 8 (fPp cs pq PV)] := hw.sub [0, 3, 1, 2] rfl rfl
        refine pg_calli (pr := []) (px_runV (As := [.ref hx, .int v4, .int z129]) (rest := []) S (c_k_send_T l D cs hk kr pq kf PV pz tq rq ka TR TO TF TA RR RM RW RF RA RC v4 z129 ip hx (show v4.toInt = -1 ∨ (0 ≤ v4.toInt ∧ v4.toInt ≤ 12 ∧ 0 ≤ z129.toInt ∧ z129.toInt ≤ 25) from by omega) (show (TF ip 21).toInt = 1 from by first | exact g2 | omega) hki hro hrm hip hcu _ _) hT (pr := []) (pcs := [wd_Ker cs hk kr (fun _ => none) kf ka (gKe pq pz tq rq), fm 13 (fTx cs tq TR TO TF TA), fm 13 (fRw cs rq RR RM RW RF RA RC), fm 8 (fPp cs pq PV)]) hw (px_X.tot px_X.tt) (px_recv hT hw 0 0 rfl rfl rfl) m8_150 m8_147 m8_149 ms_6_0 m1_19 q_Ker_send ⟨Nat.le_of_ble_eq_true rfl, Nat.le_of_ble_eq_true rfl⟩ hl.1 rfl (Nat.le_of_ble_eq_true rfl) d_Ker_serve_141 ⟨show 0 + (5 * ndS 13 tq + 4 * ndS 13 rq + ndS 13 RM) ≤ (5 * ndS 13 tq + 4 * ndS 13 rq + ndS 13 RM) from (by first | exact oz_f06a029546 | omega), show 0 + (9804 * ndS 13 tq + 342 * ndS 13 rq + 36864 * ndS 13 RM) ≤ (9804 * ndS 13 tq + 342 * ndS 13 rq + 36864 * ndS 13 RM) from (by first | exact oz_71d01cab57 | omega)⟩) hw hA (fun v159 p158 k160 n161 H locs hp158 hw => ?_)
        dsimp only at hp158
        obtain ⟨pz144, tq145, rq146, ka147, TR148, TO149, TF150, TA151, RR152, RM153, RW154, RF155, RA156, RC157, rfl, e162, e163, e164, e165, e166, e167, e168⟩ := hp158
        have e162 := z_rng e162
        have e163 : CuT pq PV tq145 TO149 ip hx := e163
        obtain ⟨j169, hp169, hj169, hjq169, hto169, hf0169⟩ := e163.2
        have e164 : KnI pq PV pz144 tq145 rq146 TO149 TF150 TA151 RW154 RF155 := e164
        have hki := e164
        have e165 : RoI ka147 := e165
        have hro := e165
        have e166 : RmI rq146 RM153 := e166
        have hrm := e166
        have e167 : k160 + (5 * ndS 13 tq145 + 4 * ndS 13 rq146 + ndS 13 RM153) ≤ 5 * ndS 13 tq + 4 * ndS 13 rq + ndS 13 RM := e167
        have e168 : n161 + (9804 * ndS 13 tq145 + 342 * ndS 13 rq146 + 36864 * ndS 13 RM153) ≤ 9804 * ndS 13 tq + 342 * ndS 13 rq + 36864 * ndS 13 RM := e168
        have hw : pw D A s.heap H locs [wd_Ker cs hk kr (fun _ => none) kf ka147 (gKe pq pz144 tq145 rq146), fm 13 (fTx cs tq145 TR148 TO149 TF150 TA151), fm 13 (fRw cs rq146 RR152 RM153 RW154 RF155 RA156 RC157), fm 8 (fPp cs pq PV)] := hw
        have lv159 := Int32.le_toInt v159
        have uv159 := Int32.toInt_lt v159
        exact pg_iret (v := v159) S hr (z_nar (by omega)) hlk hAe hw (show (0 + k160) ≤ (5 * ndS 13 tq + 4 * ndS 13 rq + ndS 13 RM) from by first | exact oz_c18bd8c19e e167 | omega) (show (0 + n161) ≤ (9804 * ndS 13 tq + 342 * ndS 13 rq + 36864 * ndS 13 RM) from by first | exact oz_a5e7637f35 e168 | omega) (⟨pz144, tq145, rq146, ka147, TR148, TO149, TF150, TA151, RR152, RM153, RW154, RF155, RA156, RC157, rfl, (show v159 = 0 ∨ v159 = 1 from by first | exact Or.inl rfl | exact Or.inr rfl | exact z_or (by omega)), (show CuT pq PV tq145 TO149 ip hx from e163), (show KnI pq PV pz144 tq145 rq146 TO149 TF150 TA151 RW154 RF155 from hki), (show RoI ka147 from hro), (show RmI rq146 RM153 from hrm), (show (0 + k160) + (5 * ndS 13 tq145 + 4 * ndS 13 rq146 + ndS 13 RM153) ≤ 5 * ndS 13 tq + 4 * ndS 13 rq + ndS 13 RM from by first | exact oz_83cb35c84f e167 | omega), (show (0 + n161) + (9804 * ndS 13 tq145 + 342 * ndS 13 rq146 + 36864 * ndS 13 RM153) ≤ 9804 * ndS 13 tq + 342 * ndS 13 rq + 36864 * ndS 13 RM from by first | exact oz_0878d13dda e168 | omega)⟩) d_Ker_serve_144
      · have nc126 : ((TF ip) 23).toInt = (0 : Int) := (i_eq (x := ((TF ip) 23)) (y := 0)).mp c126
        refine lv_iconst (v := 2) S.x S.b d_Ker_serve_130 (by decide) ?_
        refine lv_iload_n S.x S.b d_Ker_serve_131 rfl (lv_at hl 1 rfl) ?_
        refine lv_imul S.x S.b d_Ker_serve_132 ?_
        have lr170 := Int32.le_toInt ((TF ip) 15)
        have ur170 := Int32.toInt_lt ((TF ip) 15)
        refine lv_topi (fun z171 ez171 => ?_)
        have lz171 := Int32.le_toInt z171
        have uz171 := Int32.toInt_lt z171
        have tz171 : -2147483648 ≤ 2 * ((TF ip) 15).toInt → 2 * ((TF ip) 15).toInt < 2147483648 → z171.toInt = 2 * ((TF ip) 15).toInt := by rw [ez171]; exact i_mulc 2 ((TF ip) 15) (by decide)
        try replace tz171 : z171.toInt = 2 * ((TF ip) 15).toInt := by omega
        refine lv_goto (tgt := 141) S.x S.b d_Ker_serve_133 (by decide) ?_
        have hw : pw D A s.heap _ _ [wd_Ker cs hk kr (fun _ => none) kf ka (gKe pq pz tq rq), fm 13 (fRw cs rq RR RM RW RF RA RC), fm 8 (fPp cs pq PV), fm 13 (fTx cs tq TR TO TF TA)] := ftx_back (pr := [wd_Ker cs hk kr (fun _ => none) kf ka (gKe pq pz tq rq), fm 13 (fRw cs rq RR RM RW RF RA RC), fm 8 (fPp cs pq PV)]) hw hip hcu.1 hto1
        have hw : pw D A s.heap _ _ [wd_Ker cs hk kr (fun _ => none) kf ka (gKe pq pz tq rq), fm 13 (fTx cs tq TR TO TF TA), fm 13 (fRw cs rq RR RM RW RF RA RC), fm 8 (fPp cs pq PV)] := hw.sub [0, 3, 1, 2] rfl rfl
        refine pg_calli (pr := []) (px_runV (As := [.ref hx, .int v4, .int z171]) (rest := []) S (c_k_send_T l D cs hk kr pq kf PV pz tq rq ka TR TO TF TA RR RM RW RF RA RC v4 z171 ip hx (show v4.toInt = -1 ∨ (0 ≤ v4.toInt ∧ v4.toInt ≤ 12 ∧ 0 ≤ z171.toInt ∧ z171.toInt ≤ 25) from by omega) (show (TF ip 21).toInt = 1 from by first | exact g2 | omega) hki hro hrm hip hcu _ _) hT (pr := []) (pcs := [wd_Ker cs hk kr (fun _ => none) kf ka (gKe pq pz tq rq), fm 13 (fTx cs tq TR TO TF TA), fm 13 (fRw cs rq RR RM RW RF RA RC), fm 8 (fPp cs pq PV)]) hw (px_X.tot px_X.tt) (px_recv hT hw 0 0 rfl rfl rfl) m8_150 m8_147 m8_149 ms_6_0 m1_19 q_Ker_send ⟨Nat.le_of_ble_eq_true rfl, Nat.le_of_ble_eq_true rfl⟩ hl.1 rfl (Nat.le_of_ble_eq_true rfl) d_Ker_serve_141 ⟨show 0 + (5 * ndS 13 tq + 4 * ndS 13 rq + ndS 13 RM) ≤ (5 * ndS 13 tq + 4 * ndS 13 rq + ndS 13 RM) from (by first | exact oz_f06a029546 | omega), show 0 + (9804 * ndS 13 tq + 342 * ndS 13 rq + 36864 * ndS 13 RM) ≤ (9804 * ndS 13 tq + 342 * ndS 13 rq + 36864 * ndS 13 RM) from (by first | exact oz_71d01cab57 | omega)⟩) hw hA (fun v201 p200 k202 n203 H locs hp200 hw => ?_)
        dsimp only at hp200
        obtain ⟨pz186, tq187, rq188, ka189, TR190, TO191, TF192, TA193, RR194, RM195, RW196, RF197, RA198, RC199, rfl, e204, e205, e206, e207, e208, e209, e210⟩ := hp200
        have e204 := z_rng e204
        have e205 : CuT pq PV tq187 TO191 ip hx := e205
        obtain ⟨j211, hp211, hj211, hjq211, hto211, hf0211⟩ := e205.2
        have e206 : KnI pq PV pz186 tq187 rq188 TO191 TF192 TA193 RW196 RF197 := e206
        have hki := e206
        have e207 : RoI ka189 := e207
        have hro := e207
        have e208 : RmI rq188 RM195 := e208
        have hrm := e208
        have e209 : k202 + (5 * ndS 13 tq187 + 4 * ndS 13 rq188 + ndS 13 RM195) ≤ 5 * ndS 13 tq + 4 * ndS 13 rq + ndS 13 RM := e209
        have e210 : n203 + (9804 * ndS 13 tq187 + 342 * ndS 13 rq188 + 36864 * ndS 13 RM195) ≤ 9804 * ndS 13 tq + 342 * ndS 13 rq + 36864 * ndS 13 RM := e210
        have hw : pw D A s.heap H locs [wd_Ker cs hk kr (fun _ => none) kf ka189 (gKe pq pz186 tq187 rq188), fm 13 (fTx cs tq187 TR190 TO191 TF192 TA193), fm 13 (fRw cs rq188 RR194 RM195 RW196 RF197 RA198 RC199), fm 8 (fPp cs pq PV)] := hw
        have lv201 := Int32.le_toInt v201
        have uv201 := Int32.toInt_lt v201
        exact pg_iret (v := v201) S hr (z_nar (by omega)) hlk hAe hw (show (0 + k202) ≤ (5 * ndS 13 tq + 4 * ndS 13 rq + ndS 13 RM) from by first | exact oz_c18bd8c19e e209 | omega) (show (0 + n203) ≤ (9804 * ndS 13 tq + 342 * ndS 13 rq + 36864 * ndS 13 RM) from by first | exact oz_a5e7637f35 e210 | omega) (⟨pz186, tq187, rq188, ka189, TR190, TO191, TF192, TA193, RR194, RM195, RW196, RF197, RA198, RC199, rfl, (show v201 = 0 ∨ v201 = 1 from by first | exact Or.inl rfl | exact Or.inr rfl | exact z_or (by omega)), (show CuT pq PV tq187 TO191 ip hx from e205), (show KnI pq PV pz186 tq187 rq188 TO191 TF192 TA193 RW196 RF197 from hki), (show RoI ka189 from hro), (show RmI rq188 RM195 from hrm), (show (0 + k202) + (5 * ndS 13 tq187 + 4 * ndS 13 rq188 + ndS 13 RM195) ≤ 5 * ndS 13 tq + 4 * ndS 13 rq + ndS 13 RM from by first | exact oz_83cb35c84f e209 | omega), (show (0 + n203) + (9804 * ndS 13 tq187 + 342 * ndS 13 rq188 + 36864 * ndS 13 RM195) ≤ 9804 * ndS 13 tq + 342 * ndS 13 rq + 36864 * ndS 13 RM from by first | exact oz_0878d13dda e210 | omega)⟩) d_Ker_serve_144
    · simp only [List.mem_cons, List.not_mem_nil, or_false] at c95
      refine lv_aload_n S.x S.b d_Ker_serve_163 rfl (lv_at hl 2 rfl) ?_
      refine lv_aload_n S.x S.b d_Ker_serve_164 rfl (lv_at hl 3 rfl) ?_
      refine lv_iload_n S.x S.b d_Ker_serve_165 rfl (lv_at hl 0 rfl) ?_
      refine lv_aload_n S.x S.b d_Ker_serve_166 rfl (lv_at hl 3 rfl) ?_
      refine px_get S k_Txp hT hw 4 0 23 (v := .int ((TF ip) 23)) rfl rfl rfl (by decide) m6_161 d_Ker_serve_167 ?_
      refine lv_if_ne (tgt := 181) S.x S.b d_Ker_serve_170 (by decide) (fun c212 => ?_) (fun c212 => ?_)
      · have nc212 : ¬ ((TF ip) 23).toInt = (0 : Int) := mt (i_eq (x := ((TF ip) 23)) (y := 0)).mpr c212
        refine lv_iconst (v := 2) S.x S.b d_Ker_serve_181 (by decide) ?_
        refine lv_iload_n S.x S.b d_Ker_serve_182 rfl (lv_at hl 0 rfl) ?_
        refine lv_imul S.x S.b d_Ker_serve_183 ?_
        refine lv_topi (fun z214 ez214 => ?_)
        have lz214 := Int32.le_toInt z214
        have uz214 := Int32.toInt_lt z214
        have tz214 : -2147483648 ≤ 2 * v4.toInt → 2 * v4.toInt < 2147483648 → z214.toInt = 2 * v4.toInt := by rw [ez214]; exact i_mulc 2 v4 (by decide)
        try replace tz214 : z214.toInt = 2 * v4.toInt := by omega
        have hw : pw D A s.heap _ _ [wd_Ker cs hk kr (fun _ => none) kf ka (gKe pq pz tq rq), fm 13 (fRw cs rq RR RM RW RF RA RC), fm 8 (fPp cs pq PV), fm 13 (fTx cs tq TR TO TF TA)] := ftx_back (pr := [wd_Ker cs hk kr (fun _ => none) kf ka (gKe pq pz tq rq), fm 13 (fRw cs rq RR RM RW RF RA RC), fm 8 (fPp cs pq PV)]) hw hip hcu.1 hto1
        have hw : pw D A s.heap _ _ [wd_Ker cs hk kr (fun _ => none) kf ka (gKe pq pz tq rq), fm 13 (fTx cs tq TR TO TF TA), fm 13 (fRw cs rq RR RM RW RF RA RC), fm 8 (fPp cs pq PV)] := hw.sub [0, 3, 1, 2] rfl rfl
        refine pg_calli (pr := []) (px_runV (As := [.ref hx, .int v4, .int z214]) (rest := []) S (c_k_receive_T l D cs hk kr pq kf PV pz tq rq ka TR TO TF TA RR RM RW RF RA RC v4 z214 ip hx (show v4.toInt = -1 ∨ (0 ≤ v4.toInt ∧ v4.toInt ≤ 12 ∧ 0 ≤ z214.toInt ∧ z214.toInt ≤ 25) from by omega) (show (TF ip 21).toInt = 1 from by first | exact g2 | omega) hki hro hrm hip hcu _ _) hT (pr := []) (pcs := [wd_Ker cs hk kr (fun _ => none) kf ka (gKe pq pz tq rq), fm 13 (fTx cs tq TR TO TF TA), fm 13 (fRw cs rq RR RM RW RF RA RC), fm 8 (fPp cs pq PV)]) hw (px_X.tot px_X.tt) (px_recv hT hw 0 0 rfl rfl rfl) m8_162 m8_159 m8_161 ms_6_3 m1_19 q_Ker_receive ⟨Nat.le_of_ble_eq_true rfl, Nat.le_of_ble_eq_true rfl⟩ hl.1 rfl (Nat.le_of_ble_eq_true rfl) d_Ker_serve_184 ⟨show 0 + (5 * ndS 13 tq + 4 * ndS 13 rq + ndS 13 RM) ≤ (5 * ndS 13 tq + 4 * ndS 13 rq + ndS 13 RM) from (by first | exact oz_f06a029546 | omega), show 0 + (9804 * ndS 13 tq + 342 * ndS 13 rq + 36864 * ndS 13 RM) ≤ (9804 * ndS 13 tq + 342 * ndS 13 rq + 36864 * ndS 13 RM) from (by first | exact oz_71d01cab57 | omega)⟩) hw hA (fun v244 p243 k245 n246 H locs hp243 hw => ?_)
        dsimp only at hp243
        obtain ⟨pz229, tq230, rq231, ka232, TR233, TO234, TF235, TA236, RR237, RM238, RW239, RF240, RA241, RC242, rfl, e247, e248, e249, e250, e251, e252, e253⟩ := hp243
        have e247 := z_rng e247
        have e248 : CuT pq PV tq230 TO234 ip hx := e248
        obtain ⟨j254, hp254, hj254, hjq254, hto254, hf0254⟩ := e248.2
        have e249 : KnI pq PV pz229 tq230 rq231 TO234 TF235 TA236 RW239 RF240 := e249
        have hki := e249
        have e250 : RoI ka232 := e250
        have hro := e250
        have e251 : RmI rq231 RM238 := e251
        have hrm := e251
        have e252 : k245 + (5 * ndS 13 tq230 + 4 * ndS 13 rq231 + ndS 13 RM238) ≤ 5 * ndS 13 tq + 4 * ndS 13 rq + ndS 13 RM := e252
        have e253 : n246 + (9804 * ndS 13 tq230 + 342 * ndS 13 rq231 + 36864 * ndS 13 RM238) ≤ 9804 * ndS 13 tq + 342 * ndS 13 rq + 36864 * ndS 13 RM := e253
        have hw : pw D A s.heap H locs [wd_Ker cs hk kr (fun _ => none) kf ka232 (gKe pq pz229 tq230 rq231), fm 13 (fTx cs tq230 TR233 TO234 TF235 TA236), fm 13 (fRw cs rq231 RR237 RM238 RW239 RF240 RA241 RC242), fm 8 (fPp cs pq PV)] := hw
        have lv244 := Int32.le_toInt v244
        have uv244 := Int32.toInt_lt v244
        exact pg_iret (v := v244) S hr (z_nar (by omega)) hlk hAe hw (show (0 + k245) ≤ (5 * ndS 13 tq + 4 * ndS 13 rq + ndS 13 RM) from by first | exact oz_c18bd8c19e e252 | omega) (show (0 + n246) ≤ (9804 * ndS 13 tq + 342 * ndS 13 rq + 36864 * ndS 13 RM) from by first | exact oz_a5e7637f35 e253 | omega) (⟨pz229, tq230, rq231, ka232, TR233, TO234, TF235, TA236, RR237, RM238, RW239, RF240, RA241, RC242, rfl, (show v244 = 0 ∨ v244 = 1 from by first | exact Or.inl rfl | exact Or.inr rfl | exact z_or (by omega)), (show CuT pq PV tq230 TO234 ip hx from e248), (show KnI pq PV pz229 tq230 rq231 TO234 TF235 TA236 RW239 RF240 from hki), (show RoI ka232 from hro), (show RmI rq231 RM238 from hrm), (show (0 + k245) + (5 * ndS 13 tq230 + 4 * ndS 13 rq231 + ndS 13 RM238) ≤ 5 * ndS 13 tq + 4 * ndS 13 rq + ndS 13 RM from by first | exact oz_83cb35c84f e252 | omega), (show (0 + n246) + (9804 * ndS 13 tq230 + 342 * ndS 13 rq231 + 36864 * ndS 13 RM238) ≤ 9804 * ndS 13 tq + 342 * ndS 13 rq + 36864 * ndS 13 RM from by first | exact oz_0878d13dda e253 | omega)⟩) d_Ker_serve_187
      · have nc212 : ((TF ip) 23).toInt = (0 : Int) := (i_eq (x := ((TF ip) 23)) (y := 0)).mp c212
        refine lv_iconst (v := 2) S.x S.b d_Ker_serve_173 (by decide) ?_
        refine lv_iload_n S.x S.b d_Ker_serve_174 rfl (lv_at hl 1 rfl) ?_
        refine lv_imul S.x S.b d_Ker_serve_175 ?_
        have lr255 := Int32.le_toInt ((TF ip) 15)
        have ur255 := Int32.toInt_lt ((TF ip) 15)
        refine lv_topi (fun z256 ez256 => ?_)
        have lz256 := Int32.le_toInt z256
        have uz256 := Int32.toInt_lt z256
        have tz256 : -2147483648 ≤ 2 * ((TF ip) 15).toInt → 2 * ((TF ip) 15).toInt < 2147483648 → z256.toInt = 2 * ((TF ip) 15).toInt := by rw [ez256]; exact i_mulc 2 ((TF ip) 15) (by decide)
        try replace tz256 : z256.toInt = 2 * ((TF ip) 15).toInt := by omega
        refine lv_iconst (v := 1) S.x S.b d_Ker_serve_176 (by decide) ?_
        refine lv_iadd S.x S.b d_Ker_serve_177 ?_
        refine lv_topi (fun z257 ez257 => ?_)
        have tz257 : z257.toInt = (z256.toInt + (1 : Int) + 2147483648) % 4294967296 - 2147483648 := by rw [ez257]; exact i_add z256 1
        have lz257 := Int32.le_toInt z257
        have uz257 := Int32.toInt_lt z257
        try replace tz257 : z257.toInt = z256.toInt + (1 : Int) := by omega
        refine lv_goto (tgt := 184) S.x S.b d_Ker_serve_178 (by decide) ?_
        have hw : pw D A s.heap _ _ [wd_Ker cs hk kr (fun _ => none) kf ka (gKe pq pz tq rq), fm 13 (fRw cs rq RR RM RW RF RA RC), fm 8 (fPp cs pq PV), fm 13 (fTx cs tq TR TO TF TA)] := ftx_back (pr := [wd_Ker cs hk kr (fun _ => none) kf ka (gKe pq pz tq rq), fm 13 (fRw cs rq RR RM RW RF RA RC), fm 8 (fPp cs pq PV)]) hw hip hcu.1 hto1
        have hw : pw D A s.heap _ _ [wd_Ker cs hk kr (fun _ => none) kf ka (gKe pq pz tq rq), fm 13 (fTx cs tq TR TO TF TA), fm 13 (fRw cs rq RR RM RW RF RA RC), fm 8 (fPp cs pq PV)] := hw.sub [0, 3, 1, 2] rfl rfl
        refine pg_calli (pr := []) (px_runV (As := [.ref hx, .int v4, .int z257]) (rest := []) S (c_k_receive_T l D cs hk kr pq kf PV pz tq rq ka TR TO TF TA RR RM RW RF RA RC v4 z257 ip hx (show v4.toInt = -1 ∨ (0 ≤ v4.toInt ∧ v4.toInt ≤ 12 ∧ 0 ≤ z257.toInt ∧ z257.toInt ≤ 25) from by omega) (show (TF ip 21).toInt = 1 from by first | exact g2 | omega) hki hro hrm hip hcu _ _) hT (pr := []) (pcs := [wd_Ker cs hk kr (fun _ => none) kf ka (gKe pq pz tq rq), fm 13 (fTx cs tq TR TO TF TA), fm 13 (fRw cs rq RR RM RW RF RA RC), fm 8 (fPp cs pq PV)]) hw (px_X.tot px_X.tt) (px_recv hT hw 0 0 rfl rfl rfl) m8_162 m8_159 m8_161 ms_6_3 m1_19 q_Ker_receive ⟨Nat.le_of_ble_eq_true rfl, Nat.le_of_ble_eq_true rfl⟩ hl.1 rfl (Nat.le_of_ble_eq_true rfl) d_Ker_serve_184 ⟨show 0 + (5 * ndS 13 tq + 4 * ndS 13 rq + ndS 13 RM) ≤ (5 * ndS 13 tq + 4 * ndS 13 rq + ndS 13 RM) from (by first | exact oz_f06a029546 | omega), show 0 + (9804 * ndS 13 tq + 342 * ndS 13 rq + 36864 * ndS 13 RM) ≤ (9804 * ndS 13 tq + 342 * ndS 13 rq + 36864 * ndS 13 RM) from (by first | exact oz_71d01cab57 | omega)⟩) hw hA (fun v287 p286 k288 n289 H locs hp286 hw => ?_)
        dsimp only at hp286
        obtain ⟨pz272, tq273, rq274, ka275, TR276, TO277, TF278, TA279, RR280, RM281, RW282, RF283, RA284, RC285, rfl, e290, e291, e292, e293, e294, e295, e296⟩ := hp286
        have e290 := z_rng e290
        have e291 : CuT pq PV tq273 TO277 ip hx := e291
        obtain ⟨j297, hp297, hj297, hjq297, hto297, hf0297⟩ := e291.2
        have e292 : KnI pq PV pz272 tq273 rq274 TO277 TF278 TA279 RW282 RF283 := e292
        have hki := e292
        have e293 : RoI ka275 := e293
        have hro := e293
        have e294 : RmI rq274 RM281 := e294
        have hrm := e294
        have e295 : k288 + (5 * ndS 13 tq273 + 4 * ndS 13 rq274 + ndS 13 RM281) ≤ 5 * ndS 13 tq + 4 * ndS 13 rq + ndS 13 RM := e295
        have e296 : n289 + (9804 * ndS 13 tq273 + 342 * ndS 13 rq274 + 36864 * ndS 13 RM281) ≤ 9804 * ndS 13 tq + 342 * ndS 13 rq + 36864 * ndS 13 RM := e296
        have hw : pw D A s.heap H locs [wd_Ker cs hk kr (fun _ => none) kf ka275 (gKe pq pz272 tq273 rq274), fm 13 (fTx cs tq273 TR276 TO277 TF278 TA279), fm 13 (fRw cs rq274 RR280 RM281 RW282 RF283 RA284 RC285), fm 8 (fPp cs pq PV)] := hw
        have lv287 := Int32.le_toInt v287
        have uv287 := Int32.toInt_lt v287
        exact pg_iret (v := v287) S hr (z_nar (by omega)) hlk hAe hw (show (0 + k288) ≤ (5 * ndS 13 tq + 4 * ndS 13 rq + ndS 13 RM) from by first | exact oz_c18bd8c19e e295 | omega) (show (0 + n289) ≤ (9804 * ndS 13 tq + 342 * ndS 13 rq + 36864 * ndS 13 RM) from by first | exact oz_a5e7637f35 e296 | omega) (⟨pz272, tq273, rq274, ka275, TR276, TO277, TF278, TA279, RR280, RM281, RW282, RF283, RA284, RC285, rfl, (show v287 = 0 ∨ v287 = 1 from by first | exact Or.inl rfl | exact Or.inr rfl | exact z_or (by omega)), (show CuT pq PV tq273 TO277 ip hx from e291), (show KnI pq PV pz272 tq273 rq274 TO277 TF278 TA279 RW282 RF283 from hki), (show RoI ka275 from hro), (show RmI rq274 RM281 from hrm), (show (0 + k288) + (5 * ndS 13 tq273 + 4 * ndS 13 rq274 + ndS 13 RM281) ≤ 5 * ndS 13 tq + 4 * ndS 13 rq + ndS 13 RM from by first | exact oz_83cb35c84f e295 | omega), (show (0 + n289) + (9804 * ndS 13 tq273 + 342 * ndS 13 rq274 + 36864 * ndS 13 RM281) ≤ 9804 * ndS 13 tq + 342 * ndS 13 rq + 36864 * ndS 13 RM from by first | exact oz_0878d13dda e296 | omega)⟩) d_Ker_serve_187
    · simp only [List.mem_cons, List.not_mem_nil, or_false] at c95
      refine lv_aload_n S.x S.b d_Ker_serve_79 rfl (lv_at hl 3 rfl) ?_
      refine lv_aload_n S.x S.b d_Ker_serve_80 rfl (lv_at hl 2 rfl) ?_
      refine lv_aload_n S.x S.b d_Ker_serve_81 rfl (lv_at hl 3 rfl) ?_
      refine lv_aload_n S.x S.b d_Ker_serve_82 rfl (lv_at hl 3 rfl) ?_
      refine px_get S k_Txp hT hw 4 0 23 (v := .int ((TF ip) 23)) rfl rfl rfl (by decide) m6_161 d_Ker_serve_83 ?_
      refine lv_aload_n S.x S.b d_Ker_serve_86 rfl (lv_at hl 3 rfl) ?_
      refine px_get S k_Txp hT hw 4 0 24 (v := .int ((TF ip) 24)) rfl rfl rfl (by decide) m6_166 d_Ker_serve_87 ?_
      have hw : pw D A s.heap _ _ [wd_Ker cs hk kr (fun _ => none) kf ka (gKe pq pz tq rq), fm 13 (fRw cs rq RR RM RW RF RA RC), fm 8 (fPp cs pq PV), fm 13 (fTx cs tq TR TO TF TA)] := ftx_back (pr := [wd_Ker cs hk kr (fun _ => none) kf ka (gKe pq pz tq rq), fm 13 (fRw cs rq RR RM RW RF RA RC), fm 8 (fPp cs pq PV)]) hw hip hcu.1 hto1
      have hw : pw D A s.heap _ _ [wd_Ker cs hk kr (fun _ => none) kf ka (gKe pq pz tq rq), fm 13 (fTx cs tq TR TO TF TA), fm 13 (fRw cs rq RR RM RW RF RA RC), fm 8 (fPp cs pq PV)] := hw.sub [0, 3, 1, 2] rfl rfl
      refine pg_calli (pr := []) (px_runV (As := [.ref hx, .int ((TF ip) 23), .int ((TF ip) 24)]) (rest := [.ref hx]) S (c_k_spawn_T l D cs hk kr pq kf PV pz tq rq ka TR TO TF TA RR RM RW RF RA RC ((TF ip) 23) ((TF ip) 24) ip hx (show 0 ≤ (kf 8).toInt from by first | exact g0 | omega) (show (kf 8).toInt ≤ 100 from by first | exact g1 | omega) hki hro hrm hip hcu _ _) hT (pr := []) (pcs := [wd_Ker cs hk kr (fun _ => none) kf ka (gKe pq pz tq rq), fm 13 (fTx cs tq TR TO TF TA), fm 13 (fRw cs rq RR RM RW RF RA RC), fm 8 (fPp cs pq PV)]) hw (px_X.tot px_X.tt) (px_recv hT hw 0 0 rfl rfl rfl) m8_79 m8_76 m8_78 ms_5_10 m1_19 q_Ker_spawn ⟨Nat.le_of_ble_eq_true rfl, Nat.le_of_ble_eq_true rfl⟩ hl.1 rfl (Nat.le_of_ble_eq_true rfl) d_Ker_serve_90 ⟨show 0 + (5 * ndS 13 tq + 4 * ndS 13 rq + ndS 13 RM) ≤ (5 * ndS 13 tq + 4 * ndS 13 rq + ndS 13 RM) from (by first | exact oz_f06a029546 | omega), show 0 + (9804 * ndS 13 tq + 342 * ndS 13 rq + 36864 * ndS 13 RM) ≤ (9804 * ndS 13 tq + 342 * ndS 13 rq + 36864 * ndS 13 RM) from (by first | exact oz_71d01cab57 | omega)⟩) hw hA (fun v327 p326 k328 n329 H locs hp326 hw => ?_)
      dsimp only at hp326
      obtain ⟨pz312, tq313, rq314, ka315, TR316, TO317, TF318, TA319, RR320, RM321, RW322, RF323, RA324, RC325, rfl, e330, e331, e332, e333, e334, e335⟩ := hp326
      have e330 : CuT pq PV tq313 TO317 ip hx := e330
      obtain ⟨j336, hp336, hj336, hjq336, hto336, hf0336⟩ := e330.2
      have e331 : KnI pq PV pz312 tq313 rq314 TO317 TF318 TA319 RW322 RF323 := e331
      have hki := e331
      have e332 : RoI ka315 := e332
      have hro := e332
      have e333 : RmI rq314 RM321 := e333
      have hrm := e333
      have e334 : k328 + (5 * ndS 13 tq313 + 4 * ndS 13 rq314 + ndS 13 RM321) ≤ 5 * ndS 13 tq + 4 * ndS 13 rq + ndS 13 RM := e334
      have e335 : n329 + (9804 * ndS 13 tq313 + 342 * ndS 13 rq314 + 36864 * ndS 13 RM321) ≤ 9804 * ndS 13 tq + 342 * ndS 13 rq + 36864 * ndS 13 RM := e335
      have hw : pw D A s.heap H locs [wd_Ker cs hk kr (fun _ => none) kf ka315 (gKe pq pz312 tq313 rq314), fm 13 (fTx cs tq313 TR316 TO317 TF318 TA319), fm 13 (fRw cs rq314 RR320 RM321 RW322 RF323 RA324 RC325), fm 8 (fPp cs pq PV)] := hw
      have lv327 := Int32.le_toInt v327
      have uv327 := Int32.toInt_lt v327
      have hw : pw D A s.heap _ _ [wd_Ker cs hk kr (fun _ => none) kf ka315 (gKe pq pz312 tq313 rq314), fm 13 (fRw cs rq314 RR320 RM321 RW322 RF323 RA324 RC325), fm 8 (fPp cs pq PV), fm 13 (fTx cs tq313 TR316 TO317 TF318 TA319)] := hw.sub [0, 2, 3, 1] rfl rfl
      have hw : pw D A s.heap _ _ [wd_Ker cs hk kr (fun _ => none) kf ka315 (gKe pq pz312 tq313 rq314), fm 13 (fRw cs rq314 RR320 RM321 RW322 RF323 RA324 RC325), fm 8 (fPp cs pq PV), fo 13 (fTx cs tq313 TR316 TO317 TF318 TA319) ip, wd_Txp cs hx (TR316 ip) (fun k => if k = 3 then (some hp336) else none) (TF318 ip) (TA319 ip) (fun _ _ => none)] := ftx_out (pr := [wd_Ker cs hk kr (fun _ => none) kf ka315 (gKe pq pz312 tq313 rq314), fm 13 (fRw cs rq314 RR320 RM321 RW322 RF323 RA324 RC325), fm 8 (fPp cs pq PV)]) hw hip e330.1 hto336
      have htn337 : TxN ip (TF318 ip) (TA319 ip) := hki.2.1 ip hip _ e330.1
      obtain ⟨lk, ⟨i2, i3⟩, ⟨i4, i5⟩, ⟨i6, i7⟩, i8, ⟨i9, i11⟩, i10, hrt⟩ := htn337.1
      have hid337 := htn337.2.1
      have hch337 := htn337.2.2
      unfold KcI at hch337
      refine px_callv (pr := [wd_Ker cs hk kr (fun _ => none) kf ka315 (gKe pq pz312 tq313 rq314), fm 13 (fRw cs rq314 RR320 RM321 RW322 RF323 RA324 RC325), fm 8 (fPp cs pq PV), fo 13 (fTx cs tq313 TR316 TO317 TF318 TA319) ip]) (px_runA (As := [.int v327]) (rest := []) S (c_Txp_answer l D cs hx (TR316 ip) (fun _ _ => none) hp336 (TF318 ip) (TA319 ip) v327  (show TxOk ((TF318 ip) 4) ((TF318 ip) 5) ((TF318 ip) 8) ((TF318 ip) 9) ((TF318 ip) 17) 0 ((TA319 ip) 2) from ⟨(by first | exact lk | exact lk_eq lk (by omega) | exact lk_mk (by omega)), ⟨by omega, by omega⟩, ⟨by omega, by omega⟩, ⟨by omega, by omega⟩, by omega, ⟨by decide, by decide⟩, (by show _ + _ + (0 : Int) ≤ 100; omega), hrt⟩) _) hT (pr := [wd_Ker cs hk kr (fun _ => none) kf ka315 (gKe pq pz312 tq313 rq314), fm 13 (fRw cs rq314 RR320 RM321 RW322 RF323 RA324 RC325), fm 8 (fPp cs pq PV), fo 13 (fTx cs tq313 TR316 TO317 TF318 TA319) ip]) (pcs := [wd_Txp cs hx (TR316 ip) (fun k => if k = 3 then (some hp336) else none) (TF318 ip) (TA319 ip) (fun _ _ => none)]) hw px_X.tt (C := "HomeSystem$TextProcess") (owner := "HomeSystem$AnyProcess") (x := ⟨"HomeSystem$AnyProcess", "answer", "(I)V"⟩) (px_recv hT hw 4 0 rfl rfl rfl) m8_75 m8_67 m8_69 m8_74 m8_73 m1_35 m8_68n ⟨by decide, by decide⟩ rfl q_Txp_answer ⟨Nat.le_of_ble_eq_true rfl, Nat.le_of_ble_eq_true rfl⟩ hl.1 rfl (Nat.le_of_ble_eq_true rfl) d_Ker_serve_93 ⟨show (0 + k328) + 0 ≤ (5 * ndS 13 tq + 4 * ndS 13 rq + ndS 13 RM) from (by first | exact oz_c7dee4c87e e334 | omega), show (0 + n329) + 0 ≤ (9804 * ndS 13 tq + 342 * ndS 13 rq + 36864 * ndS 13 RM) from (by first | exact oz_8f57d4b9d7 e335 | omega)⟩) hw hA (fun p342 H locs hp342 hw => ?_)
      obtain ⟨f340, a341, rfl, e344, e345, e346, e347, e348, e349⟩ := hp342
      have e344 : TxOk (f340 4) (f340 5) (f340 8) (f340 9) (f340 17) (f340 21) (a341 2) := e344
      obtain ⟨lk, ⟨i2, i3⟩, ⟨i4, i5⟩, ⟨i6, i7⟩, i8, ⟨i9, i11⟩, i10, hrt⟩ := e344
      have e345 : (f340 9).toInt = ((TF318 ip) 9).toInt := e345
      have e346 : (f340 17).toInt = ((TF318 ip) 17).toInt := e346
      have e347 : (f340 21).toInt = 0 := e347
      have e348 : (f340 15).toInt = ((TF318 ip) 15).toInt := e348
      have e349 : (f340 20).toInt = ((TF318 ip) 20).toInt := e349
      have hw : pw D A s.heap H locs [wd_Ker cs hk kr (fun _ => none) kf ka315 (gKe pq pz312 tq313 rq314), fm 13 (fRw cs rq314 RR320 RM321 RW322 RF323 RA324 RC325), fm 8 (fPp cs pq PV), fo 13 (fTx cs tq313 TR316 TO317 TF318 TA319) ip, wd_Txp cs hx (TR316 ip) (fun k => if k = 3 then (some hp336) else none) f340 a341 (fun _ _ => none)] := hw
      refine lv_iconst (v := 1) S.x S.b d_Ker_serve_96 (by decide) ?_
      have hw := ftx_in0 (pr := [wd_Ker cs hk kr (fun _ => none) kf ka315 (gKe pq pz312 tq313 rq314), fm 13 (fRw cs rq314 RR320 RM321 RW322 RF323 RA324 RC325), fm 8 (fPp cs pq PV)]) hw hip e330.1 hto336
      obtain ⟨TF350, hu_TF350⟩ : ∃ y : Nat → Nat → Int32, y = va_up TF318 ip f340 := ⟨_, rfl⟩
      obtain ⟨TA351, hu_TA351⟩ : ∃ y : Nat → Nat → Nat → Int32, y = va_up TA319 ip a341 := ⟨_, rfl⟩
      have hw : pw D A s.heap _ _ [wd_Ker cs hk kr (fun _ => none) kf ka315 (gKe pq pz312 tq313 rq314), fm 13 (fRw cs rq314 RR320 RM321 RW322 RF323 RA324 RC325), fm 8 (fPp cs pq PV), fm 13 (fTx cs tq313 TR316 TO317 TF350 TA351)] := (by rw [hu_TF350, hu_TA351]; exact hw)
      have hki : KnI pq PV pz312 tq313 rq314 TO317 TF350 TA351 RW322 RF323 := (by rw [hu_TF350, hu_TA351]; exact hki.upT (show TxN ip f340 a341 from ⟨(show TxOk (f340 4) (f340 5) (f340 8) (f340 9) (f340 17) (f340 21) (a341 2) from ⟨(by first | exact lk | exact lk_eq lk (by omega) | exact lk_mk (by omega)), ⟨by omega, by omega⟩, ⟨by omega, by omega⟩, ⟨by omega, by omega⟩, by omega, ⟨by omega, by omega⟩, by omega, hrt⟩), (show ((f340 15).toInt) = ((ip : Nat) : Int) from by omega), (show 0 ≤ (f340 20).toInt ∧ (f340 20).toInt ≤ 3 ∧ ((f340 20).toInt = 0 ∨ 3 * ((ip : Nat) : Int) + (f340 20).toInt ≤ 12) from by omega)⟩))
      have hz21_TF350 : (TF350 ip 21).toInt = (f340 21).toInt := (by rw [hu_TF350, va_up_s]; try rfl)
      have hw : pw D A s.heap _ _ [wd_Ker cs hk kr (fun _ => none) kf ka315 (gKe pq pz312 tq313 rq314), fm 13 (fTx cs tq313 TR316 TO317 TF350 TA351), fm 13 (fRw cs rq314 RR320 RM321 RW322 RF323 RA324 RC325), fm 8 (fPp cs pq PV)] := hw.sub [0, 3, 1, 2] rfl rfl
      exact pg_iret (v := 1) S hr rfl hlk hAe hw (show (0 + k328) ≤ (5 * ndS 13 tq + 4 * ndS 13 rq + ndS 13 RM) from by first | exact oz_c18bd8c19e e334 | omega) (show (0 + n329) ≤ (9804 * ndS 13 tq + 342 * ndS 13 rq + 36864 * ndS 13 RM) from by first | exact oz_a5e7637f35 e335 | omega) (⟨pz312, tq313, rq314, ka315, TR316, TO317, TF350, TA351, RR320, RM321, RW322, RF323, RA324, RC325, rfl, (show (1 : Int32) = 0 ∨ (1 : Int32) = 1 from by first | exact Or.inl rfl | exact Or.inr rfl | exact z_or (by omega)), (show CuT pq PV tq313 TO317 ip hx from e330), (show KnI pq PV pz312 tq313 rq314 TO317 TF350 TA351 RW322 RF323 from hki), (show RoI ka315 from hro), (show RmI rq314 RM321 from hrm), (show (0 + k328) + (5 * ndS 13 tq313 + 4 * ndS 13 rq314 + ndS 13 RM321) ≤ 5 * ndS 13 tq + 4 * ndS 13 rq + ndS 13 RM from by first | exact oz_83cb35c84f e334 | omega), (show (0 + n329) + (9804 * ndS 13 tq313 + 342 * ndS 13 rq314 + 36864 * ndS 13 RM321) ≤ 9804 * ndS 13 tq + 342 * ndS 13 rq + 36864 * ndS 13 RM from by first | exact oz_0878d13dda e335 | omega)⟩) d_Ker_serve_97
    · simp only [List.mem_cons, List.not_mem_nil, or_false] at c95
      refine lv_aload_n S.x S.b d_Ker_serve_145 rfl (lv_at hl 2 rfl) ?_
      refine lv_aload_n S.x S.b d_Ker_serve_146 rfl (lv_at hl 3 rfl) ?_
      refine lv_aload_n S.x S.b d_Ker_serve_147 rfl (lv_at hl 3 rfl) ?_
      refine px_get S k_Txp hT hw 4 0 23 (v := .int ((TF ip) 23)) rfl rfl rfl (by decide) m6_161 d_Ker_serve_148 ?_
      refine lv_if_ne (tgt := 158) S.x S.b d_Ker_serve_151 (by decide) (fun c352 => ?_) (fun c352 => ?_)
      · have nc352 : ¬ ((TF ip) 23).toInt = (0 : Int) := mt (i_eq (x := ((TF ip) 23)) (y := 0)).mpr c352
        refine lv_iload_n S.x S.b d_Ker_serve_158 rfl (lv_at hl 0 rfl) ?_
        have hw : pw D A s.heap _ _ [wd_Ker cs hk kr (fun _ => none) kf ka (gKe pq pz tq rq), fm 13 (fRw cs rq RR RM RW RF RA RC), fm 8 (fPp cs pq PV), fm 13 (fTx cs tq TR TO TF TA)] := ftx_back (pr := [wd_Ker cs hk kr (fun _ => none) kf ka (gKe pq pz tq rq), fm 13 (fRw cs rq RR RM RW RF RA RC), fm 8 (fPp cs pq PV)]) hw hip hcu.1 hto1
        have hw : pw D A s.heap _ _ [wd_Ker cs hk kr (fun _ => none) kf ka (gKe pq pz tq rq), fm 13 (fTx cs tq TR TO TF TA), fm 13 (fRw cs rq RR RM RW RF RA RC), fm 8 (fPp cs pq PV)] := hw.sub [0, 3, 1, 2] rfl rfl
        refine pg_calli (pr := []) (px_runV (As := [.ref hx, .int v4]) (rest := []) S (c_k_await_T l D cs hk kr pq kf PV pz tq rq ka TR TO TF TA RR RM RW RF RA RC v4 ip hx (show v4.toInt = -1 ∨ (0 ≤ v4.toInt ∧ v4.toInt ≤ 12) from by omega) (show (TF ip 21).toInt = 1 from by first | exact g2 | omega) hki hro hrm hip hcu _ _) hT (pr := []) (pcs := [wd_Ker cs hk kr (fun _ => none) kf ka (gKe pq pz tq rq), fm 13 (fTx cs tq TR TO TF TA), fm 13 (fRw cs rq RR RM RW RF RA RC), fm 8 (fPp cs pq PV)]) hw (px_X.tot px_X.tt) (px_recv hT hw 0 0 rfl rfl rfl) m8_158 m8_155 m8_157 ms_6_2 m1_19 q_Ker_await ⟨Nat.le_of_ble_eq_true rfl, Nat.le_of_ble_eq_true rfl⟩ hl.1 rfl (Nat.le_of_ble_eq_true rfl) d_Ker_serve_159 ⟨show 0 + (5 * ndS 13 tq + 4 * ndS 13 rq + ndS 13 RM) ≤ (5 * ndS 13 tq + 4 * ndS 13 rq + ndS 13 RM) from (by first | exact oz_f06a029546 | omega), show 0 + (9804 * ndS 13 tq + 342 * ndS 13 rq + 36864 * ndS 13 RM) ≤ (9804 * ndS 13 tq + 342 * ndS 13 rq + 36864 * ndS 13 RM) from (by first | exact oz_71d01cab57 | omega)⟩) hw hA (fun v383 p382 k384 n385 H locs hp382 hw => ?_)
        dsimp only at hp382
        obtain ⟨pz368, tq369, rq370, ka371, TR372, TO373, TF374, TA375, RR376, RM377, RW378, RF379, RA380, RC381, rfl, e386, e387, e388, e389, e390, e391, e392⟩ := hp382
        have e386 := z_rng e386
        have e387 : CuT pq PV tq369 TO373 ip hx := e387
        obtain ⟨j393, hp393, hj393, hjq393, hto393, hf0393⟩ := e387.2
        have e388 : KnI pq PV pz368 tq369 rq370 TO373 TF374 TA375 RW378 RF379 := e388
        have hki := e388
        have e389 : RoI ka371 := e389
        have hro := e389
        have e390 : RmI rq370 RM377 := e390
        have hrm := e390
        have e391 : k384 + (5 * ndS 13 tq369 + 4 * ndS 13 rq370 + ndS 13 RM377) ≤ 5 * ndS 13 tq + 4 * ndS 13 rq + ndS 13 RM := e391
        have e392 : n385 + (9804 * ndS 13 tq369 + 342 * ndS 13 rq370 + 36864 * ndS 13 RM377) ≤ 9804 * ndS 13 tq + 342 * ndS 13 rq + 36864 * ndS 13 RM := e392
        have hw : pw D A s.heap H locs [wd_Ker cs hk kr (fun _ => none) kf ka371 (gKe pq pz368 tq369 rq370), fm 13 (fTx cs tq369 TR372 TO373 TF374 TA375), fm 13 (fRw cs rq370 RR376 RM377 RW378 RF379 RA380 RC381), fm 8 (fPp cs pq PV)] := hw
        have lv383 := Int32.le_toInt v383
        have uv383 := Int32.toInt_lt v383
        exact pg_iret (v := v383) S hr (z_nar (by omega)) hlk hAe hw (show (0 + k384) ≤ (5 * ndS 13 tq + 4 * ndS 13 rq + ndS 13 RM) from by first | exact oz_c18bd8c19e e391 | omega) (show (0 + n385) ≤ (9804 * ndS 13 tq + 342 * ndS 13 rq + 36864 * ndS 13 RM) from by first | exact oz_a5e7637f35 e392 | omega) (⟨pz368, tq369, rq370, ka371, TR372, TO373, TF374, TA375, RR376, RM377, RW378, RF379, RA380, RC381, rfl, (show v383 = 0 ∨ v383 = 1 from by first | exact Or.inl rfl | exact Or.inr rfl | exact z_or (by omega)), (show CuT pq PV tq369 TO373 ip hx from e387), (show KnI pq PV pz368 tq369 rq370 TO373 TF374 TA375 RW378 RF379 from hki), (show RoI ka371 from hro), (show RmI rq370 RM377 from hrm), (show (0 + k384) + (5 * ndS 13 tq369 + 4 * ndS 13 rq370 + ndS 13 RM377) ≤ 5 * ndS 13 tq + 4 * ndS 13 rq + ndS 13 RM from by first | exact oz_83cb35c84f e391 | omega), (show (0 + n385) + (9804 * ndS 13 tq369 + 342 * ndS 13 rq370 + 36864 * ndS 13 RM377) ≤ 9804 * ndS 13 tq + 342 * ndS 13 rq + 36864 * ndS 13 RM from by first | exact oz_0878d13dda e392 | omega)⟩) d_Ker_serve_162
      · have nc352 : ((TF ip) 23).toInt = (0 : Int) := (i_eq (x := ((TF ip) 23)) (y := 0)).mp c352
        refine lv_iconst (v := (-1)) S.x S.b d_Ker_serve_154 (by decide) ?_
        refine lv_goto (tgt := 159) S.x S.b d_Ker_serve_155 (by decide) ?_
        have hw : pw D A s.heap _ _ [wd_Ker cs hk kr (fun _ => none) kf ka (gKe pq pz tq rq), fm 13 (fRw cs rq RR RM RW RF RA RC), fm 8 (fPp cs pq PV), fm 13 (fTx cs tq TR TO TF TA)] := ftx_back (pr := [wd_Ker cs hk kr (fun _ => none) kf ka (gKe pq pz tq rq), fm 13 (fRw cs rq RR RM RW RF RA RC), fm 8 (fPp cs pq PV)]) hw hip hcu.1 hto1
        have hw : pw D A s.heap _ _ [wd_Ker cs hk kr (fun _ => none) kf ka (gKe pq pz tq rq), fm 13 (fTx cs tq TR TO TF TA), fm 13 (fRw cs rq RR RM RW RF RA RC), fm 8 (fPp cs pq PV)] := hw.sub [0, 3, 1, 2] rfl rfl
        refine pg_calli (pr := []) (px_runV (As := [.ref hx, .int (-1)]) (rest := []) S (c_k_await_T l D cs hk kr pq kf PV pz tq rq ka TR TO TF TA RR RM RW RF RA RC (-1) ip hx (show (-1 : Int) = -1 ∨ (0 ≤ (-1 : Int) ∧ (-1 : Int) ≤ 12) from by omega) (show (TF ip 21).toInt = 1 from by first | exact g2 | omega) hki hro hrm hip hcu _ _) hT (pr := []) (pcs := [wd_Ker cs hk kr (fun _ => none) kf ka (gKe pq pz tq rq), fm 13 (fTx cs tq TR TO TF TA), fm 13 (fRw cs rq RR RM RW RF RA RC), fm 8 (fPp cs pq PV)]) hw (px_X.tot px_X.tt) (px_recv hT hw 0 0 rfl rfl rfl) m8_158 m8_155 m8_157 ms_6_2 m1_19 q_Ker_await ⟨Nat.le_of_ble_eq_true rfl, Nat.le_of_ble_eq_true rfl⟩ hl.1 rfl (Nat.le_of_ble_eq_true rfl) d_Ker_serve_159 ⟨show 0 + (5 * ndS 13 tq + 4 * ndS 13 rq + ndS 13 RM) ≤ (5 * ndS 13 tq + 4 * ndS 13 rq + ndS 13 RM) from (by first | exact oz_f06a029546 | omega), show 0 + (9804 * ndS 13 tq + 342 * ndS 13 rq + 36864 * ndS 13 RM) ≤ (9804 * ndS 13 tq + 342 * ndS 13 rq + 36864 * ndS 13 RM) from (by first | exact oz_71d01cab57 | omega)⟩) hw hA (fun v423 p422 k424 n425 H locs hp422 hw => ?_)
        dsimp only at hp422
        obtain ⟨pz408, tq409, rq410, ka411, TR412, TO413, TF414, TA415, RR416, RM417, RW418, RF419, RA420, RC421, rfl, e426, e427, e428, e429, e430, e431, e432⟩ := hp422
        have e426 := z_rng e426
        have e427 : CuT pq PV tq409 TO413 ip hx := e427
        obtain ⟨j433, hp433, hj433, hjq433, hto433, hf0433⟩ := e427.2
        have e428 : KnI pq PV pz408 tq409 rq410 TO413 TF414 TA415 RW418 RF419 := e428
        have hki := e428
        have e429 : RoI ka411 := e429
        have hro := e429
        have e430 : RmI rq410 RM417 := e430
        have hrm := e430
        have e431 : k424 + (5 * ndS 13 tq409 + 4 * ndS 13 rq410 + ndS 13 RM417) ≤ 5 * ndS 13 tq + 4 * ndS 13 rq + ndS 13 RM := e431
        have e432 : n425 + (9804 * ndS 13 tq409 + 342 * ndS 13 rq410 + 36864 * ndS 13 RM417) ≤ 9804 * ndS 13 tq + 342 * ndS 13 rq + 36864 * ndS 13 RM := e432
        have hw : pw D A s.heap H locs [wd_Ker cs hk kr (fun _ => none) kf ka411 (gKe pq pz408 tq409 rq410), fm 13 (fTx cs tq409 TR412 TO413 TF414 TA415), fm 13 (fRw cs rq410 RR416 RM417 RW418 RF419 RA420 RC421), fm 8 (fPp cs pq PV)] := hw
        have lv423 := Int32.le_toInt v423
        have uv423 := Int32.toInt_lt v423
        exact pg_iret (v := v423) S hr (z_nar (by omega)) hlk hAe hw (show (0 + k424) ≤ (5 * ndS 13 tq + 4 * ndS 13 rq + ndS 13 RM) from by first | exact oz_c18bd8c19e e431 | omega) (show (0 + n425) ≤ (9804 * ndS 13 tq + 342 * ndS 13 rq + 36864 * ndS 13 RM) from by first | exact oz_a5e7637f35 e432 | omega) (⟨pz408, tq409, rq410, ka411, TR412, TO413, TF414, TA415, RR416, RM417, RW418, RF419, RA420, RC421, rfl, (show v423 = 0 ∨ v423 = 1 from by first | exact Or.inl rfl | exact Or.inr rfl | exact z_or (by omega)), (show CuT pq PV tq409 TO413 ip hx from e427), (show KnI pq PV pz408 tq409 rq410 TO413 TF414 TA415 RW418 RF419 from hki), (show RoI ka411 from hro), (show RmI rq410 RM417 from hrm), (show (0 + k424) + (5 * ndS 13 tq409 + 4 * ndS 13 rq410 + ndS 13 RM417) ≤ 5 * ndS 13 tq + 4 * ndS 13 rq + ndS 13 RM from by first | exact oz_83cb35c84f e431 | omega), (show (0 + n425) + (9804 * ndS 13 tq409 + 342 * ndS 13 rq410 + 36864 * ndS 13 RM417) ≤ 9804 * ndS 13 tq + 342 * ndS 13 rq + 36864 * ndS 13 RM from by first | exact oz_0878d13dda e432 | omega)⟩) d_Ker_serve_162
    · simp only [List.mem_cons, List.not_mem_nil, or_false] at c95
      refine lv_aload_n S.x S.b d_Ker_serve_98 rfl (lv_at hl 2 rfl) ?_
      refine lv_aload_n S.x S.b d_Ker_serve_99 rfl (lv_at hl 3 rfl) ?_
      refine lv_aload_n S.x S.b d_Ker_serve_100 rfl (lv_at hl 3 rfl) ?_
      refine px_get S k_Txp hT hw 4 0 23 (v := .int ((TF ip) 23)) rfl rfl rfl (by decide) m6_161 d_Ker_serve_101 ?_
      have hw : pw D A s.heap _ _ [wd_Ker cs hk kr (fun _ => none) kf ka (gKe pq pz tq rq), fm 13 (fRw cs rq RR RM RW RF RA RC), fm 8 (fPp cs pq PV), fm 13 (fTx cs tq TR TO TF TA)] := ftx_back (pr := [wd_Ker cs hk kr (fun _ => none) kf ka (gKe pq pz tq rq), fm 13 (fRw cs rq RR RM RW RF RA RC), fm 8 (fPp cs pq PV)]) hw hip hcu.1 hto1
      have hw : pw D A s.heap _ _ [wd_Ker cs hk kr (fun _ => none) kf ka (gKe pq pz tq rq), fm 13 (fTx cs tq TR TO TF TA), fm 13 (fRw cs rq RR RM RW RF RA RC), fm 8 (fPp cs pq PV)] := hw.sub [0, 3, 1, 2] rfl rfl
      refine pg_callv (pr := []) (px_runV (As := [.ref hx, .int ((TF ip) 23)]) (rest := []) S (c_k_move_T l D cs hk kr pq kf PV pz tq rq ka TR TO TF TA RR RM RW RF RA RC ((TF ip) 23) ip hx (show (TF ip 21).toInt = 1 from by first | exact g2 | omega) hki hro hrm hip hcu _ _) hT (pr := []) (pcs := [wd_Ker cs hk kr (fun _ => none) kf ka (gKe pq pz tq rq), fm 13 (fTx cs tq TR TO TF TA), fm 13 (fRw cs rq RR RM RW RF RA RC), fm 8 (fPp cs pq PV)]) hw (px_X.tot px_X.tt) (px_recv hT hw 0 0 rfl rfl rfl) m8_83 m8_80 m8_82 ms_5_11 m1_19 q_Ker_move ⟨Nat.le_of_ble_eq_true rfl, Nat.le_of_ble_eq_true rfl⟩ hl.1 rfl (Nat.le_of_ble_eq_true rfl) d_Ker_serve_104 ⟨show 0 + (5 * ndS 13 tq + 4 * ndS 13 rq + ndS 13 RM) ≤ (5 * ndS 13 tq + 4 * ndS 13 rq + ndS 13 RM) from (by first | exact oz_f06a029546 | omega), show 0 + (9804 * ndS 13 tq + 342 * ndS 13 rq + 36864 * ndS 13 RM) ≤ (9804 * ndS 13 tq + 342 * ndS 13 rq + 36864 * ndS 13 RM) from (by first | exact oz_71d01cab57 | omega)⟩) hw hA (fun p462 k464 n465 H locs hp462 hw => ?_)
      dsimp only at hp462
      obtain ⟨pz448, tq449, rq450, ka451, TR452, TO453, TF454, TA455, RR456, RM457, RW458, RF459, RA460, RC461, rfl, e466, e467, e468, e469, e470, e471⟩ := hp462
      have e466 : CuT pq PV tq449 TO453 ip hx := e466
      obtain ⟨j472, hp472, hj472, hjq472, hto472, hf0472⟩ := e466.2
      have e467 : KnI pq PV pz448 tq449 rq450 TO453 TF454 TA455 RW458 RF459 := e467
      have hki := e467
      have e468 : RoI ka451 := e468
      have hro := e468
      have e469 : RmI rq450 RM457 := e469
      have hrm := e469
      have e470 : k464 + (5 * ndS 13 tq449 + 4 * ndS 13 rq450 + ndS 13 RM457) ≤ 5 * ndS 13 tq + 4 * ndS 13 rq + ndS 13 RM := e470
      have e471 : n465 + (9804 * ndS 13 tq449 + 342 * ndS 13 rq450 + 36864 * ndS 13 RM457) ≤ 9804 * ndS 13 tq + 342 * ndS 13 rq + 36864 * ndS 13 RM := e471
      have hw : pw D A s.heap H locs [wd_Ker cs hk kr (fun _ => none) kf ka451 (gKe pq pz448 tq449 rq450), fm 13 (fTx cs tq449 TR452 TO453 TF454 TA455), fm 13 (fRw cs rq450 RR456 RM457 RW458 RF459 RA460 RC461), fm 8 (fPp cs pq PV)] := hw
      refine lv_iconst (v := 1) S.x S.b d_Ker_serve_107 (by decide) ?_
      exact pg_iret (v := 1) S hr rfl hlk hAe hw (show (0 + k464) ≤ (5 * ndS 13 tq + 4 * ndS 13 rq + ndS 13 RM) from by first | exact oz_c18bd8c19e e470 | omega) (show (0 + n465) ≤ (9804 * ndS 13 tq + 342 * ndS 13 rq + 36864 * ndS 13 RM) from by first | exact oz_a5e7637f35 e471 | omega) (⟨pz448, tq449, rq450, ka451, TR452, TO453, TF454, TA455, RR456, RM457, RW458, RF459, RA460, RC461, rfl, (show (1 : Int32) = 0 ∨ (1 : Int32) = 1 from by first | exact Or.inl rfl | exact Or.inr rfl | exact z_or (by omega)), (show CuT pq PV tq449 TO453 ip hx from e466), (show KnI pq PV pz448 tq449 rq450 TO453 TF454 TA455 RW458 RF459 from hki), (show RoI ka451 from hro), (show RmI rq450 RM457 from hrm), (show (0 + k464) + (5 * ndS 13 tq449 + 4 * ndS 13 rq450 + ndS 13 RM457) ≤ 5 * ndS 13 tq + 4 * ndS 13 rq + ndS 13 RM from by first | exact oz_83cb35c84f e470 | omega), (show (0 + n465) + (9804 * ndS 13 tq449 + 342 * ndS 13 rq450 + 36864 * ndS 13 RM457) ≤ 9804 * ndS 13 tq + 342 * ndS 13 rq + 36864 * ndS 13 RM from by first | exact oz_0878d13dda e471 | omega)⟩) d_Ker_serve_108
    · simp only [List.mem_cons, List.not_mem_nil, or_false] at c95
      refine lv_aload_n S.x S.b d_Ker_serve_109 rfl (lv_at hl 3 rfl) ?_
      refine lv_iconst (v := 1) S.x S.b d_Ker_serve_110 (by decide) ?_
      refine lv_aload_n S.x S.b d_Ker_serve_111 rfl (lv_at hl 3 rfl) ?_
      refine px_get S k_Txp hT hw 4 0 23 (v := .int ((TF ip) 23)) rfl rfl rfl (by decide) m6_161 d_Ker_serve_112 ?_
      refine px_callv (pr := [wd_Ker cs hk kr (fun _ => none) kf ka (gKe pq pz tq rq), fm 13 (fRw cs rq RR RM RW RF RA RC), fm 8 (fPp cs pq PV), fo 13 (fTx cs tq TR TO TF TA) ip]) (px_runU (As := [.int 1, .int ((TF ip) 23)]) (rest := []) S (c_finish_Txp l D cs hx (TR ip) (fun _ _ => none) hp1 (TF ip) (TA ip) 1 ((TF ip) 23)  (show TxOk ((TF ip) 4) ((TF ip) 5) ((TF ip) 8) ((TF ip) 9) ((TF ip) 17) ((TF ip) 21) ((TA ip) 2) from ⟨(by first | exact lk | exact lk_eq lk (by omega) | exact lk_mk (by omega)), ⟨by omega, by omega⟩, ⟨by omega, by omega⟩, ⟨by omega, by omega⟩, by omega, ⟨by first | exact oz_1b364b1c5f g2 | omega, by first | exact oz_02032f9386 g2 | omega⟩, by omega, hrt⟩) _) hT (pr := [wd_Ker cs hk kr (fun _ => none) kf ka (gKe pq pz tq rq), fm 13 (fRw cs rq RR RM RW RF RA RC), fm 8 (fPp cs pq PV), fo 13 (fTx cs tq TR TO TF TA) ip]) (pcs := [wd_Txp cs hx (TR ip) (fun k => if k = 3 then (some hp1) else none) (TF ip) (TA ip) (fun _ _ => none)]) hw px_X.tt (C := "HomeSystem$TextProcess") (x := ⟨"HomeSystem$AnyProcess", "finish", "(II)V"⟩) (px_recv hT hw 4 0 rfl rfl rfl) m8_89 m8_84 m8_86 m8_85 m8_88 m1_33 rfl q_HomeSystem_AnyProcess_finish ⟨Nat.le_of_ble_eq_true rfl, Nat.le_of_ble_eq_true rfl⟩ hl.1 rfl (Nat.le_of_ble_eq_true rfl) d_Ker_serve_115 ⟨show 0 + 0 ≤ (5 * ndS 13 tq + 4 * ndS 13 rq + ndS 13 RM) from (by first | exact oz_9c199dfd7f | omega), show 0 + 0 ≤ (9804 * ndS 13 tq + 342 * ndS 13 rq + 36864 * ndS 13 RM) from (by first | exact oz_54615505fb | omega)⟩) hw hA (fun p475 H locs hp475 hw => ?_)
      obtain ⟨f473, a474, rfl, h483, e477, e478, e479, e480, e481, e482⟩ := hp475
      obtain ⟨lk, ⟨i2, i3⟩, ⟨i4, i5⟩, ⟨i6, i7⟩, i8, ⟨i9, i11⟩, i10, hrt⟩ := h483
      have e477 : (f473 9).toInt = ((TF ip) 9).toInt := e477
      have e478 : (f473 17).toInt = ((TF ip) 17).toInt := e478
      have e479 : (f473 21).toInt = 0 := e479
      have e480 : (f473 15).toInt = ((TF ip) 15).toInt := e480
      have e481 : (f473 20).toInt = ((TF ip) 20).toInt := e481
      have e482 : R_finish_Txp (1 : Int32) ((TF ip) 23) (TF ip) (TA ip) f473 a474 := e482
      have hw : pw D A s.heap H locs [wd_Ker cs hk kr (fun _ => none) kf ka (gKe pq pz tq rq), fm 13 (fRw cs rq RR RM RW RF RA RC), fm 8 (fPp cs pq PV), fo 13 (fTx cs tq TR TO TF TA) ip, wd_Txp cs hx (TR ip) (fun k => if k = 3 then (some hp1) else none) f473 a474 (fun _ _ => none)] := hw
      refine lv_iconst (v := 1) S.x S.b d_Ker_serve_118 (by decide) ?_
      have hw := ftx_in0 (pr := [wd_Ker cs hk kr (fun _ => none) kf ka (gKe pq pz tq rq), fm 13 (fRw cs rq RR RM RW RF RA RC), fm 8 (fPp cs pq PV)]) hw hip hcu.1 hto1
      obtain ⟨TF484, hu_TF484⟩ : ∃ y : Nat → Nat → Int32, y = va_up TF ip f473 := ⟨_, rfl⟩
      obtain ⟨TA485, hu_TA485⟩ : ∃ y : Nat → Nat → Nat → Int32, y = va_up TA ip a474 := ⟨_, rfl⟩
      have hw : pw D A s.heap _ _ [wd_Ker cs hk kr (fun _ => none) kf ka (gKe pq pz tq rq), fm 13 (fRw cs rq RR RM RW RF RA RC), fm 8 (fPp cs pq PV), fm 13 (fTx cs tq TR TO TF484 TA485)] := (by rw [hu_TF484, hu_TA485]; exact hw)
      have hki : KnI pq PV pz tq rq TO TF484 TA485 RW RF := (by rw [hu_TF484, hu_TA485]; exact hki.upT (show TxN ip f473 a474 from ⟨(show TxOk (f473 4) (f473 5) (f473 8) (f473 9) (f473 17) (f473 21) (a474 2) from ⟨(by first | exact lk | exact lk_eq lk (by omega) | exact lk_mk (by omega)), ⟨by omega, by omega⟩, ⟨by omega, by omega⟩, ⟨by omega, by omega⟩, by omega, ⟨by omega, by omega⟩, by omega, hrt⟩), (show ((f473 15).toInt) = ((ip : Nat) : Int) from by omega), (show 0 ≤ (f473 20).toInt ∧ (f473 20).toInt ≤ 3 ∧ ((f473 20).toInt = 0 ∨ 3 * ((ip : Nat) : Int) + (f473 20).toInt ≤ 12) from by omega)⟩))
      have hz21_TF484 : (TF484 ip 21).toInt = (f473 21).toInt := (by rw [hu_TF484, va_up_s]; try rfl)
      have hw : pw D A s.heap _ _ [wd_Ker cs hk kr (fun _ => none) kf ka (gKe pq pz tq rq), fm 13 (fTx cs tq TR TO TF484 TA485), fm 13 (fRw cs rq RR RM RW RF RA RC), fm 8 (fPp cs pq PV)] := hw.sub [0, 3, 1, 2] rfl rfl
      exact pg_iret (v := 1) S hr rfl hlk hAe hw (show 0 ≤ (5 * ndS 13 tq + 4 * ndS 13 rq + ndS 13 RM) from by first | exact oz_86e49526c7 | omega) (show 0 ≤ (9804 * ndS 13 tq + 342 * ndS 13 rq + 36864 * ndS 13 RM) from by first | exact oz_fc3b58e969 | omega) (⟨pz, tq, rq, ka, TR, TO, TF484, TA485, RR, RM, RW, RF, RA, RC, rfl, (show (1 : Int32) = 0 ∨ (1 : Int32) = 1 from by first | exact Or.inl rfl | exact Or.inr rfl | exact z_or (by omega)), (show CuT pq PV tq TO ip hx from hcu), (show KnI pq PV pz tq rq TO TF484 TA485 RW RF from hki), (show RoI ka from hro), (show RmI rq RM from hrm), (show 0 + (5 * ndS 13 tq + 4 * ndS 13 rq + ndS 13 RM) ≤ 5 * ndS 13 tq + 4 * ndS 13 rq + ndS 13 RM from by first | exact oz_9d19b050ad | omega), (show 0 + (9804 * ndS 13 tq + 342 * ndS 13 rq + 36864 * ndS 13 RM) ≤ 9804 * ndS 13 tq + 342 * ndS 13 rq + 36864 * ndS 13 RM from by first | exact oz_b5592d0ae7 | omega)⟩) d_Ker_serve_119
set_option maxHeartbeats 4000000 in
set_option maxRecDepth 100000 in
theorem c_k_serve_R (l : Launch) (D : va_G) (cs : Nat → ClassId) (hk : Nat) (kr : Nat → Nat) (pq : Nat → Option Nat) (kf : Nat → Int32) (PV : Nat → Pvs) (pz : Nat → Option Nat) (tq : Nat → Option Nat) (rq : Nat → Option Nat) (ka : Nat → Nat → Int32) (TR : Nat → Nat → Nat) (TO : Nat → Option Nat) (TF : Nat → Nat → Int32) (TA : Nat → Nat → Nat → Int32) (RR : Nat → Nat → Nat) (RM : Nat → Option Nat) (RW : Nat → Option Nat) (RF : Nat → Nat → Int32) (RA : Nat → Nat → Nat → Int32) (RC : Nat → Nat → Int32) (ip hx : Nat) (g0 : 0 ≤ (kf 8).toInt) (g1 : (kf 8).toInt ≤ 100) (g2 : (RF ip 14).toInt = 1) (hki : KnI pq PV pz tq rq TO TF TA RW RF) (hro : RoI ka) (hrm : RmI rq RM) (hip : ip < 13) (hcu : CuR pq PV rq RW ip hx) : MgI l y_Ker_serve b_Ker_serve 4 (.boolean) D cs 8 330 ((5 * ndS 13 tq + 4 * ndS 13 rq + ndS 13 RM)) ((9804 * ndS 13 tq + 342 * ndS 13 rq + 36864 * ndS 13 RM)) [.ref hk, .ref hx] [wd_Ker cs hk kr (fun _ => none) kf ka (gKe pq pz tq rq), fm 13 (fTx cs tq TR TO TF TA), fm 13 (fRw cs rq RR RM RW RF RA RC), fm 8 (fPp cs pq PV)] (fun _ => True) (fun v ps => ∃ (pz' : Nat → Option Nat) (tq' : Nat → Option Nat) (rq' : Nat → Option Nat) (ka' : Nat → Nat → Int32) (TR' : Nat → Nat → Nat) (TO' : Nat → Option Nat) (TF' : Nat → Nat → Int32) (TA' : Nat → Nat → Nat → Int32) (RR' : Nat → Nat → Nat) (RM' : Nat → Option Nat) (RW' : Nat → Option Nat) (RF' : Nat → Nat → Int32) (RA' : Nat → Nat → Nat → Int32) (RC' : Nat → Nat → Int32), (ps.1 = [wd_Ker cs hk kr (fun _ => none) kf ka' (gKe pq pz' tq' rq'), fm 13 (fTx cs tq' TR' TO' TF' TA'), fm 13 (fRw cs rq' RR' RM' RW' RF' RA' RC'), fm 8 (fPp cs pq PV)]) ∧ (v = 0 ∨ v = 1) ∧ (CuR pq PV rq' RW' ip hx) ∧ (KnI pq PV pz' tq' rq' TO' TF' TA' RW' RF') ∧ (RoI ka') ∧ (RmI rq' RM') ∧ (ps.2.1 + (5 * ndS 13 tq' + 4 * ndS 13 rq' + ndS 13 RM') ≤ 5 * ndS 13 tq + 4 * ndS 13 rq + ndS 13 RM) ∧ (ps.2.2 + (9804 * ndS 13 tq' + 342 * ndS 13 rq' + 36864 * ndS 13 RM') ≤ 9804 * ndS 13 tq + 342 * ndS 13 rq + 36864 * ndS 13 RM)) := by
  refine pg_enter (by decide) (Nat.le_of_ble_eq_true rfl) ?_
  intro p e s m below meth c A ls hAe S hr hlk hnm hA hT hX hw hl
  have hl : lv_has ls 4 [(0, .ref hk), (1, .ref hx)] := hl
  have cstm1 : ((-1) : Int32).toInt = (-1) := rfl
  have cst0 : (0 : Int32).toInt = 0 := rfl
  have cst1 : (1 : Int32).toInt = 1 := rfl
  have cst2 : (2 : Int32).toInt = 2 := rfl
  refine lv_aload_n S.x S.b d_Ker_serve_0 rfl (lv_at hl 1 rfl) ?_
  obtain ⟨j1, hp1, hj1, hjq1, hto1⟩ := hcu.2
  have hw : pw D A s.heap _ _ [wd_Ker cs hk kr (fun _ => none) kf ka (gKe pq pz tq rq), fm 13 (fTx cs tq TR TO TF TA), fm 8 (fPp cs pq PV), fm 13 (fRw cs rq RR RM RW RF RA RC)] := hw.sub [0, 1, 3, 2] rfl rfl
  have hw : pw D A s.heap _ _ [wd_Ker cs hk kr (fun _ => none) kf ka (gKe pq pz tq rq), fm 13 (fTx cs tq TR TO TF TA), fm 8 (fPp cs pq PV), fo 13 (fRw cs rq RR RM RW RF RA RC) ip, wd_Raw cs hx (RR ip) (fun k => if k = 2 then (RM ip) else if k = 4 then (some ((PV j1).r 1)) else none) (RF ip) (RA ip) (fun _ _ => none), nA cs (RM ip) 36864 (RC ip)] := frw_out (pr := [wd_Ker cs hk kr (fun _ => none) kf ka (gKe pq pz tq rq), fm 13 (fTx cs tq TR TO TF TA), fm 8 (fPp cs pq PV)]) hw hip hcu.1 hto1
  have hng2 := ndS_ge 13 RM ip hip
  have hrn2 : RwN ip (RF ip) := hki.2.2.1 ip hip _ hcu.1
  have hro2 := hrn2.1
  unfold RwO at hro2
  have hid2 := hrn2.2.1
  have hch2 := hrn2.2.2
  unfold KcI at hch2
  refine px_get S k_Raw hT hw 4 0 8 (v := .int ((RF ip) 8)) rfl rfl rfl (by decide) m6_133 d_Ker_serve_1 ?_
  refine lv_istore_n (lv' := [(2, .int ((RF ip) 8)), (0, .ref hk), (1, .ref hx)]) S.x S.b d_Ker_serve_4 rfl hl (by decide) rfl (fun ls hl => ?_)
  refine lv_aload_n S.x S.b d_Ker_serve_5 rfl (lv_at hl 1 rfl) ?_
  refine lv_aload_n S.x S.b d_Ker_serve_6 rfl (lv_at hl 2 rfl) ?_
  have hw : pw D A s.heap _ _ [wd_Ker cs hk kr (fun _ => none) kf ka (gKe pq pz tq rq), fm 13 (fTx cs tq TR TO TF TA), fm 8 (fPp cs pq PV), fm 13 (fRw cs rq RR RM RW RF RA RC)] := frw_back (pr := [wd_Ker cs hk kr (fun _ => none) kf ka (gKe pq pz tq rq), fm 13 (fTx cs tq TR TO TF TA), fm 8 (fPp cs pq PV)]) hw hip hcu.1 hto1
  have hw : pw D A s.heap _ _ [wd_Ker cs hk kr (fun _ => none) kf ka (gKe pq pz tq rq), fm 13 (fTx cs tq TR TO TF TA), fm 13 (fRw cs rq RR RM RW RF RA RC), fm 8 (fPp cs pq PV)] := hw.sub [0, 1, 3, 2] rfl rfl
  refine px_calli (pr := []) (px_runV (As := [.ref hx]) (rest := []) S (c_k_partner_R l D cs hk kr pq pz tq rq kf ka TR TO TF TA RR RM RW RF RA RC PV  ip hx hki hip hcu _) hT (pr := []) (pcs := [wd_Ker cs hk kr (fun _ => none) kf ka (gKe pq pz tq rq), fm 13 (fTx cs tq TR TO TF TA), fm 13 (fRw cs rq RR RM RW RF RA RC), fm 8 (fPp cs pq PV)]) hw px_X.tt (px_recv hT hw 0 0 rfl rfl rfl) m8_60 m8_57 m8_59 ms_5_9 m1_19 q_Ker_partner ⟨Nat.le_of_ble_eq_true rfl, Nat.le_of_ble_eq_true rfl⟩ hl.1 rfl (Nat.le_of_ble_eq_true rfl) d_Ker_serve_7 ⟨show 0 + 0 ≤ (5 * ndS 13 tq + 4 * ndS 13 rq + ndS 13 RM) from (by first | exact oz_9c199dfd7f | omega), show 0 + 0 ≤ (9804 * ndS 13 tq + 342 * ndS 13 rq + 36864 * ndS 13 RM) from (by first | exact oz_54615505fb | omega)⟩) hw hA (fun v4 p3 H locs hp3 hw => ?_)
  obtain ⟨rfl, e5, e6⟩ := hp3
  have e5 : -1 ≤ v4.toInt := e5
  have e6 : v4.toInt ≤ 12 := e6
  have hw : pw D A s.heap H locs [wd_Ker cs hk kr (fun _ => none) kf ka (gKe pq pz tq rq), fm 13 (fTx cs tq TR TO TF TA), fm 13 (fRw cs rq RR RM RW RF RA RC), fm 8 (fPp cs pq PV)] := hw
  have lv4 := Int32.le_toInt v4
  have uv4 := Int32.toInt_lt v4
  refine lv_istore_n (lv' := [(3, .int v4), (2, .int ((RF ip) 8)), (0, .ref hk), (1, .ref hx)]) S.x S.b d_Ker_serve_10 rfl hl (by decide) rfl (fun ls hl => ?_)
  refine lv_aload_n S.x S.b d_Ker_serve_11 rfl (lv_at hl 3 rfl) ?_
  have hw : pw D A s.heap _ _ [wd_Ker cs hk kr (fun _ => none) kf ka (gKe pq pz tq rq), fm 13 (fTx cs tq TR TO TF TA), fm 8 (fPp cs pq PV), fm 13 (fRw cs rq RR RM RW RF RA RC)] := hw.sub [0, 1, 3, 2] rfl rfl
  have hw : pw D A s.heap _ _ [wd_Ker cs hk kr (fun _ => none) kf ka (gKe pq pz tq rq), fm 13 (fTx cs tq TR TO TF TA), fm 8 (fPp cs pq PV), fo 13 (fRw cs rq RR RM RW RF RA RC) ip, wd_Raw cs hx (RR ip) (fun k => if k = 2 then (RM ip) else if k = 4 then (some ((PV j1).r 1)) else none) (RF ip) (RA ip) (fun _ _ => none), nA cs (RM ip) 36864 (RC ip)] := frw_out (pr := [wd_Ker cs hk kr (fun _ => none) kf ka (gKe pq pz tq rq), fm 13 (fTx cs tq TR TO TF TA), fm 8 (fPp cs pq PV)]) hw hip hcu.1 hto1
  have hng7 := ndS_ge 13 RM ip hip
  have hrn7 : RwN ip (RF ip) := hki.2.2.1 ip hip _ hcu.1
  have hro7 := hrn7.1
  unfold RwO at hro7
  have hid7 := hrn7.2.1
  have hch7 := hrn7.2.2
  unfold KcI at hch7
  refine px_get S k_Raw hT hw 4 0 15 (v := .int ((RF ip) 15)) rfl rfl rfl (by decide) m6_158 d_Ker_serve_12 ?_
  refine px_tableK S (dt := 163) [(64, [1]), (120, [2]), (163, [3, 4]), (79, [5]), (145, [6]), (98, [7, 8]), (109, [9])] d_Ker_serve_15 (by decide +kernel) (by decide) (by decide +kernel) ?_ ?_
  ·
    refine lv_aload_n S.x S.b d_Ker_serve_163 rfl (lv_at hl 2 rfl) ?_
    refine lv_aload_n S.x S.b d_Ker_serve_164 rfl (lv_at hl 3 rfl) ?_
    refine lv_iload_n S.x S.b d_Ker_serve_165 rfl (lv_at hl 0 rfl) ?_
    refine lv_aload_n S.x S.b d_Ker_serve_166 rfl (lv_at hl 3 rfl) ?_
    refine px_get S k_Raw hT hw 4 0 16 (v := .int ((RF ip) 16)) rfl rfl rfl (by decide) m6_161 d_Ker_serve_167 ?_
    refine lv_if_ne (tgt := 181) S.x S.b d_Ker_serve_170 (by decide) (fun c9 => ?_) (fun c9 => ?_)
    · have nc9 : ¬ ((RF ip) 16).toInt = (0 : Int) := mt (i_eq (x := ((RF ip) 16)) (y := 0)).mpr c9
      refine lv_iconst (v := 2) S.x S.b d_Ker_serve_181 (by decide) ?_
      refine lv_iload_n S.x S.b d_Ker_serve_182 rfl (lv_at hl 0 rfl) ?_
      refine lv_imul S.x S.b d_Ker_serve_183 ?_
      refine lv_topi (fun z11 ez11 => ?_)
      have lz11 := Int32.le_toInt z11
      have uz11 := Int32.toInt_lt z11
      have tz11 : -2147483648 ≤ 2 * v4.toInt → 2 * v4.toInt < 2147483648 → z11.toInt = 2 * v4.toInt := by rw [ez11]; exact i_mulc 2 v4 (by decide)
      try replace tz11 : z11.toInt = 2 * v4.toInt := by omega
      have hw : pw D A s.heap _ _ [wd_Ker cs hk kr (fun _ => none) kf ka (gKe pq pz tq rq), fm 13 (fTx cs tq TR TO TF TA), fm 8 (fPp cs pq PV), fm 13 (fRw cs rq RR RM RW RF RA RC)] := frw_back (pr := [wd_Ker cs hk kr (fun _ => none) kf ka (gKe pq pz tq rq), fm 13 (fTx cs tq TR TO TF TA), fm 8 (fPp cs pq PV)]) hw hip hcu.1 hto1
      have hw : pw D A s.heap _ _ [wd_Ker cs hk kr (fun _ => none) kf ka (gKe pq pz tq rq), fm 13 (fTx cs tq TR TO TF TA), fm 13 (fRw cs rq RR RM RW RF RA RC), fm 8 (fPp cs pq PV)] := hw.sub [0, 1, 3, 2] rfl rfl
      refine pg_calli (pr := []) (px_runV (As := [.ref hx, .int v4, .int z11]) (rest := []) S (c_k_receive_R l D cs hk kr pq kf PV pz tq rq ka TR TO TF TA RR RM RW RF RA RC v4 z11 ip hx (show v4.toInt = -1 ∨ (0 ≤ v4.toInt ∧ v4.toInt ≤ 12 ∧ 0 ≤ z11.toInt ∧ z11.toInt ≤ 25) from by omega) (show (RF ip 14).toInt = 1 from by first | exact g2 | omega) hki hro hrm hip hcu _ _) hT (pr := []) (pcs := [wd_Ker cs hk kr (fun _ => none) kf ka (gKe pq pz tq rq), fm 13 (fTx cs tq TR TO TF TA), fm 13 (fRw cs rq RR RM RW RF RA RC), fm 8 (fPp cs pq PV)]) hw (px_X.tot px_X.tt) (px_recv hT hw 0 0 rfl rfl rfl) m8_162 m8_159 m8_161 ms_6_3 m1_19 q_Ker_receive ⟨Nat.le_of_ble_eq_true rfl, Nat.le_of_ble_eq_true rfl⟩ hl.1 rfl (Nat.le_of_ble_eq_true rfl) d_Ker_serve_184 ⟨show 0 + (5 * ndS 13 tq + 4 * ndS 13 rq + ndS 13 RM) ≤ (5 * ndS 13 tq + 4 * ndS 13 rq + ndS 13 RM) from (by first | exact oz_f06a029546 | omega), show 0 + (9804 * ndS 13 tq + 342 * ndS 13 rq + 36864 * ndS 13 RM) ≤ (9804 * ndS 13 tq + 342 * ndS 13 rq + 36864 * ndS 13 RM) from (by first | exact oz_71d01cab57 | omega)⟩) hw hA (fun v41 p40 k42 n43 H locs hp40 hw => ?_)
      dsimp only at hp40
      obtain ⟨pz26, tq27, rq28, ka29, TR30, TO31, TF32, TA33, RR34, RM35, RW36, RF37, RA38, RC39, rfl, e44, e45, e46, e47, e48, e49, e50⟩ := hp40
      have e44 := z_rng e44
      have e45 : CuR pq PV rq28 RW36 ip hx := e45
      obtain ⟨j51, hp51, hj51, hjq51, hto51⟩ := e45.2
      have e46 : KnI pq PV pz26 tq27 rq28 TO31 TF32 TA33 RW36 RF37 := e46
      have hki := e46
      have e47 : RoI ka29 := e47
      have hro := e47
      have e48 : RmI rq28 RM35 := e48
      have hrm := e48
      have e49 : k42 + (5 * ndS 13 tq27 + 4 * ndS 13 rq28 + ndS 13 RM35) ≤ 5 * ndS 13 tq + 4 * ndS 13 rq + ndS 13 RM := e49
      have e50 : n43 + (9804 * ndS 13 tq27 + 342 * ndS 13 rq28 + 36864 * ndS 13 RM35) ≤ 9804 * ndS 13 tq + 342 * ndS 13 rq + 36864 * ndS 13 RM := e50
      have hw : pw D A s.heap H locs [wd_Ker cs hk kr (fun _ => none) kf ka29 (gKe pq pz26 tq27 rq28), fm 13 (fTx cs tq27 TR30 TO31 TF32 TA33), fm 13 (fRw cs rq28 RR34 RM35 RW36 RF37 RA38 RC39), fm 8 (fPp cs pq PV)] := hw
      have lv41 := Int32.le_toInt v41
      have uv41 := Int32.toInt_lt v41
      exact pg_iret (v := v41) S hr (z_nar (by omega)) hlk hAe hw (show (0 + k42) ≤ (5 * ndS 13 tq + 4 * ndS 13 rq + ndS 13 RM) from by first | exact oz_c18bd8c19e e49 | omega) (show (0 + n43) ≤ (9804 * ndS 13 tq + 342 * ndS 13 rq + 36864 * ndS 13 RM) from by first | exact oz_a5e7637f35 e50 | omega) (⟨pz26, tq27, rq28, ka29, TR30, TO31, TF32, TA33, RR34, RM35, RW36, RF37, RA38, RC39, rfl, (show v41 = 0 ∨ v41 = 1 from by first | exact Or.inl rfl | exact Or.inr rfl | exact z_or (by omega)), (show CuR pq PV rq28 RW36 ip hx from e45), (show KnI pq PV pz26 tq27 rq28 TO31 TF32 TA33 RW36 RF37 from hki), (show RoI ka29 from hro), (show RmI rq28 RM35 from hrm), (show (0 + k42) + (5 * ndS 13 tq27 + 4 * ndS 13 rq28 + ndS 13 RM35) ≤ 5 * ndS 13 tq + 4 * ndS 13 rq + ndS 13 RM from by first | exact oz_83cb35c84f e49 | omega), (show (0 + n43) + (9804 * ndS 13 tq27 + 342 * ndS 13 rq28 + 36864 * ndS 13 RM35) ≤ 9804 * ndS 13 tq + 342 * ndS 13 rq + 36864 * ndS 13 RM from by first | exact oz_0878d13dda e50 | omega)⟩) d_Ker_serve_187
    · have nc9 : ((RF ip) 16).toInt = (0 : Int) := (i_eq (x := ((RF ip) 16)) (y := 0)).mp c9
      refine lv_iconst (v := 2) S.x S.b d_Ker_serve_173 (by decide) ?_
      refine lv_iload_n S.x S.b d_Ker_serve_174 rfl (lv_at hl 1 rfl) ?_
      refine lv_imul S.x S.b d_Ker_serve_175 ?_
      have lr52 := Int32.le_toInt ((RF ip) 8)
      have ur52 := Int32.toInt_lt ((RF ip) 8)
      refine lv_topi (fun z53 ez53 => ?_)
      have lz53 := Int32.le_toInt z53
      have uz53 := Int32.toInt_lt z53
      have tz53 : -2147483648 ≤ 2 * ((RF ip) 8).toInt → 2 * ((RF ip) 8).toInt < 2147483648 → z53.toInt = 2 * ((RF ip) 8).toInt := by rw [ez53]; exact i_mulc 2 ((RF ip) 8) (by decide)
      try replace tz53 : z53.toInt = 2 * ((RF ip) 8).toInt := by omega
      refine lv_iconst (v := 1) S.x S.b d_Ker_serve_176 (by decide) ?_
      refine lv_iadd S.x S.b d_Ker_serve_177 ?_
      refine lv_topi (fun z54 ez54 => ?_)
      have tz54 : z54.toInt = (z53.toInt + (1 : Int) + 2147483648) % 4294967296 - 2147483648 := by rw [ez54]; exact i_add z53 1
      have lz54 := Int32.le_toInt z54
      have uz54 := Int32.toInt_lt z54
      try replace tz54 : z54.toInt = z53.toInt + (1 : Int) := by omega
      refine lv_goto (tgt := 184) S.x S.b d_Ker_serve_178 (by decide) ?_
      have hw : pw D A s.heap _ _ [wd_Ker cs hk kr (fun _ => none) kf ka (gKe pq pz tq rq), fm 13 (fTx cs tq TR TO TF TA), fm 8 (fPp cs pq PV), fm 13 (fRw cs rq RR RM RW RF RA RC)] := frw_back (pr := [wd_Ker cs hk kr (fun _ => none) kf ka (gKe pq pz tq rq), fm 13 (fTx cs tq TR TO TF TA), fm 8 (fPp cs pq PV)]) hw hip hcu.1 hto1
      have hw : pw D A s.heap _ _ [wd_Ker cs hk kr (fun _ => none) kf ka (gKe pq pz tq rq), fm 13 (fTx cs tq TR TO TF TA), fm 13 (fRw cs rq RR RM RW RF RA RC), fm 8 (fPp cs pq PV)] := hw.sub [0, 1, 3, 2] rfl rfl
      refine pg_calli (pr := []) (px_runV (As := [.ref hx, .int v4, .int z54]) (rest := []) S (c_k_receive_R l D cs hk kr pq kf PV pz tq rq ka TR TO TF TA RR RM RW RF RA RC v4 z54 ip hx (show v4.toInt = -1 ∨ (0 ≤ v4.toInt ∧ v4.toInt ≤ 12 ∧ 0 ≤ z54.toInt ∧ z54.toInt ≤ 25) from by omega) (show (RF ip 14).toInt = 1 from by first | exact g2 | omega) hki hro hrm hip hcu _ _) hT (pr := []) (pcs := [wd_Ker cs hk kr (fun _ => none) kf ka (gKe pq pz tq rq), fm 13 (fTx cs tq TR TO TF TA), fm 13 (fRw cs rq RR RM RW RF RA RC), fm 8 (fPp cs pq PV)]) hw (px_X.tot px_X.tt) (px_recv hT hw 0 0 rfl rfl rfl) m8_162 m8_159 m8_161 ms_6_3 m1_19 q_Ker_receive ⟨Nat.le_of_ble_eq_true rfl, Nat.le_of_ble_eq_true rfl⟩ hl.1 rfl (Nat.le_of_ble_eq_true rfl) d_Ker_serve_184 ⟨show 0 + (5 * ndS 13 tq + 4 * ndS 13 rq + ndS 13 RM) ≤ (5 * ndS 13 tq + 4 * ndS 13 rq + ndS 13 RM) from (by first | exact oz_f06a029546 | omega), show 0 + (9804 * ndS 13 tq + 342 * ndS 13 rq + 36864 * ndS 13 RM) ≤ (9804 * ndS 13 tq + 342 * ndS 13 rq + 36864 * ndS 13 RM) from (by first | exact oz_71d01cab57 | omega)⟩) hw hA (fun v84 p83 k85 n86 H locs hp83 hw => ?_)
      dsimp only at hp83
      obtain ⟨pz69, tq70, rq71, ka72, TR73, TO74, TF75, TA76, RR77, RM78, RW79, RF80, RA81, RC82, rfl, e87, e88, e89, e90, e91, e92, e93⟩ := hp83
      have e87 := z_rng e87
      have e88 : CuR pq PV rq71 RW79 ip hx := e88
      obtain ⟨j94, hp94, hj94, hjq94, hto94⟩ := e88.2
      have e89 : KnI pq PV pz69 tq70 rq71 TO74 TF75 TA76 RW79 RF80 := e89
      have hki := e89
      have e90 : RoI ka72 := e90
      have hro := e90
      have e91 : RmI rq71 RM78 := e91
      have hrm := e91
      have e92 : k85 + (5 * ndS 13 tq70 + 4 * ndS 13 rq71 + ndS 13 RM78) ≤ 5 * ndS 13 tq + 4 * ndS 13 rq + ndS 13 RM := e92
      have e93 : n86 + (9804 * ndS 13 tq70 + 342 * ndS 13 rq71 + 36864 * ndS 13 RM78) ≤ 9804 * ndS 13 tq + 342 * ndS 13 rq + 36864 * ndS 13 RM := e93
      have hw : pw D A s.heap H locs [wd_Ker cs hk kr (fun _ => none) kf ka72 (gKe pq pz69 tq70 rq71), fm 13 (fTx cs tq70 TR73 TO74 TF75 TA76), fm 13 (fRw cs rq71 RR77 RM78 RW79 RF80 RA81 RC82), fm 8 (fPp cs pq PV)] := hw
      have lv84 := Int32.le_toInt v84
      have uv84 := Int32.toInt_lt v84
      exact pg_iret (v := v84) S hr (z_nar (by omega)) hlk hAe hw (show (0 + k85) ≤ (5 * ndS 13 tq + 4 * ndS 13 rq + ndS 13 RM) from by first | exact oz_c18bd8c19e e92 | omega) (show (0 + n86) ≤ (9804 * ndS 13 tq + 342 * ndS 13 rq + 36864 * ndS 13 RM) from by first | exact oz_a5e7637f35 e93 | omega) (⟨pz69, tq70, rq71, ka72, TR73, TO74, TF75, TA76, RR77, RM78, RW79, RF80, RA81, RC82, rfl, (show v84 = 0 ∨ v84 = 1 from by first | exact Or.inl rfl | exact Or.inr rfl | exact z_or (by omega)), (show CuR pq PV rq71 RW79 ip hx from e88), (show KnI pq PV pz69 tq70 rq71 TO74 TF75 TA76 RW79 RF80 from hki), (show RoI ka72 from hro), (show RmI rq71 RM78 from hrm), (show (0 + k85) + (5 * ndS 13 tq70 + 4 * ndS 13 rq71 + ndS 13 RM78) ≤ 5 * ndS 13 tq + 4 * ndS 13 rq + ndS 13 RM from by first | exact oz_83cb35c84f e92 | omega), (show (0 + n86) + (9804 * ndS 13 tq70 + 342 * ndS 13 rq71 + 36864 * ndS 13 RM78) ≤ 9804 * ndS 13 tq + 342 * ndS 13 rq + 36864 * ndS 13 RM from by first | exact oz_0878d13dda e93 | omega)⟩) d_Ker_serve_187
  · refine List.forall_mem_cons.mpr ⟨fun c95 => ?_, List.forall_mem_cons.mpr ⟨fun c95 => ?_, List.forall_mem_cons.mpr ⟨fun c95 => ?_, List.forall_mem_cons.mpr ⟨fun c95 => ?_, List.forall_mem_cons.mpr ⟨fun c95 => ?_, List.forall_mem_cons.mpr ⟨fun c95 => ?_, List.forall_mem_cons.mpr ⟨fun c95 => ?_, fun _ h => absurd h List.not_mem_nil⟩⟩⟩⟩⟩⟩⟩
    · simp only [List.mem_cons, List.not_mem_nil, or_false] at c95
      refine lv_aload_n S.x S.b d_Ker_serve_64 rfl (lv_at hl 3 rfl) ?_
      refine lv_aload_n S.x S.b d_Ker_serve_65 rfl (lv_at hl 3 rfl) ?_
      refine px_get S k_Raw hT hw 4 0 16 (v := .int ((RF ip) 16)) rfl rfl rfl (by decide) m6_161 d_Ker_serve_66 ?_
      have hw : pw D A s.heap _ _ [wd_Ker cs hk kr (fun _ => none) kf ka (gKe pq pz tq rq), fm 13 (fTx cs tq TR TO TF TA), fm 8 (fPp cs pq PV), fo 13 (fRw cs rq RR RM RW RF RA RC) ip, nA cs (RM ip) 36864 (RC ip), wd_Raw cs hx (RR ip) (fun k => if k = 2 then (RM ip) else if k = 4 then (some ((PV j1).r 1)) else none) (RF ip) (RA ip) (fun _ _ => none)] := hw.sub [0, 1, 2, 3, 5, 4] rfl rfl
      refine px_callv (pr := [wd_Ker cs hk kr (fun _ => none) kf ka (gKe pq pz tq rq), fm 13 (fTx cs tq TR TO TF TA), fm 8 (fPp cs pq PV), fo 13 (fRw cs rq RR RM RW RF RA RC) ip, nA cs (RM ip) 36864 (RC ip)]) (px_runU (As := [.int ((RF ip) 16)]) (rest := []) S (c_write_Raw l D cs hx (RR ip) (fun _ _ => none) (RM ip) (some ((PV j1).r 1)) (RF ip) (RA ip) ((RF ip) 16)  (show 0 ≤ ((RF ip) 10).toInt from by omega) (show ((RF ip) 10).toInt ≤ 1000000 from by omega) _) hT (pr := [wd_Ker cs hk kr (fun _ => none) kf ka (gKe pq pz tq rq), fm 13 (fTx cs tq TR TO TF TA), fm 8 (fPp cs pq PV), fo 13 (fRw cs rq RR RM RW RF RA RC) ip, nA cs (RM ip) 36864 (RC ip)]) (pcs := [wd_Raw cs hx (RR ip) (fun k => if k = 2 then (RM ip) else if k = 4 then (some ((PV j1).r 1)) else none) (RF ip) (RA ip) (fun _ _ => none)]) hw px_X.tt (C := "HomeSystem$RawProcess") (x := ⟨"HomeSystem$AnyProcess", "write", "(I)V"⟩) (px_recv hT hw 5 0 rfl rfl rfl) m8_66 m8_61 m8_63 m8_62 m8_64 m1_33 rfl q_HomeSystem_AnyProcess_write ⟨Nat.le_of_ble_eq_true rfl, Nat.le_of_ble_eq_true rfl⟩ hl.1 rfl (Nat.le_of_ble_eq_true rfl) d_Ker_serve_69 ⟨show 0 + 0 ≤ (5 * ndS 13 tq + 4 * ndS 13 rq + ndS 13 RM) from (by first | exact oz_9c199dfd7f | omega), show 0 + 0 ≤ (9804 * ndS 13 tq + 342 * ndS 13 rq + 36864 * ndS 13 RM) from (by first | exact oz_54615505fb | omega)⟩) hw hA (fun p98 H locs hp98 hw => ?_)
      obtain ⟨f96, a97, rfl, e100, e101, e102, e103, e104, e105, e106⟩ := hp98
      have e100 : (f96 3).toInt = ((RF ip) 3).toInt := e100
      have e101 : (f96 7).toInt = ((RF ip) 7).toInt := e101
      have e102 : (f96 8).toInt = ((RF ip) 8).toInt := e102
      have e103 : (f96 10).toInt = ((RF ip) 10).toInt + 1 := e103
      have e104 : (f96 13).toInt = ((RF ip) 13).toInt := e104
      have e105 : (f96 14).toInt = ((RF ip) 14).toInt := e105
      have e106 : (f96 11).toInt = ((RF ip) 11).toInt := e106
      have hw : pw D A s.heap H locs [wd_Ker cs hk kr (fun _ => none) kf ka (gKe pq pz tq rq), fm 13 (fTx cs tq TR TO TF TA), fm 8 (fPp cs pq PV), fo 13 (fRw cs rq RR RM RW RF RA RC) ip, nA cs (RM ip) 36864 (RC ip), wd_Raw cs hx (RR ip) (fun k => if k = 2 then (RM ip) else if k = 4 then (some ((PV j1).r 1)) else none) f96 a97 (fun _ _ => none)] := hw
      refine lv_aload_n S.x S.b d_Ker_serve_72 rfl (lv_at hl 3 rfl) ?_
      refine lv_iconst (v := 0) S.x S.b d_Ker_serve_73 (by decide) ?_
      refine px_callv (pr := [wd_Ker cs hk kr (fun _ => none) kf ka (gKe pq pz tq rq), fm 13 (fTx cs tq TR TO TF TA), fm 8 (fPp cs pq PV), fo 13 (fRw cs rq RR RM RW RF RA RC) ip, nA cs (RM ip) 36864 (RC ip)]) (px_runA (As := [.int 0]) (rest := []) S (c_Raw_answer l D cs hx (RR ip) (fun _ _ => none) (RM ip) (some ((PV j1).r 1)) f96 a97 0  (show 1 ≤ (f96 7).toInt from by omega) _) hT (pr := [wd_Ker cs hk kr (fun _ => none) kf ka (gKe pq pz tq rq), fm 13 (fTx cs tq TR TO TF TA), fm 8 (fPp cs pq PV), fo 13 (fRw cs rq RR RM RW RF RA RC) ip, nA cs (RM ip) 36864 (RC ip)]) (pcs := [wd_Raw cs hx (RR ip) (fun k => if k = 2 then (RM ip) else if k = 4 then (some ((PV j1).r 1)) else none) f96 a97 (fun _ _ => none)]) hw px_X.tt (C := "HomeSystem$RawProcess") (owner := "HomeSystem$AnyProcess") (x := ⟨"HomeSystem$AnyProcess", "answer", "(I)V"⟩) (px_recv hT hw 5 0 rfl rfl rfl) m8_72 m8_67 m8_69 m8_71 m8_70 m1_34 m8_68n ⟨by decide, by decide⟩ rfl q_Raw_answer ⟨Nat.le_of_ble_eq_true rfl, Nat.le_of_ble_eq_true rfl⟩ hl.1 rfl (Nat.le_of_ble_eq_true rfl) d_Ker_serve_74 ⟨show 0 + 0 ≤ (5 * ndS 13 tq + 4 * ndS 13 rq + ndS 13 RM) from (by first | exact oz_9c199dfd7f | omega), show 0 + 0 ≤ (9804 * ndS 13 tq + 342 * ndS 13 rq + 36864 * ndS 13 RM) from (by first | exact oz_54615505fb | omega)⟩) hw hA (fun p109 H locs hp109 hw => ?_)
      obtain ⟨f107, a108, rfl, e111, e112, e113, e114, e115, e116⟩ := hp109
      have e111 : (f107 7).toInt = (f96 7).toInt - 1 := e111
      have e112 : (f107 8).toInt = (f96 8).toInt := e112
      have e113 : (f107 10).toInt = (f96 10).toInt := e113
      have e114 : (f107 13).toInt = (f96 13).toInt := e114
      have e115 : (f107 14).toInt = 0 := e115
      have e116 : (f107 11).toInt = (f96 11).toInt := e116
      have hw : pw D A s.heap H locs [wd_Ker cs hk kr (fun _ => none) kf ka (gKe pq pz tq rq), fm 13 (fTx cs tq TR TO TF TA), fm 8 (fPp cs pq PV), fo 13 (fRw cs rq RR RM RW RF RA RC) ip, nA cs (RM ip) 36864 (RC ip), wd_Raw cs hx (RR ip) (fun k => if k = 2 then (RM ip) else if k = 4 then (some ((PV j1).r 1)) else none) f107 a108 (fun _ _ => none)] := hw
      refine lv_iconst (v := 1) S.x S.b d_Ker_serve_77 (by decide) ?_
      have hw : pw D A s.heap _ _ [wd_Ker cs hk kr (fun _ => none) kf ka (gKe pq pz tq rq), fm 13 (fTx cs tq TR TO TF TA), fm 8 (fPp cs pq PV), fo 13 (fRw cs rq RR RM RW RF RA RC) ip, wd_Raw cs hx (RR ip) (fun k => if k = 2 then (RM ip) else if k = 4 then (some ((PV j1).r 1)) else none) f107 a108 (fun _ _ => none), nA cs (RM ip) 36864 (RC ip)] := hw.sub [0, 1, 2, 3, 5, 4] rfl rfl
      have hw := frw_in0 (pr := [wd_Ker cs hk kr (fun _ => none) kf ka (gKe pq pz tq rq), fm 13 (fTx cs tq TR TO TF TA), fm 8 (fPp cs pq PV)]) hw hip hcu.1 hto1
      obtain ⟨RM117, hu_RM117⟩ : ∃ y : Nat → Option Nat, y = va_up RM ip (RM ip) := ⟨_, rfl⟩
      obtain ⟨RF118, hu_RF118⟩ : ∃ y : Nat → Nat → Int32, y = va_up RF ip f107 := ⟨_, rfl⟩
      obtain ⟨RA119, hu_RA119⟩ : ∃ y : Nat → Nat → Nat → Int32, y = va_up RA ip a108 := ⟨_, rfl⟩
      obtain ⟨RC120, hu_RC120⟩ : ∃ y : Nat → Nat → Int32, y = va_up RC ip (RC ip) := ⟨_, rfl⟩
      have hw : pw D A s.heap _ _ [wd_Ker cs hk kr (fun _ => none) kf ka (gKe pq pz tq rq), fm 13 (fTx cs tq TR TO TF TA), fm 8 (fPp cs pq PV), fm 13 (fRw cs rq RR RM117 RW RF118 RA119 RC120)] := (by rw [hu_RM117, hu_RF118, hu_RA119, hu_RC120]; exact hw)
      have hki : KnI pq PV pz tq rq TO TF TA RW RF118 := (by rw [hu_RF118]; exact hki.upR (show RwN ip f107 from ⟨(show (0 ≤ (f107 7).toInt ∧ (f107 7).toInt ≤ 1600) ∧ (0 ≤ (f107 10).toInt ∧ (f107 10).toInt + (f107 7).toInt ≤ 1600) ∧ ((f107 14).toInt = 0 ∨ (f107 14).toInt = 1) ∧ ((f107 14).toInt = 1 → 1 ≤ (f107 7).toInt) from by omega), (show ((f107 8).toInt) = ((ip : Nat) : Int) from by omega), (show 0 ≤ (f107 13).toInt ∧ (f107 13).toInt ≤ 3 ∧ ((f107 13).toInt = 0 ∨ 3 * ((ip : Nat) : Int) + (f107 13).toInt ≤ 12) from by omega)⟩))
      have hrm : RmI rq RM117 := (by rw [hu_RM117]; exact hrm.up hcu.1)
      have hnd_RM117 := ndS_up 13 RM ip (RM ip) hip; rw [← hu_RM117] at hnd_RM117
      have hz14_RF118 : (RF118 ip 14).toInt = (f107 14).toInt := (by rw [hu_RF118, va_up_s]; try rfl)
      have hw : pw D A s.heap _ _ [wd_Ker cs hk kr (fun _ => none) kf ka (gKe pq pz tq rq), fm 13 (fTx cs tq TR TO TF TA), fm 13 (fRw cs rq RR RM117 RW RF118 RA119 RC120), fm 8 (fPp cs pq PV)] := hw.sub [0, 1, 3, 2] rfl rfl
      exact pg_iret (v := 1) S hr rfl hlk hAe hw (show 0 ≤ (5 * ndS 13 tq + 4 * ndS 13 rq + ndS 13 RM) from by first | exact oz_86e49526c7 | omega) (show 0 ≤ (9804 * ndS 13 tq + 342 * ndS 13 rq + 36864 * ndS 13 RM) from by first | exact oz_fc3b58e969 | omega) (⟨pz, tq, rq, ka, TR, TO, TF, TA, RR, RM117, RW, RF118, RA119, RC120, rfl, (show (1 : Int32) = 0 ∨ (1 : Int32) = 1 from by first | exact Or.inl rfl | exact Or.inr rfl | exact z_or (by omega)), (show CuR pq PV rq RW ip hx from hcu), (show KnI pq PV pz tq rq TO TF TA RW RF118 from hki), (show RoI ka from hro), (show RmI rq RM117 from hrm), (show 0 + (5 * ndS 13 tq + 4 * ndS 13 rq + ndS 13 RM117) ≤ 5 * ndS 13 tq + 4 * ndS 13 rq + ndS 13 RM from by omega), (show 0 + (9804 * ndS 13 tq + 342 * ndS 13 rq + 36864 * ndS 13 RM117) ≤ 9804 * ndS 13 tq + 342 * ndS 13 rq + 36864 * ndS 13 RM from by omega)⟩) d_Ker_serve_78
    · simp only [List.mem_cons, List.not_mem_nil, or_false] at c95
      refine lv_aload_n S.x S.b d_Ker_serve_120 rfl (lv_at hl 2 rfl) ?_
      refine lv_aload_n S.x S.b d_Ker_serve_121 rfl (lv_at hl 3 rfl) ?_
      refine lv_iload_n S.x S.b d_Ker_serve_122 rfl (lv_at hl 0 rfl) ?_
      refine lv_aload_n S.x S.b d_Ker_serve_123 rfl (lv_at hl 3 rfl) ?_
      refine px_get S k_Raw hT hw 4 0 16 (v := .int ((RF ip) 16)) rfl rfl rfl (by decide) m6_161 d_Ker_serve_124 ?_
      refine lv_if_ne (tgt := 136) S.x S.b d_Ker_serve_127 (by decide) (fun c121 => ?_) (fun c121 => ?_)
      · have nc121 : ¬ ((RF ip) 16).toInt = (0 : Int) := mt (i_eq (x := ((RF ip) 16)) (y := 0)).mpr c121
        refine lv_iconst (v := 2) S.x S.b d_Ker_serve_136 (by decide) ?_
        refine lv_iload_n S.x S.b d_Ker_serve_137 rfl (lv_at hl 0 rfl) ?_
        refine lv_imul S.x S.b d_Ker_serve_138 ?_
        refine lv_topi (fun z123 ez123 => ?_)
        have lz123 := Int32.le_toInt z123
        have uz123 := Int32.toInt_lt z123
        have tz123 : -2147483648 ≤ 2 * v4.toInt → 2 * v4.toInt < 2147483648 → z123.toInt = 2 * v4.toInt := by rw [ez123]; exact i_mulc 2 v4 (by decide)
        try replace tz123 : z123.toInt = 2 * v4.toInt := by omega
        refine lv_iconst (v := 1) S.x S.b d_Ker_serve_139 (by decide) ?_
        refine lv_iadd S.x S.b d_Ker_serve_140 ?_
        refine lv_topi (fun z124 ez124 => ?_)
        have tz124 : z124.toInt = (z123.toInt + (1 : Int) + 2147483648) % 4294967296 - 2147483648 := by rw [ez124]; exact i_add z123 1
        have lz124 := Int32.le_toInt z124
        have uz124 := Int32.toInt_lt z124
        try replace tz124 : z124.toInt = z123.toInt + (1 : Int) := by omega
        have hw : pw D A s.heap _ _ [wd_Ker cs hk kr (fun _ => none) kf ka (gKe pq pz tq rq), fm 13 (fTx cs tq TR TO TF TA), fm 8 (fPp cs pq PV), fm 13 (fRw cs rq RR RM RW RF RA RC)] := frw_back (pr := [wd_Ker cs hk kr (fun _ => none) kf ka (gKe pq pz tq rq), fm 13 (fTx cs tq TR TO TF TA), fm 8 (fPp cs pq PV)]) hw hip hcu.1 hto1
        have hw : pw D A s.heap _ _ [wd_Ker cs hk kr (fun _ => none) kf ka (gKe pq pz tq rq), fm 13 (fTx cs tq TR TO TF TA), fm 13 (fRw cs rq RR RM RW RF RA RC), fm 8 (fPp cs pq PV)] := hw.sub [0, 1, 3, 2] rfl rfl
        refine pg_calli (pr := []) (px_runV (As := [.ref hx, .int v4, .int z124]) (rest := []) S (c_k_send_R l D cs hk kr pq kf PV pz tq rq ka TR TO TF TA RR RM RW RF RA RC v4 z124 ip hx (show v4.toInt = -1 ∨ (0 ≤ v4.toInt ∧ v4.toInt ≤ 12 ∧ 0 ≤ z124.toInt ∧ z124.toInt ≤ 25) from by omega) (show (RF ip 14).toInt = 1 from by first | exact g2 | omega) hki hro hrm hip hcu _ _) hT (pr := []) (pcs := [wd_Ker cs hk kr (fun _ => none) kf ka (gKe pq pz tq rq), fm 13 (fTx cs tq TR TO TF TA), fm 13 (fRw cs rq RR RM RW RF RA RC), fm 8 (fPp cs pq PV)]) hw (px_X.tot px_X.tt) (px_recv hT hw 0 0 rfl rfl rfl) m8_150 m8_147 m8_149 ms_6_0 m1_19 q_Ker_send ⟨Nat.le_of_ble_eq_true rfl, Nat.le_of_ble_eq_true rfl⟩ hl.1 rfl (Nat.le_of_ble_eq_true rfl) d_Ker_serve_141 ⟨show 0 + (5 * ndS 13 tq + 4 * ndS 13 rq + ndS 13 RM) ≤ (5 * ndS 13 tq + 4 * ndS 13 rq + ndS 13 RM) from (by first | exact oz_f06a029546 | omega), show 0 + (9804 * ndS 13 tq + 342 * ndS 13 rq + 36864 * ndS 13 RM) ≤ (9804 * ndS 13 tq + 342 * ndS 13 rq + 36864 * ndS 13 RM) from (by first | exact oz_71d01cab57 | omega)⟩) hw hA (fun v154 p153 k155 n156 H locs hp153 hw => ?_)
        dsimp only at hp153
        obtain ⟨pz139, tq140, rq141, ka142, TR143, TO144, TF145, TA146, RR147, RM148, RW149, RF150, RA151, RC152, rfl, e157, e158, e159, e160, e161, e162, e163⟩ := hp153
        have e157 := z_rng e157
        have e158 : CuR pq PV rq141 RW149 ip hx := e158
        obtain ⟨j164, hp164, hj164, hjq164, hto164⟩ := e158.2
        have e159 : KnI pq PV pz139 tq140 rq141 TO144 TF145 TA146 RW149 RF150 := e159
        have hki := e159
        have e160 : RoI ka142 := e160
        have hro := e160
        have e161 : RmI rq141 RM148 := e161
        have hrm := e161
        have e162 : k155 + (5 * ndS 13 tq140 + 4 * ndS 13 rq141 + ndS 13 RM148) ≤ 5 * ndS 13 tq + 4 * ndS 13 rq + ndS 13 RM := e162
        have e163 : n156 + (9804 * ndS 13 tq140 + 342 * ndS 13 rq141 + 36864 * ndS 13 RM148) ≤ 9804 * ndS 13 tq + 342 * ndS 13 rq + 36864 * ndS 13 RM := e163
        have hw : pw D A s.heap H locs [wd_Ker cs hk kr (fun _ => none) kf ka142 (gKe pq pz139 tq140 rq141), fm 13 (fTx cs tq140 TR143 TO144 TF145 TA146), fm 13 (fRw cs rq141 RR147 RM148 RW149 RF150 RA151 RC152), fm 8 (fPp cs pq PV)] := hw
        have lv154 := Int32.le_toInt v154
        have uv154 := Int32.toInt_lt v154
        exact pg_iret (v := v154) S hr (z_nar (by omega)) hlk hAe hw (show (0 + k155) ≤ (5 * ndS 13 tq + 4 * ndS 13 rq + ndS 13 RM) from by first | exact oz_c18bd8c19e e162 | omega) (show (0 + n156) ≤ (9804 * ndS 13 tq + 342 * ndS 13 rq + 36864 * ndS 13 RM) from by first | exact oz_a5e7637f35 e163 | omega) (⟨pz139, tq140, rq141, ka142, TR143, TO144, TF145, TA146, RR147, RM148, RW149, RF150, RA151, RC152, rfl, (show v154 = 0 ∨ v154 = 1 from by first | exact Or.inl rfl | exact Or.inr rfl | exact z_or (by omega)), (show CuR pq PV rq141 RW149 ip hx from e158), (show KnI pq PV pz139 tq140 rq141 TO144 TF145 TA146 RW149 RF150 from hki), (show RoI ka142 from hro), (show RmI rq141 RM148 from hrm), (show (0 + k155) + (5 * ndS 13 tq140 + 4 * ndS 13 rq141 + ndS 13 RM148) ≤ 5 * ndS 13 tq + 4 * ndS 13 rq + ndS 13 RM from by first | exact oz_83cb35c84f e162 | omega), (show (0 + n156) + (9804 * ndS 13 tq140 + 342 * ndS 13 rq141 + 36864 * ndS 13 RM148) ≤ 9804 * ndS 13 tq + 342 * ndS 13 rq + 36864 * ndS 13 RM from by first | exact oz_0878d13dda e163 | omega)⟩) d_Ker_serve_144
      · have nc121 : ((RF ip) 16).toInt = (0 : Int) := (i_eq (x := ((RF ip) 16)) (y := 0)).mp c121
        refine lv_iconst (v := 2) S.x S.b d_Ker_serve_130 (by decide) ?_
        refine lv_iload_n S.x S.b d_Ker_serve_131 rfl (lv_at hl 1 rfl) ?_
        refine lv_imul S.x S.b d_Ker_serve_132 ?_
        have lr165 := Int32.le_toInt ((RF ip) 8)
        have ur165 := Int32.toInt_lt ((RF ip) 8)
        refine lv_topi (fun z166 ez166 => ?_)
        have lz166 := Int32.le_toInt z166
        have uz166 := Int32.toInt_lt z166
        have tz166 : -2147483648 ≤ 2 * ((RF ip) 8).toInt → 2 * ((RF ip) 8).toInt < 2147483648 → z166.toInt = 2 * ((RF ip) 8).toInt := by rw [ez166]; exact i_mulc 2 ((RF ip) 8) (by decide)
        try replace tz166 : z166.toInt = 2 * ((RF ip) 8).toInt := by omega
        refine lv_goto (tgt := 141) S.x S.b d_Ker_serve_133 (by decide) ?_
        have hw : pw D A s.heap _ _ [wd_Ker cs hk kr (fun _ => none) kf ka (gKe pq pz tq rq), fm 13 (fTx cs tq TR TO TF TA), fm 8 (fPp cs pq PV), fm 13 (fRw cs rq RR RM RW RF RA RC)] := frw_back (pr := [wd_Ker cs hk kr (fun _ => none) kf ka (gKe pq pz tq rq), fm 13 (fTx cs tq TR TO TF TA), fm 8 (fPp cs pq PV)]) hw hip hcu.1 hto1
        have hw : pw D A s.heap _ _ [wd_Ker cs hk kr (fun _ => none) kf ka (gKe pq pz tq rq), fm 13 (fTx cs tq TR TO TF TA), fm 13 (fRw cs rq RR RM RW RF RA RC), fm 8 (fPp cs pq PV)] := hw.sub [0, 1, 3, 2] rfl rfl
        refine pg_calli (pr := []) (px_runV (As := [.ref hx, .int v4, .int z166]) (rest := []) S (c_k_send_R l D cs hk kr pq kf PV pz tq rq ka TR TO TF TA RR RM RW RF RA RC v4 z166 ip hx (show v4.toInt = -1 ∨ (0 ≤ v4.toInt ∧ v4.toInt ≤ 12 ∧ 0 ≤ z166.toInt ∧ z166.toInt ≤ 25) from by omega) (show (RF ip 14).toInt = 1 from by first | exact g2 | omega) hki hro hrm hip hcu _ _) hT (pr := []) (pcs := [wd_Ker cs hk kr (fun _ => none) kf ka (gKe pq pz tq rq), fm 13 (fTx cs tq TR TO TF TA), fm 13 (fRw cs rq RR RM RW RF RA RC), fm 8 (fPp cs pq PV)]) hw (px_X.tot px_X.tt) (px_recv hT hw 0 0 rfl rfl rfl) m8_150 m8_147 m8_149 ms_6_0 m1_19 q_Ker_send ⟨Nat.le_of_ble_eq_true rfl, Nat.le_of_ble_eq_true rfl⟩ hl.1 rfl (Nat.le_of_ble_eq_true rfl) d_Ker_serve_141 ⟨show 0 + (5 * ndS 13 tq + 4 * ndS 13 rq + ndS 13 RM) ≤ (5 * ndS 13 tq + 4 * ndS 13 rq + ndS 13 RM) from (by first | exact oz_f06a029546 | omega), show 0 + (9804 * ndS 13 tq + 342 * ndS 13 rq + 36864 * ndS 13 RM) ≤ (9804 * ndS 13 tq + 342 * ndS 13 rq + 36864 * ndS 13 RM) from (by first | exact oz_71d01cab57 | omega)⟩) hw hA (fun v196 p195 k197 n198 H locs hp195 hw => ?_)
        dsimp only at hp195
        obtain ⟨pz181, tq182, rq183, ka184, TR185, TO186, TF187, TA188, RR189, RM190, RW191, RF192, RA193, RC194, rfl, e199, e200, e201, e202, e203, e204, e205⟩ := hp195
        have e199 := z_rng e199
        have e200 : CuR pq PV rq183 RW191 ip hx := e200
        obtain ⟨j206, hp206, hj206, hjq206, hto206⟩ := e200.2
        have e201 : KnI pq PV pz181 tq182 rq183 TO186 TF187 TA188 RW191 RF192 := e201
        have hki := e201
        have e202 : RoI ka184 := e202
        have hro := e202
        have e203 : RmI rq183 RM190 := e203
        have hrm := e203
        have e204 : k197 + (5 * ndS 13 tq182 + 4 * ndS 13 rq183 + ndS 13 RM190) ≤ 5 * ndS 13 tq + 4 * ndS 13 rq + ndS 13 RM := e204
        have e205 : n198 + (9804 * ndS 13 tq182 + 342 * ndS 13 rq183 + 36864 * ndS 13 RM190) ≤ 9804 * ndS 13 tq + 342 * ndS 13 rq + 36864 * ndS 13 RM := e205
        have hw : pw D A s.heap H locs [wd_Ker cs hk kr (fun _ => none) kf ka184 (gKe pq pz181 tq182 rq183), fm 13 (fTx cs tq182 TR185 TO186 TF187 TA188), fm 13 (fRw cs rq183 RR189 RM190 RW191 RF192 RA193 RC194), fm 8 (fPp cs pq PV)] := hw
        have lv196 := Int32.le_toInt v196
        have uv196 := Int32.toInt_lt v196
        exact pg_iret (v := v196) S hr (z_nar (by omega)) hlk hAe hw (show (0 + k197) ≤ (5 * ndS 13 tq + 4 * ndS 13 rq + ndS 13 RM) from by first | exact oz_c18bd8c19e e204 | omega) (show (0 + n198) ≤ (9804 * ndS 13 tq + 342 * ndS 13 rq + 36864 * ndS 13 RM) from by first | exact oz_a5e7637f35 e205 | omega) (⟨pz181, tq182, rq183, ka184, TR185, TO186, TF187, TA188, RR189, RM190, RW191, RF192, RA193, RC194, rfl, (show v196 = 0 ∨ v196 = 1 from by first | exact Or.inl rfl | exact Or.inr rfl | exact z_or (by omega)), (show CuR pq PV rq183 RW191 ip hx from e200), (show KnI pq PV pz181 tq182 rq183 TO186 TF187 TA188 RW191 RF192 from hki), (show RoI ka184 from hro), (show RmI rq183 RM190 from hrm), (show (0 + k197) + (5 * ndS 13 tq182 + 4 * ndS 13 rq183 + ndS 13 RM190) ≤ 5 * ndS 13 tq + 4 * ndS 13 rq + ndS 13 RM from by first | exact oz_83cb35c84f e204 | omega), (show (0 + n198) + (9804 * ndS 13 tq182 + 342 * ndS 13 rq183 + 36864 * ndS 13 RM190) ≤ 9804 * ndS 13 tq + 342 * ndS 13 rq + 36864 * ndS 13 RM from by first | exact oz_0878d13dda e205 | omega)⟩) d_Ker_serve_144
    · simp only [List.mem_cons, List.not_mem_nil, or_false] at c95
      refine lv_aload_n S.x S.b d_Ker_serve_163 rfl (lv_at hl 2 rfl) ?_
      refine lv_aload_n S.x S.b d_Ker_serve_164 rfl (lv_at hl 3 rfl) ?_
      refine lv_iload_n S.x S.b d_Ker_serve_165 rfl (lv_at hl 0 rfl) ?_
      refine lv_aload_n S.x S.b d_Ker_serve_166 rfl (lv_at hl 3 rfl) ?_
      refine px_get S k_Raw hT hw 4 0 16 (v := .int ((RF ip) 16)) rfl rfl rfl (by decide) m6_161 d_Ker_serve_167 ?_
      refine lv_if_ne (tgt := 181) S.x S.b d_Ker_serve_170 (by decide) (fun c207 => ?_) (fun c207 => ?_)
      · have nc207 : ¬ ((RF ip) 16).toInt = (0 : Int) := mt (i_eq (x := ((RF ip) 16)) (y := 0)).mpr c207
        refine lv_iconst (v := 2) S.x S.b d_Ker_serve_181 (by decide) ?_
        refine lv_iload_n S.x S.b d_Ker_serve_182 rfl (lv_at hl 0 rfl) ?_
        refine lv_imul S.x S.b d_Ker_serve_183 ?_
        refine lv_topi (fun z209 ez209 => ?_)
        have lz209 := Int32.le_toInt z209
        have uz209 := Int32.toInt_lt z209
        have tz209 : -2147483648 ≤ 2 * v4.toInt → 2 * v4.toInt < 2147483648 → z209.toInt = 2 * v4.toInt := by rw [ez209]; exact i_mulc 2 v4 (by decide)
        try replace tz209 : z209.toInt = 2 * v4.toInt := by omega
        have hw : pw D A s.heap _ _ [wd_Ker cs hk kr (fun _ => none) kf ka (gKe pq pz tq rq), fm 13 (fTx cs tq TR TO TF TA), fm 8 (fPp cs pq PV), fm 13 (fRw cs rq RR RM RW RF RA RC)] := frw_back (pr := [wd_Ker cs hk kr (fun _ => none) kf ka (gKe pq pz tq rq), fm 13 (fTx cs tq TR TO TF TA), fm 8 (fPp cs pq PV)]) hw hip hcu.1 hto1
        have hw : pw D A s.heap _ _ [wd_Ker cs hk kr (fun _ => none) kf ka (gKe pq pz tq rq), fm 13 (fTx cs tq TR TO TF TA), fm 13 (fRw cs rq RR RM RW RF RA RC), fm 8 (fPp cs pq PV)] := hw.sub [0, 1, 3, 2] rfl rfl
        refine pg_calli (pr := []) (px_runV (As := [.ref hx, .int v4, .int z209]) (rest := []) S (c_k_receive_R l D cs hk kr pq kf PV pz tq rq ka TR TO TF TA RR RM RW RF RA RC v4 z209 ip hx (show v4.toInt = -1 ∨ (0 ≤ v4.toInt ∧ v4.toInt ≤ 12 ∧ 0 ≤ z209.toInt ∧ z209.toInt ≤ 25) from by omega) (show (RF ip 14).toInt = 1 from by first | exact g2 | omega) hki hro hrm hip hcu _ _) hT (pr := []) (pcs := [wd_Ker cs hk kr (fun _ => none) kf ka (gKe pq pz tq rq), fm 13 (fTx cs tq TR TO TF TA), fm 13 (fRw cs rq RR RM RW RF RA RC), fm 8 (fPp cs pq PV)]) hw (px_X.tot px_X.tt) (px_recv hT hw 0 0 rfl rfl rfl) m8_162 m8_159 m8_161 ms_6_3 m1_19 q_Ker_receive ⟨Nat.le_of_ble_eq_true rfl, Nat.le_of_ble_eq_true rfl⟩ hl.1 rfl (Nat.le_of_ble_eq_true rfl) d_Ker_serve_184 ⟨show 0 + (5 * ndS 13 tq + 4 * ndS 13 rq + ndS 13 RM) ≤ (5 * ndS 13 tq + 4 * ndS 13 rq + ndS 13 RM) from (by first | exact oz_f06a029546 | omega), show 0 + (9804 * ndS 13 tq + 342 * ndS 13 rq + 36864 * ndS 13 RM) ≤ (9804 * ndS 13 tq + 342 * ndS 13 rq + 36864 * ndS 13 RM) from (by first | exact oz_71d01cab57 | omega)⟩) hw hA (fun v239 p238 k240 n241 H locs hp238 hw => ?_)
        dsimp only at hp238
        obtain ⟨pz224, tq225, rq226, ka227, TR228, TO229, TF230, TA231, RR232, RM233, RW234, RF235, RA236, RC237, rfl, e242, e243, e244, e245, e246, e247, e248⟩ := hp238
        have e242 := z_rng e242
        have e243 : CuR pq PV rq226 RW234 ip hx := e243
        obtain ⟨j249, hp249, hj249, hjq249, hto249⟩ := e243.2
        have e244 : KnI pq PV pz224 tq225 rq226 TO229 TF230 TA231 RW234 RF235 := e244
        have hki := e244
        have e245 : RoI ka227 := e245
        have hro := e245
        have e246 : RmI rq226 RM233 := e246
        have hrm := e246
        have e247 : k240 + (5 * ndS 13 tq225 + 4 * ndS 13 rq226 + ndS 13 RM233) ≤ 5 * ndS 13 tq + 4 * ndS 13 rq + ndS 13 RM := e247
        have e248 : n241 + (9804 * ndS 13 tq225 + 342 * ndS 13 rq226 + 36864 * ndS 13 RM233) ≤ 9804 * ndS 13 tq + 342 * ndS 13 rq + 36864 * ndS 13 RM := e248
        have hw : pw D A s.heap H locs [wd_Ker cs hk kr (fun _ => none) kf ka227 (gKe pq pz224 tq225 rq226), fm 13 (fTx cs tq225 TR228 TO229 TF230 TA231), fm 13 (fRw cs rq226 RR232 RM233 RW234 RF235 RA236 RC237), fm 8 (fPp cs pq PV)] := hw
        have lv239 := Int32.le_toInt v239
        have uv239 := Int32.toInt_lt v239
        exact pg_iret (v := v239) S hr (z_nar (by omega)) hlk hAe hw (show (0 + k240) ≤ (5 * ndS 13 tq + 4 * ndS 13 rq + ndS 13 RM) from by first | exact oz_c18bd8c19e e247 | omega) (show (0 + n241) ≤ (9804 * ndS 13 tq + 342 * ndS 13 rq + 36864 * ndS 13 RM) from by first | exact oz_a5e7637f35 e248 | omega) (⟨pz224, tq225, rq226, ka227, TR228, TO229, TF230, TA231, RR232, RM233, RW234, RF235, RA236, RC237, rfl, (show v239 = 0 ∨ v239 = 1 from by first | exact Or.inl rfl | exact Or.inr rfl | exact z_or (by omega)), (show CuR pq PV rq226 RW234 ip hx from e243), (show KnI pq PV pz224 tq225 rq226 TO229 TF230 TA231 RW234 RF235 from hki), (show RoI ka227 from hro), (show RmI rq226 RM233 from hrm), (show (0 + k240) + (5 * ndS 13 tq225 + 4 * ndS 13 rq226 + ndS 13 RM233) ≤ 5 * ndS 13 tq + 4 * ndS 13 rq + ndS 13 RM from by first | exact oz_83cb35c84f e247 | omega), (show (0 + n241) + (9804 * ndS 13 tq225 + 342 * ndS 13 rq226 + 36864 * ndS 13 RM233) ≤ 9804 * ndS 13 tq + 342 * ndS 13 rq + 36864 * ndS 13 RM from by first | exact oz_0878d13dda e248 | omega)⟩) d_Ker_serve_187
      · have nc207 : ((RF ip) 16).toInt = (0 : Int) := (i_eq (x := ((RF ip) 16)) (y := 0)).mp c207
        refine lv_iconst (v := 2) S.x S.b d_Ker_serve_173 (by decide) ?_
        refine lv_iload_n S.x S.b d_Ker_serve_174 rfl (lv_at hl 1 rfl) ?_
        refine lv_imul S.x S.b d_Ker_serve_175 ?_
        have lr250 := Int32.le_toInt ((RF ip) 8)
        have ur250 := Int32.toInt_lt ((RF ip) 8)
        refine lv_topi (fun z251 ez251 => ?_)
        have lz251 := Int32.le_toInt z251
        have uz251 := Int32.toInt_lt z251
        have tz251 : -2147483648 ≤ 2 * ((RF ip) 8).toInt → 2 * ((RF ip) 8).toInt < 2147483648 → z251.toInt = 2 * ((RF ip) 8).toInt := by rw [ez251]; exact i_mulc 2 ((RF ip) 8) (by decide)
        try replace tz251 : z251.toInt = 2 * ((RF ip) 8).toInt := by omega
        refine lv_iconst (v := 1) S.x S.b d_Ker_serve_176 (by decide) ?_
        refine lv_iadd S.x S.b d_Ker_serve_177 ?_
        refine lv_topi (fun z252 ez252 => ?_)
        have tz252 : z252.toInt = (z251.toInt + (1 : Int) + 2147483648) % 4294967296 - 2147483648 := by rw [ez252]; exact i_add z251 1
        have lz252 := Int32.le_toInt z252
        have uz252 := Int32.toInt_lt z252
        try replace tz252 : z252.toInt = z251.toInt + (1 : Int) := by omega
        refine lv_goto (tgt := 184) S.x S.b d_Ker_serve_178 (by decide) ?_
        have hw : pw D A s.heap _ _ [wd_Ker cs hk kr (fun _ => none) kf ka (gKe pq pz tq rq), fm 13 (fTx cs tq TR TO TF TA), fm 8 (fPp cs pq PV), fm 13 (fRw cs rq RR RM RW RF RA RC)] := frw_back (pr := [wd_Ker cs hk kr (fun _ => none) kf ka (gKe pq pz tq rq), fm 13 (fTx cs tq TR TO TF TA), fm 8 (fPp cs pq PV)]) hw hip hcu.1 hto1
        have hw : pw D A s.heap _ _ [wd_Ker cs hk kr (fun _ => none) kf ka (gKe pq pz tq rq), fm 13 (fTx cs tq TR TO TF TA), fm 13 (fRw cs rq RR RM RW RF RA RC), fm 8 (fPp cs pq PV)] := hw.sub [0, 1, 3, 2] rfl rfl
        refine pg_calli (pr := []) (px_runV (As := [.ref hx, .int v4, .int z252]) (rest := []) S (c_k_receive_R l D cs hk kr pq kf PV pz tq rq ka TR TO TF TA RR RM RW RF RA RC v4 z252 ip hx (show v4.toInt = -1 ∨ (0 ≤ v4.toInt ∧ v4.toInt ≤ 12 ∧ 0 ≤ z252.toInt ∧ z252.toInt ≤ 25) from by omega) (show (RF ip 14).toInt = 1 from by first | exact g2 | omega) hki hro hrm hip hcu _ _) hT (pr := []) (pcs := [wd_Ker cs hk kr (fun _ => none) kf ka (gKe pq pz tq rq), fm 13 (fTx cs tq TR TO TF TA), fm 13 (fRw cs rq RR RM RW RF RA RC), fm 8 (fPp cs pq PV)]) hw (px_X.tot px_X.tt) (px_recv hT hw 0 0 rfl rfl rfl) m8_162 m8_159 m8_161 ms_6_3 m1_19 q_Ker_receive ⟨Nat.le_of_ble_eq_true rfl, Nat.le_of_ble_eq_true rfl⟩ hl.1 rfl (Nat.le_of_ble_eq_true rfl) d_Ker_serve_184 ⟨show 0 + (5 * ndS 13 tq + 4 * ndS 13 rq + ndS 13 RM) ≤ (5 * ndS 13 tq + 4 * ndS 13 rq + ndS 13 RM) from (by first | exact oz_f06a029546 | omega), show 0 + (9804 * ndS 13 tq + 342 * ndS 13 rq + 36864 * ndS 13 RM) ≤ (9804 * ndS 13 tq + 342 * ndS 13 rq + 36864 * ndS 13 RM) from (by first | exact oz_71d01cab57 | omega)⟩) hw hA (fun v282 p281 k283 n284 H locs hp281 hw => ?_)
        dsimp only at hp281
        obtain ⟨pz267, tq268, rq269, ka270, TR271, TO272, TF273, TA274, RR275, RM276, RW277, RF278, RA279, RC280, rfl, e285, e286, e287, e288, e289, e290, e291⟩ := hp281
        have e285 := z_rng e285
        have e286 : CuR pq PV rq269 RW277 ip hx := e286
        obtain ⟨j292, hp292, hj292, hjq292, hto292⟩ := e286.2
        have e287 : KnI pq PV pz267 tq268 rq269 TO272 TF273 TA274 RW277 RF278 := e287
        have hki := e287
        have e288 : RoI ka270 := e288
        have hro := e288
        have e289 : RmI rq269 RM276 := e289
        have hrm := e289
        have e290 : k283 + (5 * ndS 13 tq268 + 4 * ndS 13 rq269 + ndS 13 RM276) ≤ 5 * ndS 13 tq + 4 * ndS 13 rq + ndS 13 RM := e290
        have e291 : n284 + (9804 * ndS 13 tq268 + 342 * ndS 13 rq269 + 36864 * ndS 13 RM276) ≤ 9804 * ndS 13 tq + 342 * ndS 13 rq + 36864 * ndS 13 RM := e291
        have hw : pw D A s.heap H locs [wd_Ker cs hk kr (fun _ => none) kf ka270 (gKe pq pz267 tq268 rq269), fm 13 (fTx cs tq268 TR271 TO272 TF273 TA274), fm 13 (fRw cs rq269 RR275 RM276 RW277 RF278 RA279 RC280), fm 8 (fPp cs pq PV)] := hw
        have lv282 := Int32.le_toInt v282
        have uv282 := Int32.toInt_lt v282
        exact pg_iret (v := v282) S hr (z_nar (by omega)) hlk hAe hw (show (0 + k283) ≤ (5 * ndS 13 tq + 4 * ndS 13 rq + ndS 13 RM) from by first | exact oz_c18bd8c19e e290 | omega) (show (0 + n284) ≤ (9804 * ndS 13 tq + 342 * ndS 13 rq + 36864 * ndS 13 RM) from by first | exact oz_a5e7637f35 e291 | omega) (⟨pz267, tq268, rq269, ka270, TR271, TO272, TF273, TA274, RR275, RM276, RW277, RF278, RA279, RC280, rfl, (show v282 = 0 ∨ v282 = 1 from by first | exact Or.inl rfl | exact Or.inr rfl | exact z_or (by omega)), (show CuR pq PV rq269 RW277 ip hx from e286), (show KnI pq PV pz267 tq268 rq269 TO272 TF273 TA274 RW277 RF278 from hki), (show RoI ka270 from hro), (show RmI rq269 RM276 from hrm), (show (0 + k283) + (5 * ndS 13 tq268 + 4 * ndS 13 rq269 + ndS 13 RM276) ≤ 5 * ndS 13 tq + 4 * ndS 13 rq + ndS 13 RM from by first | exact oz_83cb35c84f e290 | omega), (show (0 + n284) + (9804 * ndS 13 tq268 + 342 * ndS 13 rq269 + 36864 * ndS 13 RM276) ≤ 9804 * ndS 13 tq + 342 * ndS 13 rq + 36864 * ndS 13 RM from by first | exact oz_0878d13dda e291 | omega)⟩) d_Ker_serve_187
    · simp only [List.mem_cons, List.not_mem_nil, or_false] at c95
      refine lv_aload_n S.x S.b d_Ker_serve_79 rfl (lv_at hl 3 rfl) ?_
      refine lv_aload_n S.x S.b d_Ker_serve_80 rfl (lv_at hl 2 rfl) ?_
      refine lv_aload_n S.x S.b d_Ker_serve_81 rfl (lv_at hl 3 rfl) ?_
      refine lv_aload_n S.x S.b d_Ker_serve_82 rfl (lv_at hl 3 rfl) ?_
      refine px_get S k_Raw hT hw 4 0 16 (v := .int ((RF ip) 16)) rfl rfl rfl (by decide) m6_161 d_Ker_serve_83 ?_
      refine lv_aload_n S.x S.b d_Ker_serve_86 rfl (lv_at hl 3 rfl) ?_
      refine px_get S k_Raw hT hw 4 0 17 (v := .int ((RF ip) 17)) rfl rfl rfl (by decide) m6_166 d_Ker_serve_87 ?_
      have hw : pw D A s.heap _ _ [wd_Ker cs hk kr (fun _ => none) kf ka (gKe pq pz tq rq), fm 13 (fTx cs tq TR TO TF TA), fm 8 (fPp cs pq PV), fm 13 (fRw cs rq RR RM RW RF RA RC)] := frw_back (pr := [wd_Ker cs hk kr (fun _ => none) kf ka (gKe pq pz tq rq), fm 13 (fTx cs tq TR TO TF TA), fm 8 (fPp cs pq PV)]) hw hip hcu.1 hto1
      have hw : pw D A s.heap _ _ [wd_Ker cs hk kr (fun _ => none) kf ka (gKe pq pz tq rq), fm 13 (fTx cs tq TR TO TF TA), fm 13 (fRw cs rq RR RM RW RF RA RC), fm 8 (fPp cs pq PV)] := hw.sub [0, 1, 3, 2] rfl rfl
      refine pg_calli (pr := []) (px_runV (As := [.ref hx, .int ((RF ip) 16), .int ((RF ip) 17)]) (rest := [.ref hx]) S (c_k_spawn_R l D cs hk kr pq kf PV pz tq rq ka TR TO TF TA RR RM RW RF RA RC ((RF ip) 16) ((RF ip) 17) ip hx (show 0 ≤ (kf 8).toInt from by first | exact g0 | omega) (show (kf 8).toInt ≤ 100 from by first | exact g1 | omega) hki hro hrm hip hcu _ _) hT (pr := []) (pcs := [wd_Ker cs hk kr (fun _ => none) kf ka (gKe pq pz tq rq), fm 13 (fTx cs tq TR TO TF TA), fm 13 (fRw cs rq RR RM RW RF RA RC), fm 8 (fPp cs pq PV)]) hw (px_X.tot px_X.tt) (px_recv hT hw 0 0 rfl rfl rfl) m8_79 m8_76 m8_78 ms_5_10 m1_19 q_Ker_spawn ⟨Nat.le_of_ble_eq_true rfl, Nat.le_of_ble_eq_true rfl⟩ hl.1 rfl (Nat.le_of_ble_eq_true rfl) d_Ker_serve_90 ⟨show 0 + (5 * ndS 13 tq + 4 * ndS 13 rq + ndS 13 RM) ≤ (5 * ndS 13 tq + 4 * ndS 13 rq + ndS 13 RM) from (by first | exact oz_f06a029546 | omega), show 0 + (9804 * ndS 13 tq + 342 * ndS 13 rq + 36864 * ndS 13 RM) ≤ (9804 * ndS 13 tq + 342 * ndS 13 rq + 36864 * ndS 13 RM) from (by first | exact oz_71d01cab57 | omega)⟩) hw hA (fun v322 p321 k323 n324 H locs hp321 hw => ?_)
      dsimp only at hp321
      obtain ⟨pz307, tq308, rq309, ka310, TR311, TO312, TF313, TA314, RR315, RM316, RW317, RF318, RA319, RC320, rfl, e325, e326, e327, e328, e329, e330, e331⟩ := hp321
      have e325 : CuR pq PV rq309 RW317 ip hx := e325
      obtain ⟨j332, hp332, hj332, hjq332, hto332⟩ := e325.2
      have e326 : (RF318 ip 14).toInt = (RF ip 14).toInt := e326
      have e327 : KnI pq PV pz307 tq308 rq309 TO312 TF313 TA314 RW317 RF318 := e327
      have hki := e327
      have e328 : RoI ka310 := e328
      have hro := e328
      have e329 : RmI rq309 RM316 := e329
      have hrm := e329
      have e330 : k323 + (5 * ndS 13 tq308 + 4 * ndS 13 rq309 + ndS 13 RM316) ≤ 5 * ndS 13 tq + 4 * ndS 13 rq + ndS 13 RM := e330
      have e331 : n324 + (9804 * ndS 13 tq308 + 342 * ndS 13 rq309 + 36864 * ndS 13 RM316) ≤ 9804 * ndS 13 tq + 342 * ndS 13 rq + 36864 * ndS 13 RM := e331
      have hw : pw D A s.heap H locs [wd_Ker cs hk kr (fun _ => none) kf ka310 (gKe pq pz307 tq308 rq309), fm 13 (fTx cs tq308 TR311 TO312 TF313 TA314), fm 13 (fRw cs rq309 RR315 RM316 RW317 RF318 RA319 RC320), fm 8 (fPp cs pq PV)] := hw
      have lv322 := Int32.le_toInt v322
      have uv322 := Int32.toInt_lt v322
      have hw : pw D A s.heap _ _ [wd_Ker cs hk kr (fun _ => none) kf ka310 (gKe pq pz307 tq308 rq309), fm 13 (fTx cs tq308 TR311 TO312 TF313 TA314), fm 8 (fPp cs pq PV), fm 13 (fRw cs rq309 RR315 RM316 RW317 RF318 RA319 RC320)] := hw.sub [0, 1, 3, 2] rfl rfl
      have hw : pw D A s.heap _ _ [wd_Ker cs hk kr (fun _ => none) kf ka310 (gKe pq pz307 tq308 rq309), fm 13 (fTx cs tq308 TR311 TO312 TF313 TA314), fm 8 (fPp cs pq PV), fo 13 (fRw cs rq309 RR315 RM316 RW317 RF318 RA319 RC320) ip, wd_Raw cs hx (RR315 ip) (fun k => if k = 2 then (RM316 ip) else if k = 4 then (some ((PV j332).r 1)) else none) (RF318 ip) (RA319 ip) (fun _ _ => none), nA cs (RM316 ip) 36864 (RC320 ip)] := frw_out (pr := [wd_Ker cs hk kr (fun _ => none) kf ka310 (gKe pq pz307 tq308 rq309), fm 13 (fTx cs tq308 TR311 TO312 TF313 TA314), fm 8 (fPp cs pq PV)]) hw hip e325.1 hto332
      have hng333 := ndS_ge 13 RM316 ip hip
      have hrn333 : RwN ip (RF318 ip) := hki.2.2.1 ip hip _ e325.1
      have hro333 := hrn333.1
      unfold RwO at hro333
      have hid333 := hrn333.2.1
      have hch333 := hrn333.2.2
      unfold KcI at hch333
      have hw : pw D A s.heap _ _ [wd_Ker cs hk kr (fun _ => none) kf ka310 (gKe pq pz307 tq308 rq309), fm 13 (fTx cs tq308 TR311 TO312 TF313 TA314), fm 8 (fPp cs pq PV), fo 13 (fRw cs rq309 RR315 RM316 RW317 RF318 RA319 RC320) ip, nA cs (RM316 ip) 36864 (RC320 ip), wd_Raw cs hx (RR315 ip) (fun k => if k = 2 then (RM316 ip) else if k = 4 then (some ((PV j332).r 1)) else none) (RF318 ip) (RA319 ip) (fun _ _ => none)] := hw.sub [0, 1, 2, 3, 5, 4] rfl rfl
      refine px_callv (pr := [wd_Ker cs hk kr (fun _ => none) kf ka310 (gKe pq pz307 tq308 rq309), fm 13 (fTx cs tq308 TR311 TO312 TF313 TA314), fm 8 (fPp cs pq PV), fo 13 (fRw cs rq309 RR315 RM316 RW317 RF318 RA319 RC320) ip, nA cs (RM316 ip) 36864 (RC320 ip)]) (px_runA (As := [.int v322]) (rest := []) S (c_Raw_answer l D cs hx (RR315 ip) (fun _ _ => none) (RM316 ip) (some ((PV j332).r 1)) (RF318 ip) (RA319 ip) v322  (show 1 ≤ ((RF318 ip) 7).toInt from by omega) _) hT (pr := [wd_Ker cs hk kr (fun _ => none) kf ka310 (gKe pq pz307 tq308 rq309), fm 13 (fTx cs tq308 TR311 TO312 TF313 TA314), fm 8 (fPp cs pq PV), fo 13 (fRw cs rq309 RR315 RM316 RW317 RF318 RA319 RC320) ip, nA cs (RM316 ip) 36864 (RC320 ip)]) (pcs := [wd_Raw cs hx (RR315 ip) (fun k => if k = 2 then (RM316 ip) else if k = 4 then (some ((PV j332).r 1)) else none) (RF318 ip) (RA319 ip) (fun _ _ => none)]) hw px_X.tt (C := "HomeSystem$RawProcess") (owner := "HomeSystem$AnyProcess") (x := ⟨"HomeSystem$AnyProcess", "answer", "(I)V"⟩) (px_recv hT hw 5 0 rfl rfl rfl) m8_72 m8_67 m8_69 m8_71 m8_70 m1_34 m8_68n ⟨by decide, by decide⟩ rfl q_Raw_answer ⟨Nat.le_of_ble_eq_true rfl, Nat.le_of_ble_eq_true rfl⟩ hl.1 rfl (Nat.le_of_ble_eq_true rfl) d_Ker_serve_93 ⟨show (0 + k323) + 0 ≤ (5 * ndS 13 tq + 4 * ndS 13 rq + ndS 13 RM) from (by first | exact oz_c7dee4c87e e330 | omega), show (0 + n324) + 0 ≤ (9804 * ndS 13 tq + 342 * ndS 13 rq + 36864 * ndS 13 RM) from (by first | exact oz_8f57d4b9d7 e331 | omega)⟩) hw hA (fun p336 H locs hp336 hw => ?_)
      obtain ⟨f334, a335, rfl, e338, e339, e340, e341, e342, e343⟩ := hp336
      have e338 : (f334 7).toInt = ((RF318 ip) 7).toInt - 1 := e338
      have e339 : (f334 8).toInt = ((RF318 ip) 8).toInt := e339
      have e340 : (f334 10).toInt = ((RF318 ip) 10).toInt := e340
      have e341 : (f334 13).toInt = ((RF318 ip) 13).toInt := e341
      have e342 : (f334 14).toInt = 0 := e342
      have e343 : (f334 11).toInt = ((RF318 ip) 11).toInt := e343
      have hw : pw D A s.heap H locs [wd_Ker cs hk kr (fun _ => none) kf ka310 (gKe pq pz307 tq308 rq309), fm 13 (fTx cs tq308 TR311 TO312 TF313 TA314), fm 8 (fPp cs pq PV), fo 13 (fRw cs rq309 RR315 RM316 RW317 RF318 RA319 RC320) ip, nA cs (RM316 ip) 36864 (RC320 ip), wd_Raw cs hx (RR315 ip) (fun k => if k = 2 then (RM316 ip) else if k = 4 then (some ((PV j332).r 1)) else none) f334 a335 (fun _ _ => none)] := hw
      refine lv_iconst (v := 1) S.x S.b d_Ker_serve_96 (by decide) ?_
      have hw : pw D A s.heap _ _ [wd_Ker cs hk kr (fun _ => none) kf ka310 (gKe pq pz307 tq308 rq309), fm 13 (fTx cs tq308 TR311 TO312 TF313 TA314), fm 8 (fPp cs pq PV), fo 13 (fRw cs rq309 RR315 RM316 RW317 RF318 RA319 RC320) ip, wd_Raw cs hx (RR315 ip) (fun k => if k = 2 then (RM316 ip) else if k = 4 then (some ((PV j332).r 1)) else none) f334 a335 (fun _ _ => none), nA cs (RM316 ip) 36864 (RC320 ip)] := hw.sub [0, 1, 2, 3, 5, 4] rfl rfl
      have hw := frw_in0 (pr := [wd_Ker cs hk kr (fun _ => none) kf ka310 (gKe pq pz307 tq308 rq309), fm 13 (fTx cs tq308 TR311 TO312 TF313 TA314), fm 8 (fPp cs pq PV)]) hw hip e325.1 hto332
      obtain ⟨RM344, hu_RM344⟩ : ∃ y : Nat → Option Nat, y = va_up RM316 ip (RM316 ip) := ⟨_, rfl⟩
      obtain ⟨RF345, hu_RF345⟩ : ∃ y : Nat → Nat → Int32, y = va_up RF318 ip f334 := ⟨_, rfl⟩
      obtain ⟨RA346, hu_RA346⟩ : ∃ y : Nat → Nat → Nat → Int32, y = va_up RA319 ip a335 := ⟨_, rfl⟩
      obtain ⟨RC347, hu_RC347⟩ : ∃ y : Nat → Nat → Int32, y = va_up RC320 ip (RC320 ip) := ⟨_, rfl⟩
      have hw : pw D A s.heap _ _ [wd_Ker cs hk kr (fun _ => none) kf ka310 (gKe pq pz307 tq308 rq309), fm 13 (fTx cs tq308 TR311 TO312 TF313 TA314), fm 8 (fPp cs pq PV), fm 13 (fRw cs rq309 RR315 RM344 RW317 RF345 RA346 RC347)] := (by rw [hu_RM344, hu_RF345, hu_RA346, hu_RC347]; exact hw)
      have hki : KnI pq PV pz307 tq308 rq309 TO312 TF313 TA314 RW317 RF345 := (by rw [hu_RF345]; exact hki.upR (show RwN ip f334 from ⟨(show (0 ≤ (f334 7).toInt ∧ (f334 7).toInt ≤ 1600) ∧ (0 ≤ (f334 10).toInt ∧ (f334 10).toInt + (f334 7).toInt ≤ 1600) ∧ ((f334 14).toInt = 0 ∨ (f334 14).toInt = 1) ∧ ((f334 14).toInt = 1 → 1 ≤ (f334 7).toInt) from by omega), (show ((f334 8).toInt) = ((ip : Nat) : Int) from by omega), (show 0 ≤ (f334 13).toInt ∧ (f334 13).toInt ≤ 3 ∧ ((f334 13).toInt = 0 ∨ 3 * ((ip : Nat) : Int) + (f334 13).toInt ≤ 12) from by omega)⟩))
      have hrm : RmI rq309 RM344 := (by rw [hu_RM344]; exact hrm.up e325.1)
      have hnd_RM344 := ndS_up 13 RM316 ip (RM316 ip) hip; rw [← hu_RM344] at hnd_RM344
      have hz14_RF345 : (RF345 ip 14).toInt = (f334 14).toInt := (by rw [hu_RF345, va_up_s]; try rfl)
      have hw : pw D A s.heap _ _ [wd_Ker cs hk kr (fun _ => none) kf ka310 (gKe pq pz307 tq308 rq309), fm 13 (fTx cs tq308 TR311 TO312 TF313 TA314), fm 13 (fRw cs rq309 RR315 RM344 RW317 RF345 RA346 RC347), fm 8 (fPp cs pq PV)] := hw.sub [0, 1, 3, 2] rfl rfl
      exact pg_iret (v := 1) S hr rfl hlk hAe hw (show (0 + k323) ≤ (5 * ndS 13 tq + 4 * ndS 13 rq + ndS 13 RM) from by first | exact oz_c18bd8c19e e330 | omega) (show (0 + n324) ≤ (9804 * ndS 13 tq + 342 * ndS 13 rq + 36864 * ndS 13 RM) from by first | exact oz_a5e7637f35 e331 | omega) (⟨pz307, tq308, rq309, ka310, TR311, TO312, TF313, TA314, RR315, RM344, RW317, RF345, RA346, RC347, rfl, (show (1 : Int32) = 0 ∨ (1 : Int32) = 1 from by first | exact Or.inl rfl | exact Or.inr rfl | exact z_or (by omega)), (show CuR pq PV rq309 RW317 ip hx from e325), (show KnI pq PV pz307 tq308 rq309 TO312 TF313 TA314 RW317 RF345 from hki), (show RoI ka310 from hro), (show RmI rq309 RM344 from hrm), (show (0 + k323) + (5 * ndS 13 tq308 + 4 * ndS 13 rq309 + ndS 13 RM344) ≤ 5 * ndS 13 tq + 4 * ndS 13 rq + ndS 13 RM from by omega), (show (0 + n324) + (9804 * ndS 13 tq308 + 342 * ndS 13 rq309 + 36864 * ndS 13 RM344) ≤ 9804 * ndS 13 tq + 342 * ndS 13 rq + 36864 * ndS 13 RM from by omega)⟩) d_Ker_serve_97
    · simp only [List.mem_cons, List.not_mem_nil, or_false] at c95
      refine lv_aload_n S.x S.b d_Ker_serve_145 rfl (lv_at hl 2 rfl) ?_
      refine lv_aload_n S.x S.b d_Ker_serve_146 rfl (lv_at hl 3 rfl) ?_
      refine lv_aload_n S.x S.b d_Ker_serve_147 rfl (lv_at hl 3 rfl) ?_
      refine px_get S k_Raw hT hw 4 0 16 (v := .int ((RF ip) 16)) rfl rfl rfl (by decide) m6_161 d_Ker_serve_148 ?_
      refine lv_if_ne (tgt := 158) S.x S.b d_Ker_serve_151 (by decide) (fun c348 => ?_) (fun c348 => ?_)
      · have nc348 : ¬ ((RF ip) 16).toInt = (0 : Int) := mt (i_eq (x := ((RF ip) 16)) (y := 0)).mpr c348
        refine lv_iload_n S.x S.b d_Ker_serve_158 rfl (lv_at hl 0 rfl) ?_
        have hw : pw D A s.heap _ _ [wd_Ker cs hk kr (fun _ => none) kf ka (gKe pq pz tq rq), fm 13 (fTx cs tq TR TO TF TA), fm 8 (fPp cs pq PV), fm 13 (fRw cs rq RR RM RW RF RA RC)] := frw_back (pr := [wd_Ker cs hk kr (fun _ => none) kf ka (gKe pq pz tq rq), fm 13 (fTx cs tq TR TO TF TA), fm 8 (fPp cs pq PV)]) hw hip hcu.1 hto1
        have hw : pw D A s.heap _ _ [wd_Ker cs hk kr (fun _ => none) kf ka (gKe pq pz tq rq), fm 13 (fTx cs tq TR TO TF TA), fm 13 (fRw cs rq RR RM RW RF RA RC), fm 8 (fPp cs pq PV)] := hw.sub [0, 1, 3, 2] rfl rfl
        refine pg_calli (pr := []) (px_runV (As := [.ref hx, .int v4]) (rest := []) S (c_k_await_R l D cs hk kr pq kf PV pz tq rq ka TR TO TF TA RR RM RW RF RA RC v4 ip hx (show v4.toInt = -1 ∨ (0 ≤ v4.toInt ∧ v4.toInt ≤ 12) from by omega) (show (RF ip 14).toInt = 1 from by first | exact g2 | omega) hki hro hrm hip hcu _ _) hT (pr := []) (pcs := [wd_Ker cs hk kr (fun _ => none) kf ka (gKe pq pz tq rq), fm 13 (fTx cs tq TR TO TF TA), fm 13 (fRw cs rq RR RM RW RF RA RC), fm 8 (fPp cs pq PV)]) hw (px_X.tot px_X.tt) (px_recv hT hw 0 0 rfl rfl rfl) m8_158 m8_155 m8_157 ms_6_2 m1_19 q_Ker_await ⟨Nat.le_of_ble_eq_true rfl, Nat.le_of_ble_eq_true rfl⟩ hl.1 rfl (Nat.le_of_ble_eq_true rfl) d_Ker_serve_159 ⟨show 0 + (5 * ndS 13 tq + 4 * ndS 13 rq + ndS 13 RM) ≤ (5 * ndS 13 tq + 4 * ndS 13 rq + ndS 13 RM) from (by first | exact oz_f06a029546 | omega), show 0 + (9804 * ndS 13 tq + 342 * ndS 13 rq + 36864 * ndS 13 RM) ≤ (9804 * ndS 13 tq + 342 * ndS 13 rq + 36864 * ndS 13 RM) from (by first | exact oz_71d01cab57 | omega)⟩) hw hA (fun v379 p378 k380 n381 H locs hp378 hw => ?_)
        dsimp only at hp378
        obtain ⟨pz364, tq365, rq366, ka367, TR368, TO369, TF370, TA371, RR372, RM373, RW374, RF375, RA376, RC377, rfl, e382, e383, e384, e385, e386, e387, e388⟩ := hp378
        have e382 := z_rng e382
        have e383 : CuR pq PV rq366 RW374 ip hx := e383
        obtain ⟨j389, hp389, hj389, hjq389, hto389⟩ := e383.2
        have e384 : KnI pq PV pz364 tq365 rq366 TO369 TF370 TA371 RW374 RF375 := e384
        have hki := e384
        have e385 : RoI ka367 := e385
        have hro := e385
        have e386 : RmI rq366 RM373 := e386
        have hrm := e386
        have e387 : k380 + (5 * ndS 13 tq365 + 4 * ndS 13 rq366 + ndS 13 RM373) ≤ 5 * ndS 13 tq + 4 * ndS 13 rq + ndS 13 RM := e387
        have e388 : n381 + (9804 * ndS 13 tq365 + 342 * ndS 13 rq366 + 36864 * ndS 13 RM373) ≤ 9804 * ndS 13 tq + 342 * ndS 13 rq + 36864 * ndS 13 RM := e388
        have hw : pw D A s.heap H locs [wd_Ker cs hk kr (fun _ => none) kf ka367 (gKe pq pz364 tq365 rq366), fm 13 (fTx cs tq365 TR368 TO369 TF370 TA371), fm 13 (fRw cs rq366 RR372 RM373 RW374 RF375 RA376 RC377), fm 8 (fPp cs pq PV)] := hw
        have lv379 := Int32.le_toInt v379
        have uv379 := Int32.toInt_lt v379
        exact pg_iret (v := v379) S hr (z_nar (by omega)) hlk hAe hw (show (0 + k380) ≤ (5 * ndS 13 tq + 4 * ndS 13 rq + ndS 13 RM) from by first | exact oz_c18bd8c19e e387 | omega) (show (0 + n381) ≤ (9804 * ndS 13 tq + 342 * ndS 13 rq + 36864 * ndS 13 RM) from by first | exact oz_a5e7637f35 e388 | omega) (⟨pz364, tq365, rq366, ka367, TR368, TO369, TF370, TA371, RR372, RM373, RW374, RF375, RA376, RC377, rfl, (show v379 = 0 ∨ v379 = 1 from by first | exact Or.inl rfl | exact Or.inr rfl | exact z_or (by omega)), (show CuR pq PV rq366 RW374 ip hx from e383), (show KnI pq PV pz364 tq365 rq366 TO369 TF370 TA371 RW374 RF375 from hki), (show RoI ka367 from hro), (show RmI rq366 RM373 from hrm), (show (0 + k380) + (5 * ndS 13 tq365 + 4 * ndS 13 rq366 + ndS 13 RM373) ≤ 5 * ndS 13 tq + 4 * ndS 13 rq + ndS 13 RM from by first | exact oz_83cb35c84f e387 | omega), (show (0 + n381) + (9804 * ndS 13 tq365 + 342 * ndS 13 rq366 + 36864 * ndS 13 RM373) ≤ 9804 * ndS 13 tq + 342 * ndS 13 rq + 36864 * ndS 13 RM from by first | exact oz_0878d13dda e388 | omega)⟩) d_Ker_serve_162
      · have nc348 : ((RF ip) 16).toInt = (0 : Int) := (i_eq (x := ((RF ip) 16)) (y := 0)).mp c348
        refine lv_iconst (v := (-1)) S.x S.b d_Ker_serve_154 (by decide) ?_
        refine lv_goto (tgt := 159) S.x S.b d_Ker_serve_155 (by decide) ?_
        have hw : pw D A s.heap _ _ [wd_Ker cs hk kr (fun _ => none) kf ka (gKe pq pz tq rq), fm 13 (fTx cs tq TR TO TF TA), fm 8 (fPp cs pq PV), fm 13 (fRw cs rq RR RM RW RF RA RC)] := frw_back (pr := [wd_Ker cs hk kr (fun _ => none) kf ka (gKe pq pz tq rq), fm 13 (fTx cs tq TR TO TF TA), fm 8 (fPp cs pq PV)]) hw hip hcu.1 hto1
        have hw : pw D A s.heap _ _ [wd_Ker cs hk kr (fun _ => none) kf ka (gKe pq pz tq rq), fm 13 (fTx cs tq TR TO TF TA), fm 13 (fRw cs rq RR RM RW RF RA RC), fm 8 (fPp cs pq PV)] := hw.sub [0, 1, 3, 2] rfl rfl
        refine pg_calli (pr := []) (px_runV (As := [.ref hx, .int (-1)]) (rest := []) S (c_k_await_R l D cs hk kr pq kf PV pz tq rq ka TR TO TF TA RR RM RW RF RA RC (-1) ip hx (show (-1 : Int) = -1 ∨ (0 ≤ (-1 : Int) ∧ (-1 : Int) ≤ 12) from by omega) (show (RF ip 14).toInt = 1 from by first | exact g2 | omega) hki hro hrm hip hcu _ _) hT (pr := []) (pcs := [wd_Ker cs hk kr (fun _ => none) kf ka (gKe pq pz tq rq), fm 13 (fTx cs tq TR TO TF TA), fm 13 (fRw cs rq RR RM RW RF RA RC), fm 8 (fPp cs pq PV)]) hw (px_X.tot px_X.tt) (px_recv hT hw 0 0 rfl rfl rfl) m8_158 m8_155 m8_157 ms_6_2 m1_19 q_Ker_await ⟨Nat.le_of_ble_eq_true rfl, Nat.le_of_ble_eq_true rfl⟩ hl.1 rfl (Nat.le_of_ble_eq_true rfl) d_Ker_serve_159 ⟨show 0 + (5 * ndS 13 tq + 4 * ndS 13 rq + ndS 13 RM) ≤ (5 * ndS 13 tq + 4 * ndS 13 rq + ndS 13 RM) from (by first | exact oz_f06a029546 | omega), show 0 + (9804 * ndS 13 tq + 342 * ndS 13 rq + 36864 * ndS 13 RM) ≤ (9804 * ndS 13 tq + 342 * ndS 13 rq + 36864 * ndS 13 RM) from (by first | exact oz_71d01cab57 | omega)⟩) hw hA (fun v419 p418 k420 n421 H locs hp418 hw => ?_)
        dsimp only at hp418
        obtain ⟨pz404, tq405, rq406, ka407, TR408, TO409, TF410, TA411, RR412, RM413, RW414, RF415, RA416, RC417, rfl, e422, e423, e424, e425, e426, e427, e428⟩ := hp418
        have e422 := z_rng e422
        have e423 : CuR pq PV rq406 RW414 ip hx := e423
        obtain ⟨j429, hp429, hj429, hjq429, hto429⟩ := e423.2
        have e424 : KnI pq PV pz404 tq405 rq406 TO409 TF410 TA411 RW414 RF415 := e424
        have hki := e424
        have e425 : RoI ka407 := e425
        have hro := e425
        have e426 : RmI rq406 RM413 := e426
        have hrm := e426
        have e427 : k420 + (5 * ndS 13 tq405 + 4 * ndS 13 rq406 + ndS 13 RM413) ≤ 5 * ndS 13 tq + 4 * ndS 13 rq + ndS 13 RM := e427
        have e428 : n421 + (9804 * ndS 13 tq405 + 342 * ndS 13 rq406 + 36864 * ndS 13 RM413) ≤ 9804 * ndS 13 tq + 342 * ndS 13 rq + 36864 * ndS 13 RM := e428
        have hw : pw D A s.heap H locs [wd_Ker cs hk kr (fun _ => none) kf ka407 (gKe pq pz404 tq405 rq406), fm 13 (fTx cs tq405 TR408 TO409 TF410 TA411), fm 13 (fRw cs rq406 RR412 RM413 RW414 RF415 RA416 RC417), fm 8 (fPp cs pq PV)] := hw
        have lv419 := Int32.le_toInt v419
        have uv419 := Int32.toInt_lt v419
        exact pg_iret (v := v419) S hr (z_nar (by omega)) hlk hAe hw (show (0 + k420) ≤ (5 * ndS 13 tq + 4 * ndS 13 rq + ndS 13 RM) from by first | exact oz_c18bd8c19e e427 | omega) (show (0 + n421) ≤ (9804 * ndS 13 tq + 342 * ndS 13 rq + 36864 * ndS 13 RM) from by first | exact oz_a5e7637f35 e428 | omega) (⟨pz404, tq405, rq406, ka407, TR408, TO409, TF410, TA411, RR412, RM413, RW414, RF415, RA416, RC417, rfl, (show v419 = 0 ∨ v419 = 1 from by first | exact Or.inl rfl | exact Or.inr rfl | exact z_or (by omega)), (show CuR pq PV rq406 RW414 ip hx from e423), (show KnI pq PV pz404 tq405 rq406 TO409 TF410 TA411 RW414 RF415 from hki), (show RoI ka407 from hro), (show RmI rq406 RM413 from hrm), (show (0 + k420) + (5 * ndS 13 tq405 + 4 * ndS 13 rq406 + ndS 13 RM413) ≤ 5 * ndS 13 tq + 4 * ndS 13 rq + ndS 13 RM from by first | exact oz_83cb35c84f e427 | omega), (show (0 + n421) + (9804 * ndS 13 tq405 + 342 * ndS 13 rq406 + 36864 * ndS 13 RM413) ≤ 9804 * ndS 13 tq + 342 * ndS 13 rq + 36864 * ndS 13 RM from by first | exact oz_0878d13dda e428 | omega)⟩) d_Ker_serve_162
    · simp only [List.mem_cons, List.not_mem_nil, or_false] at c95
      refine lv_aload_n S.x S.b d_Ker_serve_98 rfl (lv_at hl 2 rfl) ?_
      refine lv_aload_n S.x S.b d_Ker_serve_99 rfl (lv_at hl 3 rfl) ?_
      refine lv_aload_n S.x S.b d_Ker_serve_100 rfl (lv_at hl 3 rfl) ?_
      refine px_get S k_Raw hT hw 4 0 16 (v := .int ((RF ip) 16)) rfl rfl rfl (by decide) m6_161 d_Ker_serve_101 ?_
      have hw : pw D A s.heap _ _ [wd_Ker cs hk kr (fun _ => none) kf ka (gKe pq pz tq rq), fm 13 (fTx cs tq TR TO TF TA), fm 8 (fPp cs pq PV), fm 13 (fRw cs rq RR RM RW RF RA RC)] := frw_back (pr := [wd_Ker cs hk kr (fun _ => none) kf ka (gKe pq pz tq rq), fm 13 (fTx cs tq TR TO TF TA), fm 8 (fPp cs pq PV)]) hw hip hcu.1 hto1
      have hw : pw D A s.heap _ _ [wd_Ker cs hk kr (fun _ => none) kf ka (gKe pq pz tq rq), fm 13 (fTx cs tq TR TO TF TA), fm 13 (fRw cs rq RR RM RW RF RA RC), fm 8 (fPp cs pq PV)] := hw.sub [0, 1, 3, 2] rfl rfl
      refine pg_callv (pr := []) (px_runV (As := [.ref hx, .int ((RF ip) 16)]) (rest := []) S (c_k_move_R l D cs hk kr pq kf PV pz tq rq ka TR TO TF TA RR RM RW RF RA RC ((RF ip) 16) ip hx (show (RF ip 14).toInt = 1 from by first | exact g2 | omega) hki hro hrm hip hcu _ _) hT (pr := []) (pcs := [wd_Ker cs hk kr (fun _ => none) kf ka (gKe pq pz tq rq), fm 13 (fTx cs tq TR TO TF TA), fm 13 (fRw cs rq RR RM RW RF RA RC), fm 8 (fPp cs pq PV)]) hw (px_X.tot px_X.tt) (px_recv hT hw 0 0 rfl rfl rfl) m8_83 m8_80 m8_82 ms_5_11 m1_19 q_Ker_move ⟨Nat.le_of_ble_eq_true rfl, Nat.le_of_ble_eq_true rfl⟩ hl.1 rfl (Nat.le_of_ble_eq_true rfl) d_Ker_serve_104 ⟨show 0 + (5 * ndS 13 tq + 4 * ndS 13 rq + ndS 13 RM) ≤ (5 * ndS 13 tq + 4 * ndS 13 rq + ndS 13 RM) from (by first | exact oz_f06a029546 | omega), show 0 + (9804 * ndS 13 tq + 342 * ndS 13 rq + 36864 * ndS 13 RM) ≤ (9804 * ndS 13 tq + 342 * ndS 13 rq + 36864 * ndS 13 RM) from (by first | exact oz_71d01cab57 | omega)⟩) hw hA (fun p458 k460 n461 H locs hp458 hw => ?_)
      dsimp only at hp458
      obtain ⟨pz444, tq445, rq446, ka447, TR448, TO449, TF450, TA451, RR452, RM453, RW454, RF455, RA456, RC457, rfl, e462, e463, e464, e465, e466, e467⟩ := hp458
      have e462 : CuR pq PV rq446 RW454 ip hx := e462
      obtain ⟨j468, hp468, hj468, hjq468, hto468⟩ := e462.2
      have e463 : KnI pq PV pz444 tq445 rq446 TO449 TF450 TA451 RW454 RF455 := e463
      have hki := e463
      have e464 : RoI ka447 := e464
      have hro := e464
      have e465 : RmI rq446 RM453 := e465
      have hrm := e465
      have e466 : k460 + (5 * ndS 13 tq445 + 4 * ndS 13 rq446 + ndS 13 RM453) ≤ 5 * ndS 13 tq + 4 * ndS 13 rq + ndS 13 RM := e466
      have e467 : n461 + (9804 * ndS 13 tq445 + 342 * ndS 13 rq446 + 36864 * ndS 13 RM453) ≤ 9804 * ndS 13 tq + 342 * ndS 13 rq + 36864 * ndS 13 RM := e467
      have hw : pw D A s.heap H locs [wd_Ker cs hk kr (fun _ => none) kf ka447 (gKe pq pz444 tq445 rq446), fm 13 (fTx cs tq445 TR448 TO449 TF450 TA451), fm 13 (fRw cs rq446 RR452 RM453 RW454 RF455 RA456 RC457), fm 8 (fPp cs pq PV)] := hw
      refine lv_iconst (v := 1) S.x S.b d_Ker_serve_107 (by decide) ?_
      exact pg_iret (v := 1) S hr rfl hlk hAe hw (show (0 + k460) ≤ (5 * ndS 13 tq + 4 * ndS 13 rq + ndS 13 RM) from by first | exact oz_c18bd8c19e e466 | omega) (show (0 + n461) ≤ (9804 * ndS 13 tq + 342 * ndS 13 rq + 36864 * ndS 13 RM) from by first | exact oz_a5e7637f35 e467 | omega) (⟨pz444, tq445, rq446, ka447, TR448, TO449, TF450, TA451, RR452, RM453, RW454, RF455, RA456, RC457, rfl, (show (1 : Int32) = 0 ∨ (1 : Int32) = 1 from by first | exact Or.inl rfl | exact Or.inr rfl | exact z_or (by omega)), (show CuR pq PV rq446 RW454 ip hx from e462), (show KnI pq PV pz444 tq445 rq446 TO449 TF450 TA451 RW454 RF455 from hki), (show RoI ka447 from hro), (show RmI rq446 RM453 from hrm), (show (0 + k460) + (5 * ndS 13 tq445 + 4 * ndS 13 rq446 + ndS 13 RM453) ≤ 5 * ndS 13 tq + 4 * ndS 13 rq + ndS 13 RM from by first | exact oz_83cb35c84f e466 | omega), (show (0 + n461) + (9804 * ndS 13 tq445 + 342 * ndS 13 rq446 + 36864 * ndS 13 RM453) ≤ 9804 * ndS 13 tq + 342 * ndS 13 rq + 36864 * ndS 13 RM from by first | exact oz_0878d13dda e467 | omega)⟩) d_Ker_serve_108
    · simp only [List.mem_cons, List.not_mem_nil, or_false] at c95
      refine lv_aload_n S.x S.b d_Ker_serve_109 rfl (lv_at hl 3 rfl) ?_
      refine lv_iconst (v := 1) S.x S.b d_Ker_serve_110 (by decide) ?_
      refine lv_aload_n S.x S.b d_Ker_serve_111 rfl (lv_at hl 3 rfl) ?_
      refine px_get S k_Raw hT hw 4 0 16 (v := .int ((RF ip) 16)) rfl rfl rfl (by decide) m6_161 d_Ker_serve_112 ?_
      have hw : pw D A s.heap _ _ [wd_Ker cs hk kr (fun _ => none) kf ka (gKe pq pz tq rq), fm 13 (fTx cs tq TR TO TF TA), fm 8 (fPp cs pq PV), fo 13 (fRw cs rq RR RM RW RF RA RC) ip, nA cs (RM ip) 36864 (RC ip), wd_Raw cs hx (RR ip) (fun k => if k = 2 then (RM ip) else if k = 4 then (some ((PV j1).r 1)) else none) (RF ip) (RA ip) (fun _ _ => none)] := hw.sub [0, 1, 2, 3, 5, 4] rfl rfl
      refine px_callv (pr := [wd_Ker cs hk kr (fun _ => none) kf ka (gKe pq pz tq rq), fm 13 (fTx cs tq TR TO TF TA), fm 8 (fPp cs pq PV), fo 13 (fRw cs rq RR RM RW RF RA RC) ip, nA cs (RM ip) 36864 (RC ip)]) (px_runU (As := [.int 1, .int ((RF ip) 16)]) (rest := []) S (c_finish_Raw l D cs hx (RR ip) (fun _ _ => none) (RM ip) (some ((PV j1).r 1)) (RF ip) (RA ip) 1 ((RF ip) 16)   _) hT (pr := [wd_Ker cs hk kr (fun _ => none) kf ka (gKe pq pz tq rq), fm 13 (fTx cs tq TR TO TF TA), fm 8 (fPp cs pq PV), fo 13 (fRw cs rq RR RM RW RF RA RC) ip, nA cs (RM ip) 36864 (RC ip)]) (pcs := [wd_Raw cs hx (RR ip) (fun k => if k = 2 then (RM ip) else if k = 4 then (some ((PV j1).r 1)) else none) (RF ip) (RA ip) (fun _ _ => none)]) hw px_X.tt (C := "HomeSystem$RawProcess") (x := ⟨"HomeSystem$AnyProcess", "finish", "(II)V"⟩) (px_recv hT hw 5 0 rfl rfl rfl) m8_89 m8_84 m8_86 m8_85 m8_87 m1_33 rfl q_HomeSystem_AnyProcess_finish ⟨Nat.le_of_ble_eq_true rfl, Nat.le_of_ble_eq_true rfl⟩ hl.1 rfl (Nat.le_of_ble_eq_true rfl) d_Ker_serve_115 ⟨show 0 + 0 ≤ (5 * ndS 13 tq + 4 * ndS 13 rq + ndS 13 RM) from (by first | exact oz_9c199dfd7f | omega), show 0 + 0 ≤ (9804 * ndS 13 tq + 342 * ndS 13 rq + 36864 * ndS 13 RM) from (by first | exact oz_54615505fb | omega)⟩) hw hA (fun p471 H locs hp471 hw => ?_)
      obtain ⟨f469, a470, rfl, e473, e474, e475, e476, e477, e478, e479⟩ := hp471
      have e473 : (f469 3).toInt = ((RF ip) 3).toInt := e473
      have e474 : (f469 7).toInt = ((RF ip) 7).toInt := e474
      have e475 : (f469 8).toInt = ((RF ip) 8).toInt := e475
      have e476 : (f469 10).toInt = ((RF ip) 10).toInt := e476
      have e477 : (f469 13).toInt = ((RF ip) 13).toInt := e477
      have e478 : (f469 14).toInt = 0 := e478
      have e479 : (f469 11).toInt = (1 : Int) := e479
      have hw : pw D A s.heap H locs [wd_Ker cs hk kr (fun _ => none) kf ka (gKe pq pz tq rq), fm 13 (fTx cs tq TR TO TF TA), fm 8 (fPp cs pq PV), fo 13 (fRw cs rq RR RM RW RF RA RC) ip, nA cs (RM ip) 36864 (RC ip), wd_Raw cs hx (RR ip) (fun k => if k = 2 then (RM ip) else if k = 4 then (some ((PV j1).r 1)) else none) f469 a470 (fun _ _ => none)] := hw
      refine lv_iconst (v := 1) S.x S.b d_Ker_serve_118 (by decide) ?_
      have hw : pw D A s.heap _ _ [wd_Ker cs hk kr (fun _ => none) kf ka (gKe pq pz tq rq), fm 13 (fTx cs tq TR TO TF TA), fm 8 (fPp cs pq PV), fo 13 (fRw cs rq RR RM RW RF RA RC) ip, wd_Raw cs hx (RR ip) (fun k => if k = 2 then (RM ip) else if k = 4 then (some ((PV j1).r 1)) else none) f469 a470 (fun _ _ => none), nA cs (RM ip) 36864 (RC ip)] := hw.sub [0, 1, 2, 3, 5, 4] rfl rfl
      have hw := frw_in0 (pr := [wd_Ker cs hk kr (fun _ => none) kf ka (gKe pq pz tq rq), fm 13 (fTx cs tq TR TO TF TA), fm 8 (fPp cs pq PV)]) hw hip hcu.1 hto1
      obtain ⟨RM480, hu_RM480⟩ : ∃ y : Nat → Option Nat, y = va_up RM ip (RM ip) := ⟨_, rfl⟩
      obtain ⟨RF481, hu_RF481⟩ : ∃ y : Nat → Nat → Int32, y = va_up RF ip f469 := ⟨_, rfl⟩
      obtain ⟨RA482, hu_RA482⟩ : ∃ y : Nat → Nat → Nat → Int32, y = va_up RA ip a470 := ⟨_, rfl⟩
      obtain ⟨RC483, hu_RC483⟩ : ∃ y : Nat → Nat → Int32, y = va_up RC ip (RC ip) := ⟨_, rfl⟩
      have hw : pw D A s.heap _ _ [wd_Ker cs hk kr (fun _ => none) kf ka (gKe pq pz tq rq), fm 13 (fTx cs tq TR TO TF TA), fm 8 (fPp cs pq PV), fm 13 (fRw cs rq RR RM480 RW RF481 RA482 RC483)] := (by rw [hu_RM480, hu_RF481, hu_RA482, hu_RC483]; exact hw)
      have hki : KnI pq PV pz tq rq TO TF TA RW RF481 := (by rw [hu_RF481]; exact hki.upR (show RwN ip f469 from ⟨(show (0 ≤ (f469 7).toInt ∧ (f469 7).toInt ≤ 1600) ∧ (0 ≤ (f469 10).toInt ∧ (f469 10).toInt + (f469 7).toInt ≤ 1600) ∧ ((f469 14).toInt = 0 ∨ (f469 14).toInt = 1) ∧ ((f469 14).toInt = 1 → 1 ≤ (f469 7).toInt) from by omega), (show ((f469 8).toInt) = ((ip : Nat) : Int) from by omega), (show 0 ≤ (f469 13).toInt ∧ (f469 13).toInt ≤ 3 ∧ ((f469 13).toInt = 0 ∨ 3 * ((ip : Nat) : Int) + (f469 13).toInt ≤ 12) from by omega)⟩))
      have hrm : RmI rq RM480 := (by rw [hu_RM480]; exact hrm.up hcu.1)
      have hnd_RM480 := ndS_up 13 RM ip (RM ip) hip; rw [← hu_RM480] at hnd_RM480
      have hz14_RF481 : (RF481 ip 14).toInt = (f469 14).toInt := (by rw [hu_RF481, va_up_s]; try rfl)
      have hw : pw D A s.heap _ _ [wd_Ker cs hk kr (fun _ => none) kf ka (gKe pq pz tq rq), fm 13 (fTx cs tq TR TO TF TA), fm 13 (fRw cs rq RR RM480 RW RF481 RA482 RC483), fm 8 (fPp cs pq PV)] := hw.sub [0, 1, 3, 2] rfl rfl
      exact pg_iret (v := 1) S hr rfl hlk hAe hw (show 0 ≤ (5 * ndS 13 tq + 4 * ndS 13 rq + ndS 13 RM) from by first | exact oz_86e49526c7 | omega) (show 0 ≤ (9804 * ndS 13 tq + 342 * ndS 13 rq + 36864 * ndS 13 RM) from by first | exact oz_fc3b58e969 | omega) (⟨pz, tq, rq, ka, TR, TO, TF, TA, RR, RM480, RW, RF481, RA482, RC483, rfl, (show (1 : Int32) = 0 ∨ (1 : Int32) = 1 from by first | exact Or.inl rfl | exact Or.inr rfl | exact z_or (by omega)), (show CuR pq PV rq RW ip hx from hcu), (show KnI pq PV pz tq rq TO TF TA RW RF481 from hki), (show RoI ka from hro), (show RmI rq RM480 from hrm), (show 0 + (5 * ndS 13 tq + 4 * ndS 13 rq + ndS 13 RM480) ≤ 5 * ndS 13 tq + 4 * ndS 13 rq + ndS 13 RM from by omega), (show 0 + (9804 * ndS 13 tq + 342 * ndS 13 rq + 36864 * ndS 13 RM480) ≤ 9804 * ndS 13 tq + 342 * ndS 13 rq + 36864 * ndS 13 RM from by omega)⟩) d_Ker_serve_119
abbrev b_Ker_advance : ByteArray := prog_4_method_5_code
def y_Ker_advance : MethodName := ⟨"HomeSystem$Kernel", "advance", "(LHomeSystem$AnyProcess;)Z"⟩
theorem d_Ker_advance_0 : decode b_Ker_advance 0 = .ok (.iconst 0, 1) := by decide +kernel
theorem d_Ker_advance_1 : decode b_Ker_advance 1 = .ok (.istore_n 2, 1) := by decide +kernel
theorem d_Ker_advance_2 : decode b_Ker_advance 2 = .ok (.aload_n 1, 1) := by decide +kernel
theorem d_Ker_advance_3 : decode b_Ker_advance 3 = .ok (.ifnull 16, 3) := by decide +kernel
theorem d_Ker_advance_6 : decode b_Ker_advance 6 = .ok (.aload_n 1, 1) := by decide +kernel
theorem d_Ker_advance_7 : decode b_Ker_advance 7 = .ok (.getfield 78, 3) := by decide +kernel
theorem d_Ker_advance_10 : decode b_Ker_advance 10 = .ok (.bipush (-2), 2) := by decide +kernel
theorem d_Ker_advance_12 : decode b_Ker_advance 12 = .ok (.if_icmp .ne 7, 3) := by decide +kernel
theorem d_Ker_advance_15 : decode b_Ker_advance 15 = .ok (.iconst 1, 1) := by decide +kernel
theorem d_Ker_advance_16 : decode b_Ker_advance 16 = .ok (.goto 4, 3) := by decide +kernel
theorem d_Ker_advance_19 : decode b_Ker_advance 19 = .ok (.iconst 0, 1) := by decide +kernel
theorem d_Ker_advance_20 : decode b_Ker_advance 20 = .ok (.istore_n 3, 1) := by decide +kernel
theorem d_Ker_advance_21 : decode b_Ker_advance 21 = .ok (.iconst 0, 1) := by decide +kernel
theorem d_Ker_advance_22 : decode b_Ker_advance 22 = .ok (.istore 4, 2) := by decide +kernel
theorem d_Ker_advance_24 : decode b_Ker_advance 24 = .ok (.iload 4, 2) := by decide +kernel
theorem d_Ker_advance_26 : decode b_Ker_advance 26 = .ok (.ldc 65, 2) := by decide +kernel
theorem d_Ker_advance_28 : decode b_Ker_advance 28 = .ok (.if_icmp .ge 54, 3) := by decide +kernel
theorem d_Ker_advance_31 : decode b_Ker_advance 31 = .ok (.iload_n 3, 1) := by decide +kernel
theorem d_Ker_advance_32 : decode b_Ker_advance 32 = .ok (.ifCond .eq 50, 3) := by decide +kernel
theorem d_Ker_advance_35 : decode b_Ker_advance 35 = .ok (.aload_n 1, 1) := by decide +kernel
theorem d_Ker_advance_36 : decode b_Ker_advance 36 = .ok (.getfield 92, 3) := by decide +kernel
theorem d_Ker_advance_39 : decode b_Ker_advance 39 = .ok (.ifCond .eq 16, 3) := by decide +kernel
theorem d_Ker_advance_42 : decode b_Ker_advance 42 = .ok (.aload_n 0, 1) := by decide +kernel
theorem d_Ker_advance_43 : decode b_Ker_advance 43 = .ok (.aload_n 1, 1) := by decide +kernel
theorem d_Ker_advance_44 : decode b_Ker_advance 44 = .ok (.invokevirtual 95, 3) := by decide +kernel
theorem d_Ker_advance_47 : decode b_Ker_advance 47 = .ok (.ifCond .ne 8, 3) := by decide +kernel
theorem d_Ker_advance_50 : decode b_Ker_advance 50 = .ok (.iconst 0, 1) := by decide +kernel
theorem d_Ker_advance_51 : decode b_Ker_advance 51 = .ok (.istore_n 3, 1) := by decide +kernel
theorem d_Ker_advance_52 : decode b_Ker_advance 52 = .ok (.goto 24, 3) := by decide +kernel
theorem d_Ker_advance_55 : decode b_Ker_advance 55 = .ok (.iconst 1, 1) := by decide +kernel
theorem d_Ker_advance_56 : decode b_Ker_advance 56 = .ok (.istore_n 2, 1) := by decide +kernel
theorem d_Ker_advance_57 : decode b_Ker_advance 57 = .ok (.aload_n 1, 1) := by decide +kernel
theorem d_Ker_advance_58 : decode b_Ker_advance 58 = .ok (.invokevirtual 98, 3) := by decide +kernel
theorem d_Ker_advance_61 : decode b_Ker_advance 61 = .ok (.aload_n 1, 1) := by decide +kernel
theorem d_Ker_advance_62 : decode b_Ker_advance 62 = .ok (.getfield 78, 3) := by decide +kernel
theorem d_Ker_advance_65 : decode b_Ker_advance 65 = .ok (.bipush (-2), 2) := by decide +kernel
theorem d_Ker_advance_67 : decode b_Ker_advance 67 = .ok (.if_icmp .ne 7, 3) := by decide +kernel
theorem d_Ker_advance_70 : decode b_Ker_advance 70 = .ok (.iconst 1, 1) := by decide +kernel
theorem d_Ker_advance_71 : decode b_Ker_advance 71 = .ok (.goto 4, 3) := by decide +kernel
theorem d_Ker_advance_74 : decode b_Ker_advance 74 = .ok (.iconst 0, 1) := by decide +kernel
theorem d_Ker_advance_75 : decode b_Ker_advance 75 = .ok (.istore_n 3, 1) := by decide +kernel
theorem d_Ker_advance_76 : decode b_Ker_advance 76 = .ok (.iinc 4 1, 3) := by decide +kernel
theorem d_Ker_advance_79 : decode b_Ker_advance 79 = .ok (.goto (-55), 3) := by decide +kernel
theorem d_Ker_advance_82 : decode b_Ker_advance 82 = .ok (.iload_n 2, 1) := by decide +kernel
theorem d_Ker_advance_83 : decode b_Ker_advance 83 = .ok (.ireturn, 1) := by decide +kernel
theorem q_Ker_advance : px_y y_Ker_advance 1 := by unfold px_y; decide +kernel
set_option maxHeartbeats 4000000 in
set_option maxRecDepth 100000 in
theorem c_k_advance_T (l : Launch) (D : va_G) (cs : Nat → ClassId) (hk : Nat) (kr : Nat → Nat) (pq : Nat → Option Nat) (kf : Nat → Int32) (PV : Nat → Pvs) (pz : Nat → Option Nat) (tq : Nat → Option Nat) (rq : Nat → Option Nat) (ka : Nat → Nat → Int32) (TR : Nat → Nat → Nat) (TO : Nat → Option Nat) (TF : Nat → Nat → Int32) (TA : Nat → Nat → Nat → Int32) (RR : Nat → Nat → Nat) (RM : Nat → Option Nat) (RW : Nat → Option Nat) (RF : Nat → Nat → Int32) (RA : Nat → Nat → Nat → Int32) (RC : Nat → Nat → Int32) (ip hx : Nat) (g0 : 0 ≤ (kf 8).toInt) (g1 : (kf 8).toInt ≤ 100) (hki : KnI pq PV pz tq rq TO TF TA RW RF) (hro : RoI ka) (hrm : RmI rq RM) (hip : ip < 13) (hcu : CuT pq PV tq TO ip hx) : MgI l y_Ker_advance b_Ker_advance 5 (.boolean) D cs 10 420 ((5 * ndS 13 tq + 4 * ndS 13 rq + ndS 13 RM)) ((9804 * ndS 13 tq + 342 * ndS 13 rq + 36864 * ndS 13 RM)) [.ref hk, .ref hx] [wd_Ker cs hk kr (fun _ => none) kf ka (gKe pq pz tq rq), fm 13 (fTx cs tq TR TO TF TA), fm 13 (fRw cs rq RR RM RW RF RA RC), fm 8 (fPp cs pq PV)] (fun _ => True) (fun v ps => ∃ (pz' : Nat → Option Nat) (tq' : Nat → Option Nat) (rq' : Nat → Option Nat) (ka' : Nat → Nat → Int32) (TR' : Nat → Nat → Nat) (TO' : Nat → Option Nat) (TF' : Nat → Nat → Int32) (TA' : Nat → Nat → Nat → Int32) (RR' : Nat → Nat → Nat) (RM' : Nat → Option Nat) (RW' : Nat → Option Nat) (RF' : Nat → Nat → Int32) (RA' : Nat → Nat → Nat → Int32) (RC' : Nat → Nat → Int32), (ps.1 = [wd_Ker cs hk kr (fun _ => none) kf ka' (gKe pq pz' tq' rq'), fm 13 (fTx cs tq' TR' TO' TF' TA'), fm 13 (fRw cs rq' RR' RM' RW' RF' RA' RC'), fm 8 (fPp cs pq PV)]) ∧ (v = 0 ∨ v = 1) ∧ (KnI pq PV pz' tq' rq' TO' TF' TA' RW' RF') ∧ (RoI ka') ∧ (RmI rq' RM') ∧ (ps.2.1 + (5 * ndS 13 tq' + 4 * ndS 13 rq' + ndS 13 RM') ≤ 5 * ndS 13 tq + 4 * ndS 13 rq + ndS 13 RM) ∧ (ps.2.2 + (9804 * ndS 13 tq' + 342 * ndS 13 rq' + 36864 * ndS 13 RM') ≤ 9804 * ndS 13 tq + 342 * ndS 13 rq + 36864 * ndS 13 RM)) := by
  refine pg_enter (by decide) (Nat.le_of_ble_eq_true rfl) ?_
  intro p e s m below meth c A ls hAe S hr hlk hnm hA hT hX hw hl
  have hl : lv_has ls 5 [(0, .ref hk), (1, .ref hx)] := hl
  have cstm2 : ((-2) : Int32).toInt = (-2) := rfl
  have cst0 : (0 : Int32).toInt = 0 := rfl
  have cst1 : (1 : Int32).toInt = 1 := rfl
  have J24 : ∀ (n_24 : Nat) (ce_24 sl_24 : Nat) (pz_24 : Nat → Option Nat) (tq_24 : Nat → Option Nat) (rq_24 : Nat → Option Nat) (ka_24 : Nat → Nat → Int32) (TR_24 : Nat → Nat → Nat) (TO_24 : Nat → Option Nat) (TF_24 : Nat → Nat → Int32) (TA_24 : Nat → Nat → Nat → Int32) (RR_24 : Nat → Nat → Nat) (RM_24 : Nat → Option Nat) (RW_24 : Nat → Option Nat) (RF_24 : Nat → Nat → Int32) (RA_24 : Nat → Nat → Nat → Int32) (RC_24 : Nat → Nat → Int32) (x24_2 x24_3 x24_4 : Int32) (H : Heap) (locs : List Loc) (ls : Array Slot), (KnI pq PV pz_24 tq_24 rq_24 TO_24 TF_24 TA_24 RW_24 RF_24) → (RoI ka_24) → (RmI rq_24 RM_24) → (CuT pq PV tq_24 TO_24 ip hx) → (0 ≤ x24_2.toInt) → (x24_2.toInt ≤ 1) → (0 ≤ x24_3.toInt) → (x24_3.toInt ≤ 1) → (0 ≤ x24_4.toInt) → (x24_4.toInt ≤ 1000000) → (ce_24 + (5 * ndS 13 tq_24 + 4 * ndS 13 rq_24 + ndS 13 RM_24) ≤ 5 * ndS 13 tq + 4 * ndS 13 rq + ndS 13 RM) → (sl_24 + (9804 * ndS 13 tq_24 + 342 * ndS 13 rq_24 + 36864 * ndS 13 RM_24) ≤ 9804 * ndS 13 tq + 342 * ndS 13 rq + 36864 * ndS 13 RM) → 1000000 - x24_4.toInt < (n_24 : Int) → pw D A s.heap H locs [wd_Ker cs hk kr (fun _ => none) kf ka_24 (gKe pq pz_24 tq_24 rq_24), fm 13 (fTx cs tq_24 TR_24 TO_24 TF_24 TA_24), fm 13 (fRw cs rq_24 RR_24 RM_24 RW_24 RF_24 RA_24 RC_24), fm 8 (fPp cs pq PV)] → lv_has ls 5 [(0, .ref hk), (1, .ref hx), (2, .int x24_2), (3, .int x24_3), (4, .int x24_4)] → W p l e { frames := 10, cells := (5 * ndS 13 tq + 4 * ndS 13 rq + ndS 13 RM), slots := (9804 * ndS 13 tq + 342 * ndS 13 rq + 36864 * ndS 13 RM), locals := 420 } s m [.ref hk, .ref hx].toArray below meth c H locs ce_24 sl_24 (MQ below (va_Qi (fun v ps => ∃ (pz' : Nat → Option Nat) (tq' : Nat → Option Nat) (rq' : Nat → Option Nat) (ka' : Nat → Nat → Int32) (TR' : Nat → Nat → Nat) (TO' : Nat → Option Nat) (TF' : Nat → Nat → Int32) (TA' : Nat → Nat → Nat → Int32) (RR' : Nat → Nat → Nat) (RM' : Nat → Option Nat) (RW' : Nat → Option Nat) (RF' : Nat → Nat → Int32) (RA' : Nat → Nat → Nat → Int32) (RC' : Nat → Nat → Int32), (ps.1 = [wd_Ker cs hk kr (fun _ => none) kf ka' (gKe pq pz' tq' rq'), fm 13 (fTx cs tq' TR' TO' TF' TA'), fm 13 (fRw cs rq' RR' RM' RW' RF' RA' RC'), fm 8 (fPp cs pq PV)]) ∧ (v = 0 ∨ v = 1) ∧ (KnI pq PV pz' tq' rq' TO' TF' TA' RW' RF') ∧ (RoI ka') ∧ (RmI rq' RM') ∧ (ps.2.1 + (5 * ndS 13 tq' + 4 * ndS 13 rq' + ndS 13 RM') ≤ 5 * ndS 13 tq + 4 * ndS 13 rq + ndS 13 RM) ∧ (ps.2.2 + (9804 * ndS 13 tq' + 342 * ndS 13 rq' + 36864 * ndS 13 RM') ≤ 9804 * ndS 13 tq + 342 * ndS 13 rq + 36864 * ndS 13 RM)) (pg_B D (va_A ([wd_Ker cs hk kr (fun _ => none) kf ka (gKe pq pz tq rq), fm 13 (fTx cs tq TR TO TF TA), fm 13 (fRw cs rq RR RM RW RF RA RC), fm 8 (fPp cs pq PV)] : List va_W).flatten s.heap.size) s.heap.size (tot s.heap)) (va_A ([wd_Ker cs hk kr (fun _ => none) kf ka (gKe pq pz tq rq), fm 13 (fTx cs tq TR TO TF TA), fm 13 (fRw cs rq RR RM RW RF RA RC), fm 8 (fPp cs pq PV)] : List va_W).flatten s.heap.size)) [.ref hk, .ref hx].toArray s (5 * ndS 13 tq + 4 * ndS 13 rq + ndS 13 RM) (9804 * ndS 13 tq + 342 * ndS 13 rq + 36864 * ndS 13 RM) A) (F0 m 24 ls []) := by
    intro  n_24
    induction n_24 with
    | zero =>
      intro ce_24 sl_24 pz_24 tq_24 rq_24 ka_24 TR_24 TO_24 TF_24 TA_24 RR_24 RM_24 RW_24 RF_24 RA_24 RC_24 x24_2 x24_3 x24_4 H locs ls k24_0 k24_1 k24_2 k24_3 k24_4 k24_5 k24_6 k24_7 k24_8 k24_9 k24_10 k24_11 hm hw hl
      have lx24_2 := Int32.le_toInt x24_2
      have ux24_2 := Int32.toInt_lt x24_2
      have lx24_3 := Int32.le_toInt x24_3
      have ux24_3 := Int32.toInt_lt x24_3
      have lx24_4 := Int32.le_toInt x24_4
      have ux24_4 := Int32.toInt_lt x24_4
      have hki := k24_0
      have hro := k24_1
      have hrm := k24_2
      obtain ⟨j1, hp1, hj1, hjq1, hto1, hf01⟩ := k24_3.2
      exact absurd hm (by omega)
    | succ n_24 ih24 =>
      intro ce_24 sl_24 pz_24 tq_24 rq_24 ka_24 TR_24 TO_24 TF_24 TA_24 RR_24 RM_24 RW_24 RF_24 RA_24 RC_24 x24_2 x24_3 x24_4 H locs ls k24_0 k24_1 k24_2 k24_3 k24_4 k24_5 k24_6 k24_7 k24_8 k24_9 k24_10 k24_11 hm hw hl
      have lx24_2 := Int32.le_toInt x24_2
      have ux24_2 := Int32.toInt_lt x24_2
      have lx24_3 := Int32.le_toInt x24_3
      have ux24_3 := Int32.toInt_lt x24_3
      have lx24_4 := Int32.le_toInt x24_4
      have ux24_4 := Int32.toInt_lt x24_4
      have hki := k24_0
      have hro := k24_1
      have hrm := k24_2
      obtain ⟨j2, hp2, hj2, hjq2, hto2, hf02⟩ := k24_3.2
      refine lv_iload S.x S.b d_Ker_advance_24 (lv_at hl 4 rfl) ?_
      refine lv_ldc (v := 1000000) S.x S.b S.own (S.w m8_48) d_Ker_advance_26 ?_
      refine lv_icmp_ge (tgt := 82) S.x S.b d_Ker_advance_28 (by decide) (fun c3 => ?_) (fun c3 => ?_)
      · have nc3 : (1000000 : Int) ≤ x24_4.toInt := (i_le (x := 1000000) (y := x24_4)).mp c3
        refine lv_iload_n S.x S.b d_Ker_advance_82 rfl (lv_at hl 2 rfl) ?_
        exact pg_iret (v := x24_2) S hr (z_nar (by omega)) hlk hAe hw (show ce_24 ≤ (5 * ndS 13 tq + 4 * ndS 13 rq + ndS 13 RM) from by first | exact oz_dca5c4e7e4 k24_10 | omega) (show sl_24 ≤ (9804 * ndS 13 tq + 342 * ndS 13 rq + 36864 * ndS 13 RM) from by first | exact oz_f7eb847e67 k24_11 | omega) (⟨pz_24, tq_24, rq_24, ka_24, TR_24, TO_24, TF_24, TA_24, RR_24, RM_24, RW_24, RF_24, RA_24, RC_24, rfl, (show x24_2 = 0 ∨ x24_2 = 1 from by first | exact Or.inl rfl | exact Or.inr rfl | exact z_or (by omega)), (show KnI pq PV pz_24 tq_24 rq_24 TO_24 TF_24 TA_24 RW_24 RF_24 from hki), (show RoI ka_24 from hro), (show RmI rq_24 RM_24 from hrm), (show ce_24 + (5 * ndS 13 tq_24 + 4 * ndS 13 rq_24 + ndS 13 RM_24) ≤ 5 * ndS 13 tq + 4 * ndS 13 rq + ndS 13 RM from by first | exact k24_10 | omega), (show sl_24 + (9804 * ndS 13 tq_24 + 342 * ndS 13 rq_24 + 36864 * ndS 13 RM_24) ≤ 9804 * ndS 13 tq + 342 * ndS 13 rq + 36864 * ndS 13 RM from by first | exact k24_11 | omega)⟩) d_Ker_advance_83
      · have nc3 : ¬ (1000000 : Int) ≤ x24_4.toInt := mt (i_le (x := 1000000) (y := x24_4)).mpr c3
        refine lv_iload_n S.x S.b d_Ker_advance_31 rfl (lv_at hl 3 rfl) ?_
        refine lv_if_eq (tgt := 82) S.x S.b d_Ker_advance_32 (by decide) (fun c5 => ?_) (fun c5 => ?_)
        · have nc5 : x24_3.toInt = (0 : Int) := (i_eq (x := x24_3) (y := 0)).mp c5
          refine lv_iload_n S.x S.b d_Ker_advance_82 rfl (lv_at hl 2 rfl) ?_
          exact pg_iret (v := x24_2) S hr (z_nar (by omega)) hlk hAe hw (show ce_24 ≤ (5 * ndS 13 tq + 4 * ndS 13 rq + ndS 13 RM) from by first | exact oz_dca5c4e7e4 k24_10 | omega) (show sl_24 ≤ (9804 * ndS 13 tq + 342 * ndS 13 rq + 36864 * ndS 13 RM) from by first | exact oz_f7eb847e67 k24_11 | omega) (⟨pz_24, tq_24, rq_24, ka_24, TR_24, TO_24, TF_24, TA_24, RR_24, RM_24, RW_24, RF_24, RA_24, RC_24, rfl, (show x24_2 = 0 ∨ x24_2 = 1 from by first | exact Or.inl rfl | exact Or.inr rfl | exact z_or (by omega)), (show KnI pq PV pz_24 tq_24 rq_24 TO_24 TF_24 TA_24 RW_24 RF_24 from hki), (show RoI ka_24 from hro), (show RmI rq_24 RM_24 from hrm), (show ce_24 + (5 * ndS 13 tq_24 + 4 * ndS 13 rq_24 + ndS 13 RM_24) ≤ 5 * ndS 13 tq + 4 * ndS 13 rq + ndS 13 RM from by first | exact k24_10 | omega), (show sl_24 + (9804 * ndS 13 tq_24 + 342 * ndS 13 rq_24 + 36864 * ndS 13 RM_24) ≤ 9804 * ndS 13 tq + 342 * ndS 13 rq + 36864 * ndS 13 RM from by first | exact k24_11 | omega)⟩) d_Ker_advance_83
        · have nc5 : ¬ x24_3.toInt = (0 : Int) := mt (i_eq (x := x24_3) (y := 0)).mpr c5
          refine lv_aload_n S.x S.b d_Ker_advance_35 rfl (lv_at hl 1 rfl) ?_
          have hw : pw D A s.heap _ _ [wd_Ker cs hk kr (fun _ => none) kf ka_24 (gKe pq pz_24 tq_24 rq_24), fm 13 (fRw cs rq_24 RR_24 RM_24 RW_24 RF_24 RA_24 RC_24), fm 8 (fPp cs pq PV), fm 13 (fTx cs tq_24 TR_24 TO_24 TF_24 TA_24)] := hw.sub [0, 2, 3, 1] rfl rfl
          have hw : pw D A s.heap _ _ [wd_Ker cs hk kr (fun _ => none) kf ka_24 (gKe pq pz_24 tq_24 rq_24), fm 13 (fRw cs rq_24 RR_24 RM_24 RW_24 RF_24 RA_24 RC_24), fm 8 (fPp cs pq PV), fo 13 (fTx cs tq_24 TR_24 TO_24 TF_24 TA_24) ip, wd_Txp cs hx (TR_24 ip) (fun k => if k = 3 then (some hp2) else none) (TF_24 ip) (TA_24 ip) (fun _ _ => none)] := ftx_out (pr := [wd_Ker cs hk kr (fun _ => none) kf ka_24 (gKe pq pz_24 tq_24 rq_24), fm 13 (fRw cs rq_24 RR_24 RM_24 RW_24 RF_24 RA_24 RC_24), fm 8 (fPp cs pq PV)]) hw hip k24_3.1 hto2
          have htn7 : TxN ip (TF_24 ip) (TA_24 ip) := hki.2.1 ip hip _ k24_3.1
          obtain ⟨lk, ⟨i2, i3⟩, ⟨i4, i5⟩, ⟨i6, i7⟩, i8, ⟨i9, i11⟩, i10, hrt⟩ := htn7.1
          have hid7 := htn7.2.1
          have hch7 := htn7.2.2
          unfold KcI at hch7
          refine px_get S k_Txp hT hw 4 0 21 (v := .int ((TF_24 ip) 21)) rfl rfl rfl (by decide) m6_155 d_Ker_advance_36 ?_
          refine lv_if_eq (tgt := 55) S.x S.b d_Ker_advance_39 (by decide) (fun c8 => ?_) (fun c8 => ?_)
          · have nc8 : ((TF_24 ip) 21).toInt = (0 : Int) := (i_eq (x := ((TF_24 ip) 21)) (y := 0)).mp c8
            refine lv_iconst (v := 1) S.x S.b d_Ker_advance_55 (by decide) ?_
            refine lv_istore_n (lv' := [(2, .int 1), (0, .ref hk), (1, .ref hx), (3, .int x24_3), (4, .int x24_4)]) S.x S.b d_Ker_advance_56 rfl hl (by decide) rfl (fun ls hl => ?_)
            refine lv_aload_n S.x S.b d_Ker_advance_57 rfl (lv_at hl 2 rfl) ?_
            have hw : pw D A s.heap _ _ [wd_Ker cs hk kr (fun _ => none) kf ka_24 (gKe pq pz_24 tq_24 rq_24), fm 13 (fRw cs rq_24 RR_24 RM_24 RW_24 RF_24 RA_24 RC_24), fo 13 (fTx cs tq_24 TR_24 TO_24 TF_24 TA_24) ip, wd_Txp cs hx (TR_24 ip) (fun k => if k = 3 then (some hp2) else none) (TF_24 ip) (TA_24 ip) (fun _ _ => none), fm 8 (fPp cs pq PV)] := hw.sub [0, 1, 3, 4, 2] rfl rfl
            have hw : pw D A s.heap _ _ [wd_Ker cs hk kr (fun _ => none) kf ka_24 (gKe pq pz_24 tq_24 rq_24), fm 13 (fRw cs rq_24 RR_24 RM_24 RW_24 RF_24 RA_24 RC_24), fo 13 (fTx cs tq_24 TR_24 TO_24 TF_24 TA_24) ip, wd_Txp cs hx (TR_24 ip) (fun k => if k = 3 then (some hp2) else none) (TF_24 ip) (TA_24 ip) (fun _ _ => none), fo 8 (fPp cs pq PV) j2, wd_Prg cs hp2 (PV j2).r (fun k => if k = 2 then (PV j2).o else none) (PV j2).f (fun _ _ => 0) (fun _ _ => none), nA cs (PV j2).o (PV j2).fn (PV j2).fd, [(((PV j2).r 1), .inl (cs 0, (PV j2).cn, .inl (PV j2).cd))]] := fpp_out (pr := [wd_Ker cs hk kr (fun _ => none) kf ka_24 (gKe pq pz_24 tq_24 rq_24), fm 13 (fRw cs rq_24 RR_24 RM_24 RW_24 RF_24 RA_24 RC_24), fo 13 (fTx cs tq_24 TR_24 TO_24 TF_24 TA_24) ip, wd_Txp cs hx (TR_24 ip) (fun k => if k = 3 then (some hp2) else none) (TF_24 ip) (TA_24 ip) (fun _ _ => none)]) hw hj2 hjq2
            have hpv10 := hki.1 j2 hj2 _ hjq2
            have hpn10 := hpv10.1
            have hpz10 := hpv10.2.1
            have hcf := hpv10.2.2 (by omega); have hcd := hcf.1; have hfd := hcf.2.1
            have hw : pw D A s.heap _ _ [wd_Ker cs hk kr (fun _ => none) kf ka_24 (gKe pq pz_24 tq_24 rq_24), fm 13 (fRw cs rq_24 RR_24 RM_24 RW_24 RF_24 RA_24 RC_24), fo 13 (fTx cs tq_24 TR_24 TO_24 TF_24 TA_24) ip, fo 8 (fPp cs pq PV) j2, wd_Txp cs hx (TR_24 ip) (fun k => if k = 3 then (some hp2) else none) (TF_24 ip) (TA_24 ip) (fun _ _ => none), wd_Prg cs hp2 (PV j2).r (fun k => if k = 2 then (PV j2).o else none) (PV j2).f (fun _ _ => 0) (fun _ _ => none), nA cs (PV j2).o (PV j2).fn (PV j2).fd, [(((PV j2).r 1), .inl (cs 0, (PV j2).cn, .inl (PV j2).cd))]] := hw.sub [0, 1, 2, 4, 3, 5, 6, 7] rfl rfl
            refine px_callv (pr := [wd_Ker cs hk kr (fun _ => none) kf ka_24 (gKe pq pz_24 tq_24 rq_24), fm 13 (fRw cs rq_24 RR_24 RM_24 RW_24 RF_24 RA_24 RC_24), fo 13 (fTx cs tq_24 TR_24 TO_24 TF_24 TA_24) ip, fo 8 (fPp cs pq PV) j2]) (px_runA (As := []) (rest := []) S (c_Txp_go l D cs hx (TR_24 ip) (fun _ _ => none) hp2 (TF_24 ip) (TA_24 ip) (PV j2).r (PV j2).o (PV j2).f (PV j2).fn (PV j2).fd (PV j2).cn (PV j2).cd   (show TxOk ((TF_24 ip) 4) ((TF_24 ip) 5) ((TF_24 ip) 8) ((TF_24 ip) 9) ((TF_24 ip) 17) ((TF_24 ip) 21) ((TA_24 ip) 2) from ⟨(by first | exact lk | exact lk_eq lk (by omega) | exact lk_mk (by omega)), ⟨by omega, by omega⟩, ⟨by omega, by omega⟩, ⟨by omega, by omega⟩, by omega, ⟨by first | exact oz_4f50ab301a nc8 | omega, by first | exact oz_92ea0ac9cc nc8 | omega⟩, by omega, hrt⟩) (show (PV j2).fn ≤ 1000000 from by omega) (show (PV j2).cn ≤ 100000 from by omega) hfd hcd _) hT (pr := [wd_Ker cs hk kr (fun _ => none) kf ka_24 (gKe pq pz_24 tq_24 rq_24), fm 13 (fRw cs rq_24 RR_24 RM_24 RW_24 RF_24 RA_24 RC_24), fo 13 (fTx cs tq_24 TR_24 TO_24 TF_24 TA_24) ip, fo 8 (fPp cs pq PV) j2]) (pcs := [wd_Txp cs hx (TR_24 ip) (fun k => if k = 3 then (some hp2) else none) (TF_24 ip) (TA_24 ip) (fun _ _ => none), wd_Prg cs hp2 (PV j2).r (fun k => if k = 2 then (PV j2).o else none) (PV j2).f (fun _ _ => 0) (fun _ _ => none), nA cs (PV j2).o (PV j2).fn (PV j2).fd, [(((PV j2).r 1), .inl (cs 0, (PV j2).cn, .inl (PV j2).cd))]]) hw px_X.tt (C := "HomeSystem$TextProcess") (owner := "HomeSystem$AnyProcess") (x := ⟨"HomeSystem$AnyProcess", "go", "()V"⟩) (px_recv hT hw 4 0 rfl rfl rfl) m8_239 m8_163 m8_165 m8_238 m8_237 m1_35 m8_164n ⟨by decide, by decide⟩ rfl q_Txp_go ⟨Nat.le_of_ble_eq_true rfl, Nat.le_of_ble_eq_true rfl⟩ hl.1 rfl (Nat.le_of_ble_eq_true rfl) d_Ker_advance_58 ⟨show ce_24 + 0 ≤ (5 * ndS 13 tq + 4 * ndS 13 rq + ndS 13 RM) from (by first | exact oz_3e0efcc333 k24_10 | omega), show sl_24 + 0 ≤ (9804 * ndS 13 tq + 342 * ndS 13 rq + 36864 * ndS 13 RM) from (by first | exact oz_93e1379802 k24_11 | omega)⟩) hw hA (fun p13 H locs hp13 hw => ?_)
            obtain ⟨f11, a12, rfl, h19, e15, e16, e17, e18⟩ := hp13
            obtain ⟨lk, ⟨i2, i3⟩, ⟨i4, i5⟩, ⟨i6, i7⟩, i8, ⟨i9, i11⟩, i10, hrt⟩ := h19
            have e15 : (f11 17).toInt = ((TF_24 ip) 17).toInt := e15
            have e16 : (f11 15).toInt = ((TF_24 ip) 15).toInt := e16
            have e17 : (f11 20).toInt = ((TF_24 ip) 20).toInt := e17
            have e18 : R_Txp_go (PV j2).o (PV j2).fn (PV j2).fd (PV j2).cn (PV j2).cd (TF_24 ip) (TA_24 ip) f11 a12 := e18
            have hw : pw D A s.heap H locs [wd_Ker cs hk kr (fun _ => none) kf ka_24 (gKe pq pz_24 tq_24 rq_24), fm 13 (fRw cs rq_24 RR_24 RM_24 RW_24 RF_24 RA_24 RC_24), fo 13 (fTx cs tq_24 TR_24 TO_24 TF_24 TA_24) ip, fo 8 (fPp cs pq PV) j2, wd_Txp cs hx (TR_24 ip) (fun k => if k = 3 then (some hp2) else none) f11 a12 (fun _ _ => none), wd_Prg cs hp2 (PV j2).r (fun k => if k = 2 then (PV j2).o else none) (PV j2).f (fun _ _ => 0) (fun _ _ => none), nA cs (PV j2).o (PV j2).fn (PV j2).fd, [(((PV j2).r 1), .inl (cs 0, (PV j2).cn, .inl (PV j2).cd))]] := hw
            refine lv_aload_n S.x S.b d_Ker_advance_61 rfl (lv_at hl 2 rfl) ?_
            refine px_get S k_Txp hT hw 4 0 18 (v := .int (f11 18)) rfl rfl rfl (by decide) m6_139 d_Ker_advance_62 ?_
            refine lv_bipush (v := (-2)) S.x S.b d_Ker_advance_65 (by decide) ?_
            refine lv_icmp_ne (tgt := 74) S.x S.b d_Ker_advance_67 (by decide) (fun c20 => ?_) (fun c20 => ?_)
            · have nc20 : ¬ (f11 18).toInt = (-2 : Int) := mt (i_eq (x := (f11 18)) (y := (-2))).mpr c20
              refine lv_iconst (v := 0) S.x S.b d_Ker_advance_74 (by decide) ?_
              refine lv_istore_n (lv' := [(3, .int 0), (2, .int 1), (0, .ref hk), (1, .ref hx), (4, .int x24_4)]) S.x S.b d_Ker_advance_75 rfl hl (by decide) rfl (fun ls hl => ?_)
              obtain ⟨z22, ez22⟩ : ∃ y : Int32, y = x24_4 + 1 := ⟨_, rfl⟩
              have tz22 : z22.toInt = (x24_4.toInt + 1 + 2147483648) % 4294967296 - 2147483648 := by rw [ez22]; exact i_add x24_4 1
              have lz22 := Int32.le_toInt z22
              have uz22 := Int32.toInt_lt z22
              try replace tz22 : z22.toInt = x24_4.toInt + 1 := by omega
              refine lv_iinc (v := z22) (lv' := [(4, .int z22), (3, .int 0), (2, .int 1), (0, .ref hk), (1, .ref hx)]) S.x S.b d_Ker_advance_76 hl (k := 4) rfl (by rw [ez22]; rfl) (by decide) rfl (fun ls hl => ?_)
              refine lv_goto (tgt := 24) S.x S.b d_Ker_advance_79 (by decide) ?_
              have hw : pw D A s.heap _ _ [wd_Ker cs hk kr (fun _ => none) kf ka_24 (gKe pq pz_24 tq_24 rq_24), fm 13 (fRw cs rq_24 RR_24 RM_24 RW_24 RF_24 RA_24 RC_24), fo 13 (fTx cs tq_24 TR_24 TO_24 TF_24 TA_24) ip, wd_Txp cs hx (TR_24 ip) (fun k => if k = 3 then (some hp2) else none) f11 a12 (fun _ _ => none), fo 8 (fPp cs pq PV) j2, wd_Prg cs hp2 (PV j2).r (fun k => if k = 2 then (PV j2).o else none) (PV j2).f (fun _ _ => 0) (fun _ _ => none), nA cs (PV j2).o (PV j2).fn (PV j2).fd, [(((PV j2).r 1), .inl (cs 0, (PV j2).cn, .inl (PV j2).cd))]] := hw.sub [0, 1, 2, 4, 3, 5, 6, 7] rfl rfl
              have hw : pw D A s.heap _ _ [wd_Ker cs hk kr (fun _ => none) kf ka_24 (gKe pq pz_24 tq_24 rq_24), fm 13 (fRw cs rq_24 RR_24 RM_24 RW_24 RF_24 RA_24 RC_24), fo 13 (fTx cs tq_24 TR_24 TO_24 TF_24 TA_24) ip, wd_Txp cs hx (TR_24 ip) (fun k => if k = 3 then (some hp2) else none) f11 a12 (fun _ _ => none), fm 8 (fPp cs pq PV)] := fpp_back (pr := [wd_Ker cs hk kr (fun _ => none) kf ka_24 (gKe pq pz_24 tq_24 rq_24), fm 13 (fRw cs rq_24 RR_24 RM_24 RW_24 RF_24 RA_24 RC_24), fo 13 (fTx cs tq_24 TR_24 TO_24 TF_24 TA_24) ip, wd_Txp cs hx (TR_24 ip) (fun k => if k = 3 then (some hp2) else none) f11 a12 (fun _ _ => none)]) hw hj2 hjq2
              have hw : pw D A s.heap _ _ [wd_Ker cs hk kr (fun _ => none) kf ka_24 (gKe pq pz_24 tq_24 rq_24), fm 13 (fRw cs rq_24 RR_24 RM_24 RW_24 RF_24 RA_24 RC_24), fm 8 (fPp cs pq PV), fo 13 (fTx cs tq_24 TR_24 TO_24 TF_24 TA_24) ip, wd_Txp cs hx (TR_24 ip) (fun k => if k = 3 then (some hp2) else none) f11 a12 (fun _ _ => none)] := hw.sub [0, 1, 4, 2, 3] rfl rfl
              have hw := ftx_in0 (pr := [wd_Ker cs hk kr (fun _ => none) kf ka_24 (gKe pq pz_24 tq_24 rq_24), fm 13 (fRw cs rq_24 RR_24 RM_24 RW_24 RF_24 RA_24 RC_24), fm 8 (fPp cs pq PV)]) hw hip k24_3.1 hto2
              obtain ⟨TF23, hu_TF23⟩ : ∃ y : Nat → Nat → Int32, y = va_up TF_24 ip f11 := ⟨_, rfl⟩
              obtain ⟨TA24, hu_TA24⟩ : ∃ y : Nat → Nat → Nat → Int32, y = va_up TA_24 ip a12 := ⟨_, rfl⟩
              have hw : pw D A s.heap _ _ [wd_Ker cs hk kr (fun _ => none) kf ka_24 (gKe pq pz_24 tq_24 rq_24), fm 13 (fRw cs rq_24 RR_24 RM_24 RW_24 RF_24 RA_24 RC_24), fm 8 (fPp cs pq PV), fm 13 (fTx cs tq_24 TR_24 TO_24 TF23 TA24)] := (by rw [hu_TF23, hu_TA24]; exact hw)
              have hki : KnI pq PV pz_24 tq_24 rq_24 TO_24 TF23 TA24 RW_24 RF_24 := (by rw [hu_TF23, hu_TA24]; exact hki.upT (show TxN ip f11 a12 from ⟨(show TxOk (f11 4) (f11 5) (f11 8) (f11 9) (f11 17) (f11 21) (a12 2) from ⟨(by first | exact lk | exact lk_eq lk (by omega) | exact lk_mk (by omega)), ⟨by omega, by omega⟩, ⟨by omega, by omega⟩, ⟨by omega, by omega⟩, by omega, ⟨by omega, by omega⟩, by omega, hrt⟩), (show ((f11 15).toInt) = ((ip : Nat) : Int) from by omega), (show 0 ≤ (f11 20).toInt ∧ (f11 20).toInt ≤ 3 ∧ ((f11 20).toInt = 0 ∨ 3 * ((ip : Nat) : Int) + (f11 20).toInt ≤ 12) from by omega)⟩))
              have hz21_TF23 : (TF23 ip 21).toInt = (f11 21).toInt := (by rw [hu_TF23, va_up_s]; try rfl)
              have hw : pw D A s.heap _ _ [wd_Ker cs hk kr (fun _ => none) kf ka_24 (gKe pq pz_24 tq_24 rq_24), fm 13 (fTx cs tq_24 TR_24 TO_24 TF23 TA24), fm 13 (fRw cs rq_24 RR_24 RM_24 RW_24 RF_24 RA_24 RC_24), fm 8 (fPp cs pq PV)] := hw.sub [0, 3, 1, 2] rfl rfl
              exact ih24 ce_24 sl_24 pz_24 tq_24 rq_24 ka_24 TR_24 TO_24 TF23 TA24 RR_24 RM_24 RW_24 RF_24 RA_24 RC_24 (1 : Int32) (0 : Int32) z22 _ _ ls (show KnI pq PV pz_24 tq_24 rq_24 TO_24 TF23 TA24 RW_24 RF_24 from hki) (show RoI ka_24 from hro) (show RmI rq_24 RM_24 from hrm) (show CuT pq PV tq_24 TO_24 ip hx from k24_3) (show 0 ≤ (1 : Int) from by first | exact oz_19c3a41681 | omega) (show (1 : Int) ≤ 1 from by first | exact oz_f9181dc4bb | omega) (show 0 ≤ (0 : Int) from by first | exact oz_5a341f00aa | omega) (show (0 : Int) ≤ 1 from by first | exact oz_6e68cd0f48 | omega) (show 0 ≤ z22.toInt from by first | exact oz_ae613611c0 tz22 k24_8 | omega) (show z22.toInt ≤ 1000000 from by first | exact oz_596acb4ef1 tz22 nc3 | omega) (show ce_24 + (5 * ndS 13 tq_24 + 4 * ndS 13 rq_24 + ndS 13 RM_24) ≤ 5 * ndS 13 tq + 4 * ndS 13 rq + ndS 13 RM from by first | exact k24_10 | omega) (show sl_24 + (9804 * ndS 13 tq_24 + 342 * ndS 13 rq_24 + 36864 * ndS 13 RM_24) ≤ 9804 * ndS 13 tq + 342 * ndS 13 rq + 36864 * ndS 13 RM from by first | exact k24_11 | omega) (show 1000000 - z22.toInt < (n_24 : Int) from by first | exact oz_301bb61272 hm tz22 | omega) hw (lv_sub hl [3, 4, 2, 1, 0] rfl)
            · have nc20 : (f11 18).toInt = (-2 : Int) := (i_eq (x := (f11 18)) (y := (-2))).mp c20
              refine lv_iconst (v := 1) S.x S.b d_Ker_advance_70 (by decide) ?_
              refine lv_goto (tgt := 75) S.x S.b d_Ker_advance_71 (by decide) ?_
              refine lv_istore_n (lv' := [(3, .int 1), (2, .int 1), (0, .ref hk), (1, .ref hx), (4, .int x24_4)]) S.x S.b d_Ker_advance_75 rfl hl (by decide) rfl (fun ls hl => ?_)
              obtain ⟨z25, ez25⟩ : ∃ y : Int32, y = x24_4 + 1 := ⟨_, rfl⟩
              have tz25 : z25.toInt = (x24_4.toInt + 1 + 2147483648) % 4294967296 - 2147483648 := by rw [ez25]; exact i_add x24_4 1
              have lz25 := Int32.le_toInt z25
              have uz25 := Int32.toInt_lt z25
              try replace tz25 : z25.toInt = x24_4.toInt + 1 := by omega
              refine lv_iinc (v := z25) (lv' := [(4, .int z25), (3, .int 1), (2, .int 1), (0, .ref hk), (1, .ref hx)]) S.x S.b d_Ker_advance_76 hl (k := 4) rfl (by rw [ez25]; rfl) (by decide) rfl (fun ls hl => ?_)
              refine lv_goto (tgt := 24) S.x S.b d_Ker_advance_79 (by decide) ?_
              have hw : pw D A s.heap _ _ [wd_Ker cs hk kr (fun _ => none) kf ka_24 (gKe pq pz_24 tq_24 rq_24), fm 13 (fRw cs rq_24 RR_24 RM_24 RW_24 RF_24 RA_24 RC_24), fo 13 (fTx cs tq_24 TR_24 TO_24 TF_24 TA_24) ip, wd_Txp cs hx (TR_24 ip) (fun k => if k = 3 then (some hp2) else none) f11 a12 (fun _ _ => none), fo 8 (fPp cs pq PV) j2, wd_Prg cs hp2 (PV j2).r (fun k => if k = 2 then (PV j2).o else none) (PV j2).f (fun _ _ => 0) (fun _ _ => none), nA cs (PV j2).o (PV j2).fn (PV j2).fd, [(((PV j2).r 1), .inl (cs 0, (PV j2).cn, .inl (PV j2).cd))]] := hw.sub [0, 1, 2, 4, 3, 5, 6, 7] rfl rfl
              have hw : pw D A s.heap _ _ [wd_Ker cs hk kr (fun _ => none) kf ka_24 (gKe pq pz_24 tq_24 rq_24), fm 13 (fRw cs rq_24 RR_24 RM_24 RW_24 RF_24 RA_24 RC_24), fo 13 (fTx cs tq_24 TR_24 TO_24 TF_24 TA_24) ip, wd_Txp cs hx (TR_24 ip) (fun k => if k = 3 then (some hp2) else none) f11 a12 (fun _ _ => none), fm 8 (fPp cs pq PV)] := fpp_back (pr := [wd_Ker cs hk kr (fun _ => none) kf ka_24 (gKe pq pz_24 tq_24 rq_24), fm 13 (fRw cs rq_24 RR_24 RM_24 RW_24 RF_24 RA_24 RC_24), fo 13 (fTx cs tq_24 TR_24 TO_24 TF_24 TA_24) ip, wd_Txp cs hx (TR_24 ip) (fun k => if k = 3 then (some hp2) else none) f11 a12 (fun _ _ => none)]) hw hj2 hjq2
              have hw : pw D A s.heap _ _ [wd_Ker cs hk kr (fun _ => none) kf ka_24 (gKe pq pz_24 tq_24 rq_24), fm 13 (fRw cs rq_24 RR_24 RM_24 RW_24 RF_24 RA_24 RC_24), fm 8 (fPp cs pq PV), fo 13 (fTx cs tq_24 TR_24 TO_24 TF_24 TA_24) ip, wd_Txp cs hx (TR_24 ip) (fun k => if k = 3 then (some hp2) else none) f11 a12 (fun _ _ => none)] := hw.sub [0, 1, 4, 2, 3] rfl rfl
              have hw := ftx_in0 (pr := [wd_Ker cs hk kr (fun _ => none) kf ka_24 (gKe pq pz_24 tq_24 rq_24), fm 13 (fRw cs rq_24 RR_24 RM_24 RW_24 RF_24 RA_24 RC_24), fm 8 (fPp cs pq PV)]) hw hip k24_3.1 hto2
              obtain ⟨TF26, hu_TF26⟩ : ∃ y : Nat → Nat → Int32, y = va_up TF_24 ip f11 := ⟨_, rfl⟩
              obtain ⟨TA27, hu_TA27⟩ : ∃ y : Nat → Nat → Nat → Int32, y = va_up TA_24 ip a12 := ⟨_, rfl⟩
              have hw : pw D A s.heap _ _ [wd_Ker cs hk kr (fun _ => none) kf ka_24 (gKe pq pz_24 tq_24 rq_24), fm 13 (fRw cs rq_24 RR_24 RM_24 RW_24 RF_24 RA_24 RC_24), fm 8 (fPp cs pq PV), fm 13 (fTx cs tq_24 TR_24 TO_24 TF26 TA27)] := (by rw [hu_TF26, hu_TA27]; exact hw)
              have hki : KnI pq PV pz_24 tq_24 rq_24 TO_24 TF26 TA27 RW_24 RF_24 := (by rw [hu_TF26, hu_TA27]; exact hki.upT (show TxN ip f11 a12 from ⟨(show TxOk (f11 4) (f11 5) (f11 8) (f11 9) (f11 17) (f11 21) (a12 2) from ⟨(by first | exact lk | exact lk_eq lk (by omega) | exact lk_mk (by omega)), ⟨by omega, by omega⟩, ⟨by omega, by omega⟩, ⟨by omega, by omega⟩, by omega, ⟨by omega, by omega⟩, by omega, hrt⟩), (show ((f11 15).toInt) = ((ip : Nat) : Int) from by omega), (show 0 ≤ (f11 20).toInt ∧ (f11 20).toInt ≤ 3 ∧ ((f11 20).toInt = 0 ∨ 3 * ((ip : Nat) : Int) + (f11 20).toInt ≤ 12) from by omega)⟩))
              have hz21_TF26 : (TF26 ip 21).toInt = (f11 21).toInt := (by rw [hu_TF26, va_up_s]; try rfl)
              have hw : pw D A s.heap _ _ [wd_Ker cs hk kr (fun _ => none) kf ka_24 (gKe pq pz_24 tq_24 rq_24), fm 13 (fTx cs tq_24 TR_24 TO_24 TF26 TA27), fm 13 (fRw cs rq_24 RR_24 RM_24 RW_24 RF_24 RA_24 RC_24), fm 8 (fPp cs pq PV)] := hw.sub [0, 3, 1, 2] rfl rfl
              exact ih24 ce_24 sl_24 pz_24 tq_24 rq_24 ka_24 TR_24 TO_24 TF26 TA27 RR_24 RM_24 RW_24 RF_24 RA_24 RC_24 (1 : Int32) (1 : Int32) z25 _ _ ls (show KnI pq PV pz_24 tq_24 rq_24 TO_24 TF26 TA27 RW_24 RF_24 from hki) (show RoI ka_24 from hro) (show RmI rq_24 RM_24 from hrm) (show CuT pq PV tq_24 TO_24 ip hx from k24_3) (show 0 ≤ (1 : Int) from by first | exact oz_19c3a41681 | omega) (show (1 : Int) ≤ 1 from by first | exact oz_f9181dc4bb | omega) (show 0 ≤ (1 : Int) from by first | exact oz_19c3a41681 | omega) (show (1 : Int) ≤ 1 from by first | exact oz_f9181dc4bb | omega) (show 0 ≤ z25.toInt from by first | exact oz_ae613611c0 tz25 k24_8 | omega) (show z25.toInt ≤ 1000000 from by first | exact oz_596acb4ef1 tz25 nc3 | omega) (show ce_24 + (5 * ndS 13 tq_24 + 4 * ndS 13 rq_24 + ndS 13 RM_24) ≤ 5 * ndS 13 tq + 4 * ndS 13 rq + ndS 13 RM from by first | exact k24_10 | omega) (show sl_24 + (9804 * ndS 13 tq_24 + 342 * ndS 13 rq_24 + 36864 * ndS 13 RM_24) ≤ 9804 * ndS 13 tq + 342 * ndS 13 rq + 36864 * ndS 13 RM from by first | exact k24_11 | omega) (show 1000000 - z25.toInt < (n_24 : Int) from by first | exact oz_301bb61272 hm tz25 | omega) hw (lv_sub hl [3, 4, 2, 1, 0] rfl)
          · have nc8 : ¬ ((TF_24 ip) 21).toInt = (0 : Int) := mt (i_eq (x := ((TF_24 ip) 21)) (y := 0)).mpr c8
            refine lv_aload_n S.x S.b d_Ker_advance_42 rfl (lv_at hl 0 rfl) ?_
            refine lv_aload_n S.x S.b d_Ker_advance_43 rfl (lv_at hl 1 rfl) ?_
            have hw : pw D A s.heap _ _ [wd_Ker cs hk kr (fun _ => none) kf ka_24 (gKe pq pz_24 tq_24 rq_24), fm 13 (fRw cs rq_24 RR_24 RM_24 RW_24 RF_24 RA_24 RC_24), fm 8 (fPp cs pq PV), fm 13 (fTx cs tq_24 TR_24 TO_24 TF_24 TA_24)] := ftx_back (pr := [wd_Ker cs hk kr (fun _ => none) kf ka_24 (gKe pq pz_24 tq_24 rq_24), fm 13 (fRw cs rq_24 RR_24 RM_24 RW_24 RF_24 RA_24 RC_24), fm 8 (fPp cs pq PV)]) hw hip k24_3.1 hto2
            have hw : pw D A s.heap _ _ [wd_Ker cs hk kr (fun _ => none) kf ka_24 (gKe pq pz_24 tq_24 rq_24), fm 13 (fTx cs tq_24 TR_24 TO_24 TF_24 TA_24), fm 13 (fRw cs rq_24 RR_24 RM_24 RW_24 RF_24 RA_24 RC_24), fm 8 (fPp cs pq PV)] := hw.sub [0, 3, 1, 2] rfl rfl
            refine pg_calli (pr := []) (px_runV (As := [.ref hx]) (rest := []) S (c_k_serve_T l D cs hk kr pq kf PV pz_24 tq_24 rq_24 ka_24 TR_24 TO_24 TF_24 TA_24 RR_24 RM_24 RW_24 RF_24 RA_24 RC_24  ip hx (show 0 ≤ (kf 8).toInt from by first | exact g0 | omega) (show (kf 8).toInt ≤ 100 from by first | exact g1 | omega) (show (TF_24 ip 21).toInt = 1 from by omega) hki hro hrm hip k24_3 _ _) hT (pr := []) (pcs := [wd_Ker cs hk kr (fun _ => none) kf ka_24 (gKe pq pz_24 tq_24 rq_24), fm 13 (fTx cs tq_24 TR_24 TO_24 TF_24 TA_24), fm 13 (fRw cs rq_24 RR_24 RM_24 RW_24 RF_24 RA_24 RC_24), fm 8 (fPp cs pq PV)]) hw (px_X.tot px_X.tt) (px_recv hT hw 0 0 rfl rfl rfl) m8_56 m8_53 m8_55 ms_5_8 m1_19 q_Ker_serve ⟨Nat.le_of_ble_eq_true rfl, Nat.le_of_ble_eq_true rfl⟩ hl.1 rfl (Nat.le_of_ble_eq_true rfl) d_Ker_advance_44 ⟨show ce_24 + (5 * ndS 13 tq_24 + 4 * ndS 13 rq_24 + ndS 13 RM_24) ≤ (5 * ndS 13 tq + 4 * ndS 13 rq + ndS 13 RM) from (by first | exact oz_8d9c241760 k24_10 | omega), show sl_24 + (9804 * ndS 13 tq_24 + 342 * ndS 13 rq_24 + 36864 * ndS 13 RM_24) ≤ (9804 * ndS 13 tq + 342 * ndS 13 rq + 36864 * ndS 13 RM) from (by first | exact oz_7d29951c31 k24_11 | omega)⟩) hw hA (fun v57 p56 k58 n59 H locs hp56 hw => ?_)
            dsimp only at hp56
            obtain ⟨pz42, tq43, rq44, ka45, TR46, TO47, TF48, TA49, RR50, RM51, RW52, RF53, RA54, RC55, rfl, e60, e61, e62, e63, e64, e65, e66⟩ := hp56
            have e60 := z_rng e60
            have e61 : CuT pq PV tq43 TO47 ip hx := e61
            obtain ⟨j67, hp67, hj67, hjq67, hto67, hf067⟩ := e61.2
            have e62 : KnI pq PV pz42 tq43 rq44 TO47 TF48 TA49 RW52 RF53 := e62
            have hki := e62
            have e63 : RoI ka45 := e63
            have hro := e63
            have e64 : RmI rq44 RM51 := e64
            have hrm := e64
            have e65 : k58 + (5 * ndS 13 tq43 + 4 * ndS 13 rq44 + ndS 13 RM51) ≤ 5 * ndS 13 tq_24 + 4 * ndS 13 rq_24 + ndS 13 RM_24 := e65
            have e66 : n59 + (9804 * ndS 13 tq43 + 342 * ndS 13 rq44 + 36864 * ndS 13 RM51) ≤ 9804 * ndS 13 tq_24 + 342 * ndS 13 rq_24 + 36864 * ndS 13 RM_24 := e66
            have hw : pw D A s.heap H locs [wd_Ker cs hk kr (fun _ => none) kf ka45 (gKe pq pz42 tq43 rq44), fm 13 (fTx cs tq43 TR46 TO47 TF48 TA49), fm 13 (fRw cs rq44 RR50 RM51 RW52 RF53 RA54 RC55), fm 8 (fPp cs pq PV)] := hw
            have lv57 := Int32.le_toInt v57
            have uv57 := Int32.toInt_lt v57
            refine lv_if_ne (tgt := 55) S.x S.b d_Ker_advance_47 (by decide) (fun c68 => ?_) (fun c68 => ?_)
            · have nc68 : ¬ v57.toInt = (0 : Int) := mt (i_eq (x := v57) (y := 0)).mpr c68
              refine lv_iconst (v := 1) S.x S.b d_Ker_advance_55 (by decide) ?_
              refine lv_istore_n (lv' := [(2, .int 1), (0, .ref hk), (1, .ref hx), (3, .int x24_3), (4, .int x24_4)]) S.x S.b d_Ker_advance_56 rfl hl (by decide) rfl (fun ls hl => ?_)
              refine lv_aload_n S.x S.b d_Ker_advance_57 rfl (lv_at hl 2 rfl) ?_
              have hw : pw D A s.heap _ _ [wd_Ker cs hk kr (fun _ => none) kf ka45 (gKe pq pz42 tq43 rq44), fm 13 (fRw cs rq44 RR50 RM51 RW52 RF53 RA54 RC55), fm 8 (fPp cs pq PV), fm 13 (fTx cs tq43 TR46 TO47 TF48 TA49)] := hw.sub [0, 2, 3, 1] rfl rfl
              have hw : pw D A s.heap _ _ [wd_Ker cs hk kr (fun _ => none) kf ka45 (gKe pq pz42 tq43 rq44), fm 13 (fRw cs rq44 RR50 RM51 RW52 RF53 RA54 RC55), fm 8 (fPp cs pq PV), fo 13 (fTx cs tq43 TR46 TO47 TF48 TA49) ip, wd_Txp cs hx (TR46 ip) (fun k => if k = 3 then (some hp67) else none) (TF48 ip) (TA49 ip) (fun _ _ => none)] := ftx_out (pr := [wd_Ker cs hk kr (fun _ => none) kf ka45 (gKe pq pz42 tq43 rq44), fm 13 (fRw cs rq44 RR50 RM51 RW52 RF53 RA54 RC55), fm 8 (fPp cs pq PV)]) hw hip e61.1 hto67
              have htn70 : TxN ip (TF48 ip) (TA49 ip) := hki.2.1 ip hip _ e61.1
              obtain ⟨lk, ⟨i2, i3⟩, ⟨i4, i5⟩, ⟨i6, i7⟩, i8, ⟨i9, i11⟩, i10, hrt⟩ := htn70.1
              have hid70 := htn70.2.1
              have hch70 := htn70.2.2
              unfold KcI at hch70
              have hw : pw D A s.heap _ _ [wd_Ker cs hk kr (fun _ => none) kf ka45 (gKe pq pz42 tq43 rq44), fm 13 (fRw cs rq44 RR50 RM51 RW52 RF53 RA54 RC55), fo 13 (fTx cs tq43 TR46 TO47 TF48 TA49) ip, wd_Txp cs hx (TR46 ip) (fun k => if k = 3 then (some hp67) else none) (TF48 ip) (TA49 ip) (fun _ _ => none), fm 8 (fPp cs pq PV)] := hw.sub [0, 1, 3, 4, 2] rfl rfl
              have hw : pw D A s.heap _ _ [wd_Ker cs hk kr (fun _ => none) kf ka45 (gKe pq pz42 tq43 rq44), fm 13 (fRw cs rq44 RR50 RM51 RW52 RF53 RA54 RC55), fo 13 (fTx cs tq43 TR46 TO47 TF48 TA49) ip, wd_Txp cs hx (TR46 ip) (fun k => if k = 3 then (some hp67) else none) (TF48 ip) (TA49 ip) (fun _ _ => none), fo 8 (fPp cs pq PV) j67, wd_Prg cs hp67 (PV j67).r (fun k => if k = 2 then (PV j67).o else none) (PV j67).f (fun _ _ => 0) (fun _ _ => none), nA cs (PV j67).o (PV j67).fn (PV j67).fd, [(((PV j67).r 1), .inl (cs 0, (PV j67).cn, .inl (PV j67).cd))]] := fpp_out (pr := [wd_Ker cs hk kr (fun _ => none) kf ka45 (gKe pq pz42 tq43 rq44), fm 13 (fRw cs rq44 RR50 RM51 RW52 RF53 RA54 RC55), fo 13 (fTx cs tq43 TR46 TO47 TF48 TA49) ip, wd_Txp cs hx (TR46 ip) (fun k => if k = 3 then (some hp67) else none) (TF48 ip) (TA49 ip) (fun _ _ => none)]) hw hj67 hjq67
              have hpv71 := hki.1 j67 hj67 _ hjq67
              have hpn71 := hpv71.1
              have hpz71 := hpv71.2.1
              have hcf := hpv71.2.2 (by omega); have hcd := hcf.1; have hfd := hcf.2.1
              have hw : pw D A s.heap _ _ [wd_Ker cs hk kr (fun _ => none) kf ka45 (gKe pq pz42 tq43 rq44), fm 13 (fRw cs rq44 RR50 RM51 RW52 RF53 RA54 RC55), fo 13 (fTx cs tq43 TR46 TO47 TF48 TA49) ip, fo 8 (fPp cs pq PV) j67, wd_Txp cs hx (TR46 ip) (fun k => if k = 3 then (some hp67) else none) (TF48 ip) (TA49 ip) (fun _ _ => none), wd_Prg cs hp67 (PV j67).r (fun k => if k = 2 then (PV j67).o else none) (PV j67).f (fun _ _ => 0) (fun _ _ => none), nA cs (PV j67).o (PV j67).fn (PV j67).fd, [(((PV j67).r 1), .inl (cs 0, (PV j67).cn, .inl (PV j67).cd))]] := hw.sub [0, 1, 2, 4, 3, 5, 6, 7] rfl rfl
              refine px_callv (pr := [wd_Ker cs hk kr (fun _ => none) kf ka45 (gKe pq pz42 tq43 rq44), fm 13 (fRw cs rq44 RR50 RM51 RW52 RF53 RA54 RC55), fo 13 (fTx cs tq43 TR46 TO47 TF48 TA49) ip, fo 8 (fPp cs pq PV) j67]) (px_runA (As := []) (rest := []) S (c_Txp_go l D cs hx (TR46 ip) (fun _ _ => none) hp67 (TF48 ip) (TA49 ip) (PV j67).r (PV j67).o (PV j67).f (PV j67).fn (PV j67).fd (PV j67).cn (PV j67).cd   (show TxOk ((TF48 ip) 4) ((TF48 ip) 5) ((TF48 ip) 8) ((TF48 ip) 9) ((TF48 ip) 17) ((TF48 ip) 21) ((TA49 ip) 2) from ⟨(by first | exact lk | exact lk_eq lk (by omega) | exact lk_mk (by omega)), ⟨by omega, by omega⟩, ⟨by omega, by omega⟩, ⟨by omega, by omega⟩, by omega, ⟨by omega, by omega⟩, by omega, hrt⟩) (show (PV j67).fn ≤ 1000000 from by omega) (show (PV j67).cn ≤ 100000 from by omega) hfd hcd _) hT (pr := [wd_Ker cs hk kr (fun _ => none) kf ka45 (gKe pq pz42 tq43 rq44), fm 13 (fRw cs rq44 RR50 RM51 RW52 RF53 RA54 RC55), fo 13 (fTx cs tq43 TR46 TO47 TF48 TA49) ip, fo 8 (fPp cs pq PV) j67]) (pcs := [wd_Txp cs hx (TR46 ip) (fun k => if k = 3 then (some hp67) else none) (TF48 ip) (TA49 ip) (fun _ _ => none), wd_Prg cs hp67 (PV j67).r (fun k => if k = 2 then (PV j67).o else none) (PV j67).f (fun _ _ => 0) (fun _ _ => none), nA cs (PV j67).o (PV j67).fn (PV j67).fd, [(((PV j67).r 1), .inl (cs 0, (PV j67).cn, .inl (PV j67).cd))]]) hw px_X.tt (C := "HomeSystem$TextProcess") (owner := "HomeSystem$AnyProcess") (x := ⟨"HomeSystem$AnyProcess", "go", "()V"⟩) (px_recv hT hw 4 0 rfl rfl rfl) m8_239 m8_163 m8_165 m8_238 m8_237 m1_35 m8_164n ⟨by decide, by decide⟩ rfl q_Txp_go ⟨Nat.le_of_ble_eq_true rfl, Nat.le_of_ble_eq_true rfl⟩ hl.1 rfl (Nat.le_of_ble_eq_true rfl) d_Ker_advance_58 ⟨show (ce_24 + k58) + 0 ≤ (5 * ndS 13 tq + 4 * ndS 13 rq + ndS 13 RM) from (by first | exact oz_0f434a6095 k24_10 e65 | omega), show (sl_24 + n59) + 0 ≤ (9804 * ndS 13 tq + 342 * ndS 13 rq + 36864 * ndS 13 RM) from (by first | exact oz_3b764635d7 k24_11 e66 | omega)⟩) hw hA (fun p74 H locs hp74 hw => ?_)
              obtain ⟨f72, a73, rfl, h80, e76, e77, e78, e79⟩ := hp74
              obtain ⟨lk, ⟨i2, i3⟩, ⟨i4, i5⟩, ⟨i6, i7⟩, i8, ⟨i9, i11⟩, i10, hrt⟩ := h80
              have e76 : (f72 17).toInt = ((TF48 ip) 17).toInt := e76
              have e77 : (f72 15).toInt = ((TF48 ip) 15).toInt := e77
              have e78 : (f72 20).toInt = ((TF48 ip) 20).toInt := e78
              have e79 : R_Txp_go (PV j67).o (PV j67).fn (PV j67).fd (PV j67).cn (PV j67).cd (TF48 ip) (TA49 ip) f72 a73 := e79
              have hw : pw D A s.heap H locs [wd_Ker cs hk kr (fun _ => none) kf ka45 (gKe pq pz42 tq43 rq44), fm 13 (fRw cs rq44 RR50 RM51 RW52 RF53 RA54 RC55), fo 13 (fTx cs tq43 TR46 TO47 TF48 TA49) ip, fo 8 (fPp cs pq PV) j67, wd_Txp cs hx (TR46 ip) (fun k => if k = 3 then (some hp67) else none) f72 a73 (fun _ _ => none), wd_Prg cs hp67 (PV j67).r (fun k => if k = 2 then (PV j67).o else none) (PV j67).f (fun _ _ => 0) (fun _ _ => none), nA cs (PV j67).o (PV j67).fn (PV j67).fd, [(((PV j67).r 1), .inl (cs 0, (PV j67).cn, .inl (PV j67).cd))]] := hw
              refine lv_aload_n S.x S.b d_Ker_advance_61 rfl (lv_at hl 2 rfl) ?_
              refine px_get S k_Txp hT hw 4 0 18 (v := .int (f72 18)) rfl rfl rfl (by decide) m6_139 d_Ker_advance_62 ?_
              refine lv_bipush (v := (-2)) S.x S.b d_Ker_advance_65 (by decide) ?_
              refine lv_icmp_ne (tgt := 74) S.x S.b d_Ker_advance_67 (by decide) (fun c81 => ?_) (fun c81 => ?_)
              · have nc81 : ¬ (f72 18).toInt = (-2 : Int) := mt (i_eq (x := (f72 18)) (y := (-2))).mpr c81
                refine lv_iconst (v := 0) S.x S.b d_Ker_advance_74 (by decide) ?_
                refine lv_istore_n (lv' := [(3, .int 0), (2, .int 1), (0, .ref hk), (1, .ref hx), (4, .int x24_4)]) S.x S.b d_Ker_advance_75 rfl hl (by decide) rfl (fun ls hl => ?_)
                obtain ⟨z83, ez83⟩ : ∃ y : Int32, y = x24_4 + 1 := ⟨_, rfl⟩
                have tz83 : z83.toInt = (x24_4.toInt + 1 + 2147483648) % 4294967296 - 2147483648 := by rw [ez83]; exact i_add x24_4 1
                have lz83 := Int32.le_toInt z83
                have uz83 := Int32.toInt_lt z83
                try replace tz83 : z83.toInt = x24_4.toInt + 1 := by omega
                refine lv_iinc (v := z83) (lv' := [(4, .int z83), (3, .int 0), (2, .int 1), (0, .ref hk), (1, .ref hx)]) S.x S.b d_Ker_advance_76 hl (k := 4) rfl (by rw [ez83]; rfl) (by decide) rfl (fun ls hl => ?_)
                refine lv_goto (tgt := 24) S.x S.b d_Ker_advance_79 (by decide) ?_
                have hw : pw D A s.heap _ _ [wd_Ker cs hk kr (fun _ => none) kf ka45 (gKe pq pz42 tq43 rq44), fm 13 (fRw cs rq44 RR50 RM51 RW52 RF53 RA54 RC55), fo 13 (fTx cs tq43 TR46 TO47 TF48 TA49) ip, wd_Txp cs hx (TR46 ip) (fun k => if k = 3 then (some hp67) else none) f72 a73 (fun _ _ => none), fo 8 (fPp cs pq PV) j67, wd_Prg cs hp67 (PV j67).r (fun k => if k = 2 then (PV j67).o else none) (PV j67).f (fun _ _ => 0) (fun _ _ => none), nA cs (PV j67).o (PV j67).fn (PV j67).fd, [(((PV j67).r 1), .inl (cs 0, (PV j67).cn, .inl (PV j67).cd))]] := hw.sub [0, 1, 2, 4, 3, 5, 6, 7] rfl rfl
                have hw : pw D A s.heap _ _ [wd_Ker cs hk kr (fun _ => none) kf ka45 (gKe pq pz42 tq43 rq44), fm 13 (fRw cs rq44 RR50 RM51 RW52 RF53 RA54 RC55), fo 13 (fTx cs tq43 TR46 TO47 TF48 TA49) ip, wd_Txp cs hx (TR46 ip) (fun k => if k = 3 then (some hp67) else none) f72 a73 (fun _ _ => none), fm 8 (fPp cs pq PV)] := fpp_back (pr := [wd_Ker cs hk kr (fun _ => none) kf ka45 (gKe pq pz42 tq43 rq44), fm 13 (fRw cs rq44 RR50 RM51 RW52 RF53 RA54 RC55), fo 13 (fTx cs tq43 TR46 TO47 TF48 TA49) ip, wd_Txp cs hx (TR46 ip) (fun k => if k = 3 then (some hp67) else none) f72 a73 (fun _ _ => none)]) hw hj67 hjq67
                have hw : pw D A s.heap _ _ [wd_Ker cs hk kr (fun _ => none) kf ka45 (gKe pq pz42 tq43 rq44), fm 13 (fRw cs rq44 RR50 RM51 RW52 RF53 RA54 RC55), fm 8 (fPp cs pq PV), fo 13 (fTx cs tq43 TR46 TO47 TF48 TA49) ip, wd_Txp cs hx (TR46 ip) (fun k => if k = 3 then (some hp67) else none) f72 a73 (fun _ _ => none)] := hw.sub [0, 1, 4, 2, 3] rfl rfl
                have hw := ftx_in0 (pr := [wd_Ker cs hk kr (fun _ => none) kf ka45 (gKe pq pz42 tq43 rq44), fm 13 (fRw cs rq44 RR50 RM51 RW52 RF53 RA54 RC55), fm 8 (fPp cs pq PV)]) hw hip e61.1 hto67
                obtain ⟨TF84, hu_TF84⟩ : ∃ y : Nat → Nat → Int32, y = va_up TF48 ip f72 := ⟨_, rfl⟩
                obtain ⟨TA85, hu_TA85⟩ : ∃ y : Nat → Nat → Nat → Int32, y = va_up TA49 ip a73 := ⟨_, rfl⟩
                have hw : pw D A s.heap _ _ [wd_Ker cs hk kr (fun _ => none) kf ka45 (gKe pq pz42 tq43 rq44), fm 13 (fRw cs rq44 RR50 RM51 RW52 RF53 RA54 RC55), fm 8 (fPp cs pq PV), fm 13 (fTx cs tq43 TR46 TO47 TF84 TA85)] := (by rw [hu_TF84, hu_TA85]; exact hw)
                have hki : KnI pq PV pz42 tq43 rq44 TO47 TF84 TA85 RW52 RF53 := (by rw [hu_TF84, hu_TA85]; exact hki.upT (show TxN ip f72 a73 from ⟨(show TxOk (f72 4) (f72 5) (f72 8) (f72 9) (f72 17) (f72 21) (a73 2) from ⟨(by first | exact lk | exact lk_eq lk (by omega) | exact lk_mk (by omega)), ⟨by omega, by omega⟩, ⟨by omega, by omega⟩, ⟨by omega, by omega⟩, by omega, ⟨by omega, by omega⟩, by omega, hrt⟩), (show ((f72 15).toInt) = ((ip : Nat) : Int) from by omega), (show 0 ≤ (f72 20).toInt ∧ (f72 20).toInt ≤ 3 ∧ ((f72 20).toInt = 0 ∨ 3 * ((ip : Nat) : Int) + (f72 20).toInt ≤ 12) from by omega)⟩))
                have hz21_TF84 : (TF84 ip 21).toInt = (f72 21).toInt := (by rw [hu_TF84, va_up_s]; try rfl)
                have hw : pw D A s.heap _ _ [wd_Ker cs hk kr (fun _ => none) kf ka45 (gKe pq pz42 tq43 rq44), fm 13 (fTx cs tq43 TR46 TO47 TF84 TA85), fm 13 (fRw cs rq44 RR50 RM51 RW52 RF53 RA54 RC55), fm 8 (fPp cs pq PV)] := hw.sub [0, 3, 1, 2] rfl rfl
                exact ih24 (ce_24 + k58) (sl_24 + n59) pz42 tq43 rq44 ka45 TR46 TO47 TF84 TA85 RR50 RM51 RW52 RF53 RA54 RC55 (1 : Int32) (0 : Int32) z83 _ _ ls (show KnI pq PV pz42 tq43 rq44 TO47 TF84 TA85 RW52 RF53 from hki) (show RoI ka45 from hro) (show RmI rq44 RM51 from hrm) (show CuT pq PV tq43 TO47 ip hx from e61) (show 0 ≤ (1 : Int) from by first | exact oz_19c3a41681 | omega) (show (1 : Int) ≤ 1 from by first | exact oz_f9181dc4bb | omega) (show 0 ≤ (0 : Int) from by first | exact oz_5a341f00aa | omega) (show (0 : Int) ≤ 1 from by first | exact oz_6e68cd0f48 | omega) (show 0 ≤ z83.toInt from by first | exact oz_ae613611c0 tz83 k24_8 | omega) (show z83.toInt ≤ 1000000 from by first | exact oz_596acb4ef1 tz83 nc3 | omega) (show (ce_24 + k58) + (5 * ndS 13 tq43 + 4 * ndS 13 rq44 + ndS 13 RM51) ≤ 5 * ndS 13 tq + 4 * ndS 13 rq + ndS 13 RM from by first | exact oz_09730e4356 k24_10 e65 | omega) (show (sl_24 + n59) + (9804 * ndS 13 tq43 + 342 * ndS 13 rq44 + 36864 * ndS 13 RM51) ≤ 9804 * ndS 13 tq + 342 * ndS 13 rq + 36864 * ndS 13 RM from by first | exact oz_0d0bbc14c3 k24_11 e66 | omega) (show 1000000 - z83.toInt < (n_24 : Int) from by first | exact oz_301bb61272 hm tz83 | omega) hw (lv_sub hl [3, 4, 2, 1, 0] rfl)
              · have nc81 : (f72 18).toInt = (-2 : Int) := (i_eq (x := (f72 18)) (y := (-2))).mp c81
                refine lv_iconst (v := 1) S.x S.b d_Ker_advance_70 (by decide) ?_
                refine lv_goto (tgt := 75) S.x S.b d_Ker_advance_71 (by decide) ?_
                refine lv_istore_n (lv' := [(3, .int 1), (2, .int 1), (0, .ref hk), (1, .ref hx), (4, .int x24_4)]) S.x S.b d_Ker_advance_75 rfl hl (by decide) rfl (fun ls hl => ?_)
                obtain ⟨z86, ez86⟩ : ∃ y : Int32, y = x24_4 + 1 := ⟨_, rfl⟩
                have tz86 : z86.toInt = (x24_4.toInt + 1 + 2147483648) % 4294967296 - 2147483648 := by rw [ez86]; exact i_add x24_4 1
                have lz86 := Int32.le_toInt z86
                have uz86 := Int32.toInt_lt z86
                try replace tz86 : z86.toInt = x24_4.toInt + 1 := by omega
                refine lv_iinc (v := z86) (lv' := [(4, .int z86), (3, .int 1), (2, .int 1), (0, .ref hk), (1, .ref hx)]) S.x S.b d_Ker_advance_76 hl (k := 4) rfl (by rw [ez86]; rfl) (by decide) rfl (fun ls hl => ?_)
                refine lv_goto (tgt := 24) S.x S.b d_Ker_advance_79 (by decide) ?_
                have hw : pw D A s.heap _ _ [wd_Ker cs hk kr (fun _ => none) kf ka45 (gKe pq pz42 tq43 rq44), fm 13 (fRw cs rq44 RR50 RM51 RW52 RF53 RA54 RC55), fo 13 (fTx cs tq43 TR46 TO47 TF48 TA49) ip, wd_Txp cs hx (TR46 ip) (fun k => if k = 3 then (some hp67) else none) f72 a73 (fun _ _ => none), fo 8 (fPp cs pq PV) j67, wd_Prg cs hp67 (PV j67).r (fun k => if k = 2 then (PV j67).o else none) (PV j67).f (fun _ _ => 0) (fun _ _ => none), nA cs (PV j67).o (PV j67).fn (PV j67).fd, [(((PV j67).r 1), .inl (cs 0, (PV j67).cn, .inl (PV j67).cd))]] := hw.sub [0, 1, 2, 4, 3, 5, 6, 7] rfl rfl
                have hw : pw D A s.heap _ _ [wd_Ker cs hk kr (fun _ => none) kf ka45 (gKe pq pz42 tq43 rq44), fm 13 (fRw cs rq44 RR50 RM51 RW52 RF53 RA54 RC55), fo 13 (fTx cs tq43 TR46 TO47 TF48 TA49) ip, wd_Txp cs hx (TR46 ip) (fun k => if k = 3 then (some hp67) else none) f72 a73 (fun _ _ => none), fm 8 (fPp cs pq PV)] := fpp_back (pr := [wd_Ker cs hk kr (fun _ => none) kf ka45 (gKe pq pz42 tq43 rq44), fm 13 (fRw cs rq44 RR50 RM51 RW52 RF53 RA54 RC55), fo 13 (fTx cs tq43 TR46 TO47 TF48 TA49) ip, wd_Txp cs hx (TR46 ip) (fun k => if k = 3 then (some hp67) else none) f72 a73 (fun _ _ => none)]) hw hj67 hjq67
                have hw : pw D A s.heap _ _ [wd_Ker cs hk kr (fun _ => none) kf ka45 (gKe pq pz42 tq43 rq44), fm 13 (fRw cs rq44 RR50 RM51 RW52 RF53 RA54 RC55), fm 8 (fPp cs pq PV), fo 13 (fTx cs tq43 TR46 TO47 TF48 TA49) ip, wd_Txp cs hx (TR46 ip) (fun k => if k = 3 then (some hp67) else none) f72 a73 (fun _ _ => none)] := hw.sub [0, 1, 4, 2, 3] rfl rfl
                have hw := ftx_in0 (pr := [wd_Ker cs hk kr (fun _ => none) kf ka45 (gKe pq pz42 tq43 rq44), fm 13 (fRw cs rq44 RR50 RM51 RW52 RF53 RA54 RC55), fm 8 (fPp cs pq PV)]) hw hip e61.1 hto67
                obtain ⟨TF87, hu_TF87⟩ : ∃ y : Nat → Nat → Int32, y = va_up TF48 ip f72 := ⟨_, rfl⟩
                obtain ⟨TA88, hu_TA88⟩ : ∃ y : Nat → Nat → Nat → Int32, y = va_up TA49 ip a73 := ⟨_, rfl⟩
                have hw : pw D A s.heap _ _ [wd_Ker cs hk kr (fun _ => none) kf ka45 (gKe pq pz42 tq43 rq44), fm 13 (fRw cs rq44 RR50 RM51 RW52 RF53 RA54 RC55), fm 8 (fPp cs pq PV), fm 13 (fTx cs tq43 TR46 TO47 TF87 TA88)] := (by rw [hu_TF87, hu_TA88]; exact hw)
                have hki : KnI pq PV pz42 tq43 rq44 TO47 TF87 TA88 RW52 RF53 := (by rw [hu_TF87, hu_TA88]; exact hki.upT (show TxN ip f72 a73 from ⟨(show TxOk (f72 4) (f72 5) (f72 8) (f72 9) (f72 17) (f72 21) (a73 2) from ⟨(by first | exact lk | exact lk_eq lk (by omega) | exact lk_mk (by omega)), ⟨by omega, by omega⟩, ⟨by omega, by omega⟩, ⟨by omega, by omega⟩, by omega, ⟨by omega, by omega⟩, by omega, hrt⟩), (show ((f72 15).toInt) = ((ip : Nat) : Int) from by omega), (show 0 ≤ (f72 20).toInt ∧ (f72 20).toInt ≤ 3 ∧ ((f72 20).toInt = 0 ∨ 3 * ((ip : Nat) : Int) + (f72 20).toInt ≤ 12) from by omega)⟩))
                have hz21_TF87 : (TF87 ip 21).toInt = (f72 21).toInt := (by rw [hu_TF87, va_up_s]; try rfl)
                have hw : pw D A s.heap _ _ [wd_Ker cs hk kr (fun _ => none) kf ka45 (gKe pq pz42 tq43 rq44), fm 13 (fTx cs tq43 TR46 TO47 TF87 TA88), fm 13 (fRw cs rq44 RR50 RM51 RW52 RF53 RA54 RC55), fm 8 (fPp cs pq PV)] := hw.sub [0, 3, 1, 2] rfl rfl
                exact ih24 (ce_24 + k58) (sl_24 + n59) pz42 tq43 rq44 ka45 TR46 TO47 TF87 TA88 RR50 RM51 RW52 RF53 RA54 RC55 (1 : Int32) (1 : Int32) z86 _ _ ls (show KnI pq PV pz42 tq43 rq44 TO47 TF87 TA88 RW52 RF53 from hki) (show RoI ka45 from hro) (show RmI rq44 RM51 from hrm) (show CuT pq PV tq43 TO47 ip hx from e61) (show 0 ≤ (1 : Int) from by first | exact oz_19c3a41681 | omega) (show (1 : Int) ≤ 1 from by first | exact oz_f9181dc4bb | omega) (show 0 ≤ (1 : Int) from by first | exact oz_19c3a41681 | omega) (show (1 : Int) ≤ 1 from by first | exact oz_f9181dc4bb | omega) (show 0 ≤ z86.toInt from by first | exact oz_ae613611c0 tz86 k24_8 | omega) (show z86.toInt ≤ 1000000 from by first | exact oz_596acb4ef1 tz86 nc3 | omega) (show (ce_24 + k58) + (5 * ndS 13 tq43 + 4 * ndS 13 rq44 + ndS 13 RM51) ≤ 5 * ndS 13 tq + 4 * ndS 13 rq + ndS 13 RM from by first | exact oz_09730e4356 k24_10 e65 | omega) (show (sl_24 + n59) + (9804 * ndS 13 tq43 + 342 * ndS 13 rq44 + 36864 * ndS 13 RM51) ≤ 9804 * ndS 13 tq + 342 * ndS 13 rq + 36864 * ndS 13 RM from by first | exact oz_0d0bbc14c3 k24_11 e66 | omega) (show 1000000 - z86.toInt < (n_24 : Int) from by first | exact oz_301bb61272 hm tz86 | omega) hw (lv_sub hl [3, 4, 2, 1, 0] rfl)
            · have nc68 : v57.toInt = (0 : Int) := (i_eq (x := v57) (y := 0)).mp c68
              refine lv_iconst (v := 0) S.x S.b d_Ker_advance_50 (by decide) ?_
              refine lv_istore_n (lv' := [(3, .int 0), (0, .ref hk), (1, .ref hx), (2, .int x24_2), (4, .int x24_4)]) S.x S.b d_Ker_advance_51 rfl hl (by decide) rfl (fun ls hl => ?_)
              refine lv_goto (tgt := 76) S.x S.b d_Ker_advance_52 (by decide) ?_
              obtain ⟨z89, ez89⟩ : ∃ y : Int32, y = x24_4 + 1 := ⟨_, rfl⟩
              have tz89 : z89.toInt = (x24_4.toInt + 1 + 2147483648) % 4294967296 - 2147483648 := by rw [ez89]; exact i_add x24_4 1
              have lz89 := Int32.le_toInt z89
              have uz89 := Int32.toInt_lt z89
              try replace tz89 : z89.toInt = x24_4.toInt + 1 := by omega
              refine lv_iinc (v := z89) (lv' := [(4, .int z89), (3, .int 0), (0, .ref hk), (1, .ref hx), (2, .int x24_2)]) S.x S.b d_Ker_advance_76 hl (k := 4) rfl (by rw [ez89]; rfl) (by decide) rfl (fun ls hl => ?_)
              refine lv_goto (tgt := 24) S.x S.b d_Ker_advance_79 (by decide) ?_
              exact ih24 (ce_24 + k58) (sl_24 + n59) pz42 tq43 rq44 ka45 TR46 TO47 TF48 TA49 RR50 RM51 RW52 RF53 RA54 RC55 x24_2 (0 : Int32) z89 _ _ ls (show KnI pq PV pz42 tq43 rq44 TO47 TF48 TA49 RW52 RF53 from hki) (show RoI ka45 from hro) (show RmI rq44 RM51 from hrm) (show CuT pq PV tq43 TO47 ip hx from e61) (show 0 ≤ x24_2.toInt from by first | exact k24_4 | omega) (show x24_2.toInt ≤ 1 from by first | exact k24_5 | omega) (show 0 ≤ (0 : Int) from by first | exact oz_5a341f00aa | omega) (show (0 : Int) ≤ 1 from by first | exact oz_6e68cd0f48 | omega) (show 0 ≤ z89.toInt from by first | exact oz_ae613611c0 tz89 k24_8 | omega) (show z89.toInt ≤ 1000000 from by first | exact oz_596acb4ef1 tz89 nc3 | omega) (show (ce_24 + k58) + (5 * ndS 13 tq43 + 4 * ndS 13 rq44 + ndS 13 RM51) ≤ 5 * ndS 13 tq + 4 * ndS 13 rq + ndS 13 RM from by first | exact oz_09730e4356 k24_10 e65 | omega) (show (sl_24 + n59) + (9804 * ndS 13 tq43 + 342 * ndS 13 rq44 + 36864 * ndS 13 RM51) ≤ 9804 * ndS 13 tq + 342 * ndS 13 rq + 36864 * ndS 13 RM from by first | exact oz_0d0bbc14c3 k24_11 e66 | omega) (show 1000000 - z89.toInt < (n_24 : Int) from by first | exact oz_301bb61272 hm tz89 | omega) hw (lv_sub hl [2, 3, 4, 1, 0] rfl)
  refine lv_iconst (v := 0) S.x S.b d_Ker_advance_0 (by decide) ?_
  obtain ⟨j90, hp90, hj90, hjq90, hto90, hf090⟩ := hcu.2
  refine lv_istore_n (lv' := [(2, .int 0), (0, .ref hk), (1, .ref hx)]) S.x S.b d_Ker_advance_1 rfl hl (by decide) rfl (fun ls hl => ?_)
  refine lv_aload_n S.x S.b d_Ker_advance_2 rfl (lv_at hl 2 rfl) ?_
  refine lv_ifnull S.x S.b d_Ker_advance_3 ?_
  refine lv_aload_n S.x S.b d_Ker_advance_6 rfl (lv_at hl 2 rfl) ?_
  have hw : pw D A s.heap _ _ [wd_Ker cs hk kr (fun _ => none) kf ka (gKe pq pz tq rq), fm 13 (fRw cs rq RR RM RW RF RA RC), fm 8 (fPp cs pq PV), fm 13 (fTx cs tq TR TO TF TA)] := hw.sub [0, 2, 3, 1] rfl rfl
  have hw : pw D A s.heap _ _ [wd_Ker cs hk kr (fun _ => none) kf ka (gKe pq pz tq rq), fm 13 (fRw cs rq RR RM RW RF RA RC), fm 8 (fPp cs pq PV), fo 13 (fTx cs tq TR TO TF TA) ip, wd_Txp cs hx (TR ip) (fun k => if k = 3 then (some hp90) else none) (TF ip) (TA ip) (fun _ _ => none)] := ftx_out (pr := [wd_Ker cs hk kr (fun _ => none) kf ka (gKe pq pz tq rq), fm 13 (fRw cs rq RR RM RW RF RA RC), fm 8 (fPp cs pq PV)]) hw hip hcu.1 hto90
  have htn91 : TxN ip (TF ip) (TA ip) := hki.2.1 ip hip _ hcu.1
  obtain ⟨lk, ⟨i2, i3⟩, ⟨i4, i5⟩, ⟨i6, i7⟩, i8, ⟨i9, i11⟩, i10, hrt⟩ := htn91.1
  have hid91 := htn91.2.1
  have hch91 := htn91.2.2
  unfold KcI at hch91
  refine px_get S k_Txp hT hw 4 0 18 (v := .int ((TF ip) 18)) rfl rfl rfl (by decide) m6_139 d_Ker_advance_7 ?_
  refine lv_bipush (v := (-2)) S.x S.b d_Ker_advance_10 (by decide) ?_
  refine lv_icmp_ne (tgt := 19) S.x S.b d_Ker_advance_12 (by decide) (fun c92 => ?_) (fun c92 => ?_)
  · have nc92 : ¬ ((TF ip) 18).toInt = (-2 : Int) := mt (i_eq (x := ((TF ip) 18)) (y := (-2))).mpr c92
    refine lv_iconst (v := 0) S.x S.b d_Ker_advance_19 (by decide) ?_
    refine lv_istore_n (lv' := [(3, .int 0), (2, .int 0), (0, .ref hk), (1, .ref hx)]) S.x S.b d_Ker_advance_20 rfl hl (by decide) rfl (fun ls hl => ?_)
    refine lv_iconst (v := 0) S.x S.b d_Ker_advance_21 (by decide) ?_
    refine lv_istore (lv' := [(4, .int 0), (3, .int 0), (2, .int 0), (0, .ref hk), (1, .ref hx)]) S.x S.b d_Ker_advance_22 hl (by decide) rfl (fun ls hl => ?_)
    have hw : pw D A s.heap _ _ [wd_Ker cs hk kr (fun _ => none) kf ka (gKe pq pz tq rq), fm 13 (fRw cs rq RR RM RW RF RA RC), fm 8 (fPp cs pq PV), fm 13 (fTx cs tq TR TO TF TA)] := ftx_back (pr := [wd_Ker cs hk kr (fun _ => none) kf ka (gKe pq pz tq rq), fm 13 (fRw cs rq RR RM RW RF RA RC), fm 8 (fPp cs pq PV)]) hw hip hcu.1 hto90
    have hw : pw D A s.heap _ _ [wd_Ker cs hk kr (fun _ => none) kf ka (gKe pq pz tq rq), fm 13 (fTx cs tq TR TO TF TA), fm 13 (fRw cs rq RR RM RW RF RA RC), fm 8 (fPp cs pq PV)] := hw.sub [0, 3, 1, 2] rfl rfl
    exact J24 ((1000000 - (0 : Int)).toNat + 1) 0 0 pz tq rq ka TR TO TF TA RR RM RW RF RA RC (0 : Int32) (0 : Int32) (0 : Int32) _ _ ls (show KnI pq PV pz tq rq TO TF TA RW RF from hki) (show RoI ka from hro) (show RmI rq RM from hrm) (show CuT pq PV tq TO ip hx from hcu) (show 0 ≤ (0 : Int) from by first | exact oz_5a341f00aa | omega) (show (0 : Int) ≤ 1 from by first | exact oz_6e68cd0f48 | omega) (show 0 ≤ (0 : Int) from by first | exact oz_5a341f00aa | omega) (show (0 : Int) ≤ 1 from by first | exact oz_6e68cd0f48 | omega) (show 0 ≤ (0 : Int) from by first | exact oz_5a341f00aa | omega) (show (0 : Int) ≤ 1000000 from by first | exact oz_302d31b646 | omega) (show 0 + (5 * ndS 13 tq + 4 * ndS 13 rq + ndS 13 RM) ≤ 5 * ndS 13 tq + 4 * ndS 13 rq + ndS 13 RM from by first | exact oz_9d19b050ad | omega) (show 0 + (9804 * ndS 13 tq + 342 * ndS 13 rq + 36864 * ndS 13 RM) ≤ 9804 * ndS 13 tq + 342 * ndS 13 rq + 36864 * ndS 13 RM from by first | exact oz_b5592d0ae7 | omega) (show 1000000 - (0 : Int) < ((((1000000 - (0 : Int)).toNat + 1 : Nat) : Int) : Int) from by first | exact oz_natlt | omega) hw (lv_sub hl [3, 4, 2, 1, 0] rfl)
  · have nc92 : ((TF ip) 18).toInt = (-2 : Int) := (i_eq (x := ((TF ip) 18)) (y := (-2))).mp c92
    refine lv_iconst (v := 1) S.x S.b d_Ker_advance_15 (by decide) ?_
    refine lv_goto (tgt := 20) S.x S.b d_Ker_advance_16 (by decide) ?_
    refine lv_istore_n (lv' := [(3, .int 1), (2, .int 0), (0, .ref hk), (1, .ref hx)]) S.x S.b d_Ker_advance_20 rfl hl (by decide) rfl (fun ls hl => ?_)
    refine lv_iconst (v := 0) S.x S.b d_Ker_advance_21 (by decide) ?_
    refine lv_istore (lv' := [(4, .int 0), (3, .int 1), (2, .int 0), (0, .ref hk), (1, .ref hx)]) S.x S.b d_Ker_advance_22 hl (by decide) rfl (fun ls hl => ?_)
    have hw : pw D A s.heap _ _ [wd_Ker cs hk kr (fun _ => none) kf ka (gKe pq pz tq rq), fm 13 (fRw cs rq RR RM RW RF RA RC), fm 8 (fPp cs pq PV), fm 13 (fTx cs tq TR TO TF TA)] := ftx_back (pr := [wd_Ker cs hk kr (fun _ => none) kf ka (gKe pq pz tq rq), fm 13 (fRw cs rq RR RM RW RF RA RC), fm 8 (fPp cs pq PV)]) hw hip hcu.1 hto90
    have hw : pw D A s.heap _ _ [wd_Ker cs hk kr (fun _ => none) kf ka (gKe pq pz tq rq), fm 13 (fTx cs tq TR TO TF TA), fm 13 (fRw cs rq RR RM RW RF RA RC), fm 8 (fPp cs pq PV)] := hw.sub [0, 3, 1, 2] rfl rfl
    exact J24 ((1000000 - (0 : Int)).toNat + 1) 0 0 pz tq rq ka TR TO TF TA RR RM RW RF RA RC (0 : Int32) (1 : Int32) (0 : Int32) _ _ ls (show KnI pq PV pz tq rq TO TF TA RW RF from hki) (show RoI ka from hro) (show RmI rq RM from hrm) (show CuT pq PV tq TO ip hx from hcu) (show 0 ≤ (0 : Int) from by first | exact oz_5a341f00aa | omega) (show (0 : Int) ≤ 1 from by first | exact oz_6e68cd0f48 | omega) (show 0 ≤ (1 : Int) from by first | exact oz_19c3a41681 | omega) (show (1 : Int) ≤ 1 from by first | exact oz_f9181dc4bb | omega) (show 0 ≤ (0 : Int) from by first | exact oz_5a341f00aa | omega) (show (0 : Int) ≤ 1000000 from by first | exact oz_302d31b646 | omega) (show 0 + (5 * ndS 13 tq + 4 * ndS 13 rq + ndS 13 RM) ≤ 5 * ndS 13 tq + 4 * ndS 13 rq + ndS 13 RM from by first | exact oz_9d19b050ad | omega) (show 0 + (9804 * ndS 13 tq + 342 * ndS 13 rq + 36864 * ndS 13 RM) ≤ 9804 * ndS 13 tq + 342 * ndS 13 rq + 36864 * ndS 13 RM from by first | exact oz_b5592d0ae7 | omega) (show 1000000 - (0 : Int) < ((((1000000 - (0 : Int)).toNat + 1 : Nat) : Int) : Int) from by first | exact oz_natlt | omega) hw (lv_sub hl [3, 4, 2, 1, 0] rfl)
set_option maxHeartbeats 4000000 in
set_option maxRecDepth 100000 in
theorem c_k_advance_R (l : Launch) (D : va_G) (cs : Nat → ClassId) (hk : Nat) (kr : Nat → Nat) (pq : Nat → Option Nat) (kf : Nat → Int32) (PV : Nat → Pvs) (pz : Nat → Option Nat) (tq : Nat → Option Nat) (rq : Nat → Option Nat) (ka : Nat → Nat → Int32) (TR : Nat → Nat → Nat) (TO : Nat → Option Nat) (TF : Nat → Nat → Int32) (TA : Nat → Nat → Nat → Int32) (RR : Nat → Nat → Nat) (RM : Nat → Option Nat) (RW : Nat → Option Nat) (RF : Nat → Nat → Int32) (RA : Nat → Nat → Nat → Int32) (RC : Nat → Nat → Int32) (ip hx : Nat) (g0 : 0 ≤ (kf 8).toInt) (g1 : (kf 8).toInt ≤ 100) (hki : KnI pq PV pz tq rq TO TF TA RW RF) (hro : RoI ka) (hrm : RmI rq RM) (hip : ip < 13) (hcu : CuR pq PV rq RW ip hx) : MgI l y_Ker_advance b_Ker_advance 5 (.boolean) D cs 10 420 ((5 * ndS 13 tq + 4 * ndS 13 rq + ndS 13 RM)) ((9804 * ndS 13 tq + 342 * ndS 13 rq + 36864 * ndS 13 RM)) [.ref hk, .ref hx] [wd_Ker cs hk kr (fun _ => none) kf ka (gKe pq pz tq rq), fm 13 (fTx cs tq TR TO TF TA), fm 13 (fRw cs rq RR RM RW RF RA RC), fm 8 (fPp cs pq PV)] (fun _ => True) (fun v ps => ∃ (pz' : Nat → Option Nat) (tq' : Nat → Option Nat) (rq' : Nat → Option Nat) (ka' : Nat → Nat → Int32) (TR' : Nat → Nat → Nat) (TO' : Nat → Option Nat) (TF' : Nat → Nat → Int32) (TA' : Nat → Nat → Nat → Int32) (RR' : Nat → Nat → Nat) (RM' : Nat → Option Nat) (RW' : Nat → Option Nat) (RF' : Nat → Nat → Int32) (RA' : Nat → Nat → Nat → Int32) (RC' : Nat → Nat → Int32), (ps.1 = [wd_Ker cs hk kr (fun _ => none) kf ka' (gKe pq pz' tq' rq'), fm 13 (fTx cs tq' TR' TO' TF' TA'), fm 13 (fRw cs rq' RR' RM' RW' RF' RA' RC'), fm 8 (fPp cs pq PV)]) ∧ (v = 0 ∨ v = 1) ∧ (KnI pq PV pz' tq' rq' TO' TF' TA' RW' RF') ∧ (RoI ka') ∧ (RmI rq' RM') ∧ (ps.2.1 + (5 * ndS 13 tq' + 4 * ndS 13 rq' + ndS 13 RM') ≤ 5 * ndS 13 tq + 4 * ndS 13 rq + ndS 13 RM) ∧ (ps.2.2 + (9804 * ndS 13 tq' + 342 * ndS 13 rq' + 36864 * ndS 13 RM') ≤ 9804 * ndS 13 tq + 342 * ndS 13 rq + 36864 * ndS 13 RM)) := by
  refine pg_enter (by decide) (Nat.le_of_ble_eq_true rfl) ?_
  intro p e s m below meth c A ls hAe S hr hlk hnm hA hT hX hw hl
  have hl : lv_has ls 5 [(0, .ref hk), (1, .ref hx)] := hl
  have cstm2 : ((-2) : Int32).toInt = (-2) := rfl
  have cst0 : (0 : Int32).toInt = 0 := rfl
  have cst1 : (1 : Int32).toInt = 1 := rfl
  have J24 : ∀ (n_24 : Nat) (ce_24 sl_24 : Nat) (pz_24 : Nat → Option Nat) (tq_24 : Nat → Option Nat) (rq_24 : Nat → Option Nat) (ka_24 : Nat → Nat → Int32) (TR_24 : Nat → Nat → Nat) (TO_24 : Nat → Option Nat) (TF_24 : Nat → Nat → Int32) (TA_24 : Nat → Nat → Nat → Int32) (RR_24 : Nat → Nat → Nat) (RM_24 : Nat → Option Nat) (RW_24 : Nat → Option Nat) (RF_24 : Nat → Nat → Int32) (RA_24 : Nat → Nat → Nat → Int32) (RC_24 : Nat → Nat → Int32) (x24_2 x24_3 x24_4 : Int32) (H : Heap) (locs : List Loc) (ls : Array Slot), (KnI pq PV pz_24 tq_24 rq_24 TO_24 TF_24 TA_24 RW_24 RF_24) → (RoI ka_24) → (RmI rq_24 RM_24) → (CuR pq PV rq_24 RW_24 ip hx) → (0 ≤ x24_2.toInt) → (x24_2.toInt ≤ 1) → (0 ≤ x24_3.toInt) → (x24_3.toInt ≤ 1) → (0 ≤ x24_4.toInt) → (x24_4.toInt ≤ 1000000) → (ce_24 + (5 * ndS 13 tq_24 + 4 * ndS 13 rq_24 + ndS 13 RM_24) ≤ 5 * ndS 13 tq + 4 * ndS 13 rq + ndS 13 RM) → (sl_24 + (9804 * ndS 13 tq_24 + 342 * ndS 13 rq_24 + 36864 * ndS 13 RM_24) ≤ 9804 * ndS 13 tq + 342 * ndS 13 rq + 36864 * ndS 13 RM) → 1000000 - x24_4.toInt < (n_24 : Int) → pw D A s.heap H locs [wd_Ker cs hk kr (fun _ => none) kf ka_24 (gKe pq pz_24 tq_24 rq_24), fm 13 (fTx cs tq_24 TR_24 TO_24 TF_24 TA_24), fm 13 (fRw cs rq_24 RR_24 RM_24 RW_24 RF_24 RA_24 RC_24), fm 8 (fPp cs pq PV)] → lv_has ls 5 [(0, .ref hk), (1, .ref hx), (2, .int x24_2), (3, .int x24_3), (4, .int x24_4)] → W p l e { frames := 10, cells := (5 * ndS 13 tq + 4 * ndS 13 rq + ndS 13 RM), slots := (9804 * ndS 13 tq + 342 * ndS 13 rq + 36864 * ndS 13 RM), locals := 420 } s m [.ref hk, .ref hx].toArray below meth c H locs ce_24 sl_24 (MQ below (va_Qi (fun v ps => ∃ (pz' : Nat → Option Nat) (tq' : Nat → Option Nat) (rq' : Nat → Option Nat) (ka' : Nat → Nat → Int32) (TR' : Nat → Nat → Nat) (TO' : Nat → Option Nat) (TF' : Nat → Nat → Int32) (TA' : Nat → Nat → Nat → Int32) (RR' : Nat → Nat → Nat) (RM' : Nat → Option Nat) (RW' : Nat → Option Nat) (RF' : Nat → Nat → Int32) (RA' : Nat → Nat → Nat → Int32) (RC' : Nat → Nat → Int32), (ps.1 = [wd_Ker cs hk kr (fun _ => none) kf ka' (gKe pq pz' tq' rq'), fm 13 (fTx cs tq' TR' TO' TF' TA'), fm 13 (fRw cs rq' RR' RM' RW' RF' RA' RC'), fm 8 (fPp cs pq PV)]) ∧ (v = 0 ∨ v = 1) ∧ (KnI pq PV pz' tq' rq' TO' TF' TA' RW' RF') ∧ (RoI ka') ∧ (RmI rq' RM') ∧ (ps.2.1 + (5 * ndS 13 tq' + 4 * ndS 13 rq' + ndS 13 RM') ≤ 5 * ndS 13 tq + 4 * ndS 13 rq + ndS 13 RM) ∧ (ps.2.2 + (9804 * ndS 13 tq' + 342 * ndS 13 rq' + 36864 * ndS 13 RM') ≤ 9804 * ndS 13 tq + 342 * ndS 13 rq + 36864 * ndS 13 RM)) (pg_B D (va_A ([wd_Ker cs hk kr (fun _ => none) kf ka (gKe pq pz tq rq), fm 13 (fTx cs tq TR TO TF TA), fm 13 (fRw cs rq RR RM RW RF RA RC), fm 8 (fPp cs pq PV)] : List va_W).flatten s.heap.size) s.heap.size (tot s.heap)) (va_A ([wd_Ker cs hk kr (fun _ => none) kf ka (gKe pq pz tq rq), fm 13 (fTx cs tq TR TO TF TA), fm 13 (fRw cs rq RR RM RW RF RA RC), fm 8 (fPp cs pq PV)] : List va_W).flatten s.heap.size)) [.ref hk, .ref hx].toArray s (5 * ndS 13 tq + 4 * ndS 13 rq + ndS 13 RM) (9804 * ndS 13 tq + 342 * ndS 13 rq + 36864 * ndS 13 RM) A) (F0 m 24 ls []) := by
    intro  n_24
    induction n_24 with
    | zero =>
      intro ce_24 sl_24 pz_24 tq_24 rq_24 ka_24 TR_24 TO_24 TF_24 TA_24 RR_24 RM_24 RW_24 RF_24 RA_24 RC_24 x24_2 x24_3 x24_4 H locs ls k24_0 k24_1 k24_2 k24_3 k24_4 k24_5 k24_6 k24_7 k24_8 k24_9 k24_10 k24_11 hm hw hl
      have lx24_2 := Int32.le_toInt x24_2
      have ux24_2 := Int32.toInt_lt x24_2
      have lx24_3 := Int32.le_toInt x24_3
      have ux24_3 := Int32.toInt_lt x24_3
      have lx24_4 := Int32.le_toInt x24_4
      have ux24_4 := Int32.toInt_lt x24_4
      have hki := k24_0
      have hro := k24_1
      have hrm := k24_2
      obtain ⟨j1, hp1, hj1, hjq1, hto1⟩ := k24_3.2
      exact absurd hm (by omega)
    | succ n_24 ih24 =>
      intro ce_24 sl_24 pz_24 tq_24 rq_24 ka_24 TR_24 TO_24 TF_24 TA_24 RR_24 RM_24 RW_24 RF_24 RA_24 RC_24 x24_2 x24_3 x24_4 H locs ls k24_0 k24_1 k24_2 k24_3 k24_4 k24_5 k24_6 k24_7 k24_8 k24_9 k24_10 k24_11 hm hw hl
      have lx24_2 := Int32.le_toInt x24_2
      have ux24_2 := Int32.toInt_lt x24_2
      have lx24_3 := Int32.le_toInt x24_3
      have ux24_3 := Int32.toInt_lt x24_3
      have lx24_4 := Int32.le_toInt x24_4
      have ux24_4 := Int32.toInt_lt x24_4
      have hki := k24_0
      have hro := k24_1
      have hrm := k24_2
      obtain ⟨j2, hp2, hj2, hjq2, hto2⟩ := k24_3.2
      refine lv_iload S.x S.b d_Ker_advance_24 (lv_at hl 4 rfl) ?_
      refine lv_ldc (v := 1000000) S.x S.b S.own (S.w m8_48) d_Ker_advance_26 ?_
      refine lv_icmp_ge (tgt := 82) S.x S.b d_Ker_advance_28 (by decide) (fun c3 => ?_) (fun c3 => ?_)
      · have nc3 : (1000000 : Int) ≤ x24_4.toInt := (i_le (x := 1000000) (y := x24_4)).mp c3
        refine lv_iload_n S.x S.b d_Ker_advance_82 rfl (lv_at hl 2 rfl) ?_
        exact pg_iret (v := x24_2) S hr (z_nar (by omega)) hlk hAe hw (show ce_24 ≤ (5 * ndS 13 tq + 4 * ndS 13 rq + ndS 13 RM) from by first | exact oz_dca5c4e7e4 k24_10 | omega) (show sl_24 ≤ (9804 * ndS 13 tq + 342 * ndS 13 rq + 36864 * ndS 13 RM) from by first | exact oz_f7eb847e67 k24_11 | omega) (⟨pz_24, tq_24, rq_24, ka_24, TR_24, TO_24, TF_24, TA_24, RR_24, RM_24, RW_24, RF_24, RA_24, RC_24, rfl, (show x24_2 = 0 ∨ x24_2 = 1 from by first | exact Or.inl rfl | exact Or.inr rfl | exact z_or (by omega)), (show KnI pq PV pz_24 tq_24 rq_24 TO_24 TF_24 TA_24 RW_24 RF_24 from hki), (show RoI ka_24 from hro), (show RmI rq_24 RM_24 from hrm), (show ce_24 + (5 * ndS 13 tq_24 + 4 * ndS 13 rq_24 + ndS 13 RM_24) ≤ 5 * ndS 13 tq + 4 * ndS 13 rq + ndS 13 RM from by first | exact k24_10 | omega), (show sl_24 + (9804 * ndS 13 tq_24 + 342 * ndS 13 rq_24 + 36864 * ndS 13 RM_24) ≤ 9804 * ndS 13 tq + 342 * ndS 13 rq + 36864 * ndS 13 RM from by first | exact k24_11 | omega)⟩) d_Ker_advance_83
      · have nc3 : ¬ (1000000 : Int) ≤ x24_4.toInt := mt (i_le (x := 1000000) (y := x24_4)).mpr c3
        refine lv_iload_n S.x S.b d_Ker_advance_31 rfl (lv_at hl 3 rfl) ?_
        refine lv_if_eq (tgt := 82) S.x S.b d_Ker_advance_32 (by decide) (fun c5 => ?_) (fun c5 => ?_)
        · have nc5 : x24_3.toInt = (0 : Int) := (i_eq (x := x24_3) (y := 0)).mp c5
          refine lv_iload_n S.x S.b d_Ker_advance_82 rfl (lv_at hl 2 rfl) ?_
          exact pg_iret (v := x24_2) S hr (z_nar (by omega)) hlk hAe hw (show ce_24 ≤ (5 * ndS 13 tq + 4 * ndS 13 rq + ndS 13 RM) from by first | exact oz_dca5c4e7e4 k24_10 | omega) (show sl_24 ≤ (9804 * ndS 13 tq + 342 * ndS 13 rq + 36864 * ndS 13 RM) from by first | exact oz_f7eb847e67 k24_11 | omega) (⟨pz_24, tq_24, rq_24, ka_24, TR_24, TO_24, TF_24, TA_24, RR_24, RM_24, RW_24, RF_24, RA_24, RC_24, rfl, (show x24_2 = 0 ∨ x24_2 = 1 from by first | exact Or.inl rfl | exact Or.inr rfl | exact z_or (by omega)), (show KnI pq PV pz_24 tq_24 rq_24 TO_24 TF_24 TA_24 RW_24 RF_24 from hki), (show RoI ka_24 from hro), (show RmI rq_24 RM_24 from hrm), (show ce_24 + (5 * ndS 13 tq_24 + 4 * ndS 13 rq_24 + ndS 13 RM_24) ≤ 5 * ndS 13 tq + 4 * ndS 13 rq + ndS 13 RM from by first | exact k24_10 | omega), (show sl_24 + (9804 * ndS 13 tq_24 + 342 * ndS 13 rq_24 + 36864 * ndS 13 RM_24) ≤ 9804 * ndS 13 tq + 342 * ndS 13 rq + 36864 * ndS 13 RM from by first | exact k24_11 | omega)⟩) d_Ker_advance_83
        · have nc5 : ¬ x24_3.toInt = (0 : Int) := mt (i_eq (x := x24_3) (y := 0)).mpr c5
          refine lv_aload_n S.x S.b d_Ker_advance_35 rfl (lv_at hl 1 rfl) ?_
          have hw : pw D A s.heap _ _ [wd_Ker cs hk kr (fun _ => none) kf ka_24 (gKe pq pz_24 tq_24 rq_24), fm 13 (fTx cs tq_24 TR_24 TO_24 TF_24 TA_24), fm 8 (fPp cs pq PV), fm 13 (fRw cs rq_24 RR_24 RM_24 RW_24 RF_24 RA_24 RC_24)] := hw.sub [0, 1, 3, 2] rfl rfl
          have hw : pw D A s.heap _ _ [wd_Ker cs hk kr (fun _ => none) kf ka_24 (gKe pq pz_24 tq_24 rq_24), fm 13 (fTx cs tq_24 TR_24 TO_24 TF_24 TA_24), fm 8 (fPp cs pq PV), fo 13 (fRw cs rq_24 RR_24 RM_24 RW_24 RF_24 RA_24 RC_24) ip, wd_Raw cs hx (RR_24 ip) (fun k => if k = 2 then (RM_24 ip) else if k = 4 then (some ((PV j2).r 1)) else none) (RF_24 ip) (RA_24 ip) (fun _ _ => none), nA cs (RM_24 ip) 36864 (RC_24 ip)] := frw_out (pr := [wd_Ker cs hk kr (fun _ => none) kf ka_24 (gKe pq pz_24 tq_24 rq_24), fm 13 (fTx cs tq_24 TR_24 TO_24 TF_24 TA_24), fm 8 (fPp cs pq PV)]) hw hip k24_3.1 hto2
          have hng7 := ndS_ge 13 RM_24 ip hip
          have hrn7 : RwN ip (RF_24 ip) := hki.2.2.1 ip hip _ k24_3.1
          have hro7 := hrn7.1
          unfold RwO at hro7
          have hid7 := hrn7.2.1
          have hch7 := hrn7.2.2
          unfold KcI at hch7
          refine px_get S k_Raw hT hw 4 0 14 (v := .int ((RF_24 ip) 14)) rfl rfl rfl (by decide) m6_155 d_Ker_advance_36 ?_
          refine lv_if_eq (tgt := 55) S.x S.b d_Ker_advance_39 (by decide) (fun c8 => ?_) (fun c8 => ?_)
          · have nc8 : ((RF_24 ip) 14).toInt = (0 : Int) := (i_eq (x := ((RF_24 ip) 14)) (y := 0)).mp c8
            refine lv_iconst (v := 1) S.x S.b d_Ker_advance_55 (by decide) ?_
            refine lv_istore_n (lv' := [(2, .int 1), (0, .ref hk), (1, .ref hx), (3, .int x24_3), (4, .int x24_4)]) S.x S.b d_Ker_advance_56 rfl hl (by decide) rfl (fun ls hl => ?_)
            refine lv_aload_n S.x S.b d_Ker_advance_57 rfl (lv_at hl 2 rfl) ?_
            have hw : pw D A s.heap _ _ [wd_Ker cs hk kr (fun _ => none) kf ka_24 (gKe pq pz_24 tq_24 rq_24), fm 13 (fTx cs tq_24 TR_24 TO_24 TF_24 TA_24), fo 13 (fRw cs rq_24 RR_24 RM_24 RW_24 RF_24 RA_24 RC_24) ip, wd_Raw cs hx (RR_24 ip) (fun k => if k = 2 then (RM_24 ip) else if k = 4 then (some ((PV j2).r 1)) else none) (RF_24 ip) (RA_24 ip) (fun _ _ => none), nA cs (RM_24 ip) 36864 (RC_24 ip), fm 8 (fPp cs pq PV)] := hw.sub [0, 1, 3, 4, 5, 2] rfl rfl
            have hw : pw D A s.heap _ _ [wd_Ker cs hk kr (fun _ => none) kf ka_24 (gKe pq pz_24 tq_24 rq_24), fm 13 (fTx cs tq_24 TR_24 TO_24 TF_24 TA_24), fo 13 (fRw cs rq_24 RR_24 RM_24 RW_24 RF_24 RA_24 RC_24) ip, wd_Raw cs hx (RR_24 ip) (fun k => if k = 2 then (RM_24 ip) else if k = 4 then (some ((PV j2).r 1)) else none) (RF_24 ip) (RA_24 ip) (fun _ _ => none), nA cs (RM_24 ip) 36864 (RC_24 ip), fo 8 (fPp cs pq PV) j2, wd_Prg cs hp2 (PV j2).r (fun k => if k = 2 then (PV j2).o else none) (PV j2).f (fun _ _ => 0) (fun _ _ => none), nA cs (PV j2).o (PV j2).fn (PV j2).fd, [(((PV j2).r 1), .inl (cs 0, (PV j2).cn, .inl (PV j2).cd))]] := fpp_out (pr := [wd_Ker cs hk kr (fun _ => none) kf ka_24 (gKe pq pz_24 tq_24 rq_24), fm 13 (fTx cs tq_24 TR_24 TO_24 TF_24 TA_24), fo 13 (fRw cs rq_24 RR_24 RM_24 RW_24 RF_24 RA_24 RC_24) ip, wd_Raw cs hx (RR_24 ip) (fun k => if k = 2 then (RM_24 ip) else if k = 4 then (some ((PV j2).r 1)) else none) (RF_24 ip) (RA_24 ip) (fun _ _ => none), nA cs (RM_24 ip) 36864 (RC_24 ip)]) hw hj2 hjq2
            have hpv10 := hki.1 j2 hj2 _ hjq2
            have hpn10 := hpv10.1
            have hpz10 := hpv10.2.1
            have hw : pw D A s.heap _ _ [wd_Ker cs hk kr (fun _ => none) kf ka_24 (gKe pq pz_24 tq_24 rq_24), fm 13 (fTx cs tq_24 TR_24 TO_24 TF_24 TA_24), fo 13 (fRw cs rq_24 RR_24 RM_24 RW_24 RF_24 RA_24 RC_24) ip, fo 8 (fPp cs pq PV) j2, wd_Prg cs hp2 (PV j2).r (fun k => if k = 2 then (PV j2).o else none) (PV j2).f (fun _ _ => 0) (fun _ _ => none), nA cs (PV j2).o (PV j2).fn (PV j2).fd, wd_Raw cs hx (RR_24 ip) (fun k => if k = 2 then (RM_24 ip) else if k = 4 then (some ((PV j2).r 1)) else none) (RF_24 ip) (RA_24 ip) (fun _ _ => none), nA cs (RM_24 ip) 36864 (RC_24 ip), [(((PV j2).r 1), .inl (cs 0, (PV j2).cn, .inl (PV j2).cd))]] := hw.sub [0, 1, 2, 5, 6, 7, 3, 4, 8] rfl rfl
            refine pg_callv (pr := [wd_Ker cs hk kr (fun _ => none) kf ka_24 (gKe pq pz_24 tq_24 rq_24), fm 13 (fTx cs tq_24 TR_24 TO_24 TF_24 TA_24), fo 13 (fRw cs rq_24 RR_24 RM_24 RW_24 RF_24 RA_24 RC_24) ip, fo 8 (fPp cs pq PV) j2, wd_Prg cs hp2 (PV j2).r (fun k => if k = 2 then (PV j2).o else none) (PV j2).f (fun _ _ => 0) (fun _ _ => none), nA cs (PV j2).o (PV j2).fn (PV j2).fd]) (px_runA (As := []) (rest := []) S (c_Raw_go l D cs hx (RR_24 ip) (fun _ _ => none) (some ((PV j2).r 1)) (PV j2).cn (PV j2).cd (RF_24 ip) (RA_24 ip) (RM_24 ip) (RC_24 ip)   (show 0 ≤ ((RF_24 ip) 7).toInt from by omega) (show ((RF_24 ip) 7).toInt ≤ 1600 from by omega) (show 0 ≤ ((RF_24 ip) 10).toInt from by omega) (show ((RF_24 ip) 10).toInt + ((RF_24 ip) 7).toInt ≤ 1600 from by omega) (show ((RF_24 ip) 14).toInt = 0 ∨ ((RF_24 ip) 14).toInt = 1 from by omega) (show ((RF_24 ip) 14).toInt = 1 → 1 ≤ ((RF_24 ip) 7).toInt from by omega) (show (PV j2).cn ≤ 1000000 from by omega) _ _) hT (pr := [wd_Ker cs hk kr (fun _ => none) kf ka_24 (gKe pq pz_24 tq_24 rq_24), fm 13 (fTx cs tq_24 TR_24 TO_24 TF_24 TA_24), fo 13 (fRw cs rq_24 RR_24 RM_24 RW_24 RF_24 RA_24 RC_24) ip, fo 8 (fPp cs pq PV) j2, wd_Prg cs hp2 (PV j2).r (fun k => if k = 2 then (PV j2).o else none) (PV j2).f (fun _ _ => 0) (fun _ _ => none), nA cs (PV j2).o (PV j2).fn (PV j2).fd]) (pcs := [wd_Raw cs hx (RR_24 ip) (fun k => if k = 2 then (RM_24 ip) else if k = 4 then (some ((PV j2).r 1)) else none) (RF_24 ip) (RA_24 ip) (fun _ _ => none), nA cs (RM_24 ip) 36864 (RC_24 ip), [(((PV j2).r 1), .inl (cs 0, (PV j2).cn, .inl (PV j2).cd))]]) hw (px_X.tot px_X.tt) (C := "HomeSystem$RawProcess") (owner := "HomeSystem$AnyProcess") (x := ⟨"HomeSystem$AnyProcess", "go", "()V"⟩) (px_recv hT hw 6 0 rfl rfl rfl) m8_168 m8_163 m8_165 m8_167 m8_166 m1_34 m8_164n ⟨by decide, by decide⟩ rfl q_Raw_go ⟨Nat.le_of_ble_eq_true rfl, Nat.le_of_ble_eq_true rfl⟩ hl.1 rfl (Nat.le_of_ble_eq_true rfl) d_Ker_advance_58 ⟨show ce_24 + (nd (RM_24 ip)) ≤ (5 * ndS 13 tq + 4 * ndS 13 rq + ndS 13 RM) from by omega, show sl_24 + (36864 * nd (RM_24 ip)) ≤ (9804 * ndS 13 tq + 342 * ndS 13 rq + 36864 * ndS 13 RM) from by omega⟩) hw hA (fun p15 k17 n18 H locs hp15 hw => ?_)
            dsimp only at hp15
            obtain ⟨f11, a12, o213, ma14, rfl, e19, e20, e21, e22, e23, e24, e25, e26, e27, e28, e29⟩ := hp15
            have e19 : 0 ≤ (f11 7).toInt := e19
            have e20 : (f11 7).toInt ≤ 1600 := e20
            have e21 : 0 ≤ (f11 10).toInt := e21
            have e22 : (f11 10).toInt + (f11 7).toInt ≤ 1600 := e22
            have e23 : (f11 14).toInt = 0 ∨ (f11 14).toInt = 1 := e23
            have e24 : (f11 14).toInt = 1 → 1 ≤ (f11 7).toInt := e24
            have e25 : (f11 8).toInt = ((RF_24 ip) 8).toInt := e25
            have e26 : (f11 10).toInt = ((RF_24 ip) 10).toInt := e26
            have e27 : (f11 13).toInt = ((RF_24 ip) 13).toInt := e27
            have e28 : k17 + nd o213 ≤ nd (RM_24 ip) := e28
            have e29 : n18 + 36864 * nd o213 ≤ 36864 * nd (RM_24 ip) := e29
            have hw : pw D A s.heap H locs [wd_Ker cs hk kr (fun _ => none) kf ka_24 (gKe pq pz_24 tq_24 rq_24), fm 13 (fTx cs tq_24 TR_24 TO_24 TF_24 TA_24), fo 13 (fRw cs rq_24 RR_24 RM_24 RW_24 RF_24 RA_24 RC_24) ip, fo 8 (fPp cs pq PV) j2, wd_Prg cs hp2 (PV j2).r (fun k => if k = 2 then (PV j2).o else none) (PV j2).f (fun _ _ => 0) (fun _ _ => none), nA cs (PV j2).o (PV j2).fn (PV j2).fd, wd_Raw cs hx (RR_24 ip) (fun k => if k = 2 then o213 else if k = 4 then (some ((PV j2).r 1)) else none) f11 a12 (fun _ _ => none), nA cs o213 36864 ma14, nA cs (some ((PV j2).r 1)) (PV j2).cn (PV j2).cd] := hw
            refine lv_aload_n S.x S.b d_Ker_advance_61 rfl (lv_at hl 2 rfl) ?_
            refine px_get S k_Raw hT hw 6 0 11 (v := .int (f11 11)) rfl rfl rfl (by decide) m6_139 d_Ker_advance_62 ?_
            refine lv_bipush (v := (-2)) S.x S.b d_Ker_advance_65 (by decide) ?_
            refine lv_icmp_ne (tgt := 74) S.x S.b d_Ker_advance_67 (by decide) (fun c30 => ?_) (fun c30 => ?_)
            · have nc30 : ¬ (f11 11).toInt = (-2 : Int) := mt (i_eq (x := (f11 11)) (y := (-2))).mpr c30
              refine lv_iconst (v := 0) S.x S.b d_Ker_advance_74 (by decide) ?_
              refine lv_istore_n (lv' := [(3, .int 0), (2, .int 1), (0, .ref hk), (1, .ref hx), (4, .int x24_4)]) S.x S.b d_Ker_advance_75 rfl hl (by decide) rfl (fun ls hl => ?_)
              obtain ⟨z32, ez32⟩ : ∃ y : Int32, y = x24_4 + 1 := ⟨_, rfl⟩
              have tz32 : z32.toInt = (x24_4.toInt + 1 + 2147483648) % 4294967296 - 2147483648 := by rw [ez32]; exact i_add x24_4 1
              have lz32 := Int32.le_toInt z32
              have uz32 := Int32.toInt_lt z32
              try replace tz32 : z32.toInt = x24_4.toInt + 1 := by omega
              refine lv_iinc (v := z32) (lv' := [(4, .int z32), (3, .int 0), (2, .int 1), (0, .ref hk), (1, .ref hx)]) S.x S.b d_Ker_advance_76 hl (k := 4) rfl (by rw [ez32]; rfl) (by decide) rfl (fun ls hl => ?_)
              refine lv_goto (tgt := 24) S.x S.b d_Ker_advance_79 (by decide) ?_
              have hw : pw D A s.heap _ _ [wd_Ker cs hk kr (fun _ => none) kf ka_24 (gKe pq pz_24 tq_24 rq_24), fm 13 (fTx cs tq_24 TR_24 TO_24 TF_24 TA_24), fo 13 (fRw cs rq_24 RR_24 RM_24 RW_24 RF_24 RA_24 RC_24) ip, fo 8 (fPp cs pq PV) j2, wd_Prg cs hp2 (PV j2).r (fun k => if k = 2 then (PV j2).o else none) (PV j2).f (fun _ _ => 0) (fun _ _ => none), nA cs (PV j2).o (PV j2).fn (PV j2).fd, wd_Raw cs hx (RR_24 ip) (fun k => if k = 2 then o213 else if k = 4 then (some ((PV j2).r 1)) else none) f11 a12 (fun _ _ => none), nA cs o213 36864 ma14, [(((PV j2).r 1), .inl (cs 0, (PV j2).cn, .inl (PV j2).cd))]] := hw.eq rfl
              have hw : pw D A s.heap _ _ [wd_Ker cs hk kr (fun _ => none) kf ka_24 (gKe pq pz_24 tq_24 rq_24), fm 13 (fTx cs tq_24 TR_24 TO_24 TF_24 TA_24), fo 13 (fRw cs rq_24 RR_24 RM_24 RW_24 RF_24 RA_24 RC_24) ip, wd_Raw cs hx (RR_24 ip) (fun k => if k = 2 then o213 else if k = 4 then (some ((PV j2).r 1)) else none) f11 a12 (fun _ _ => none), nA cs o213 36864 ma14, fo 8 (fPp cs pq PV) j2, wd_Prg cs hp2 (PV j2).r (fun k => if k = 2 then (PV j2).o else none) (PV j2).f (fun _ _ => 0) (fun _ _ => none), nA cs (PV j2).o (PV j2).fn (PV j2).fd, [(((PV j2).r 1), .inl (cs 0, (PV j2).cn, .inl (PV j2).cd))]] := hw.sub [0, 1, 2, 6, 7, 3, 4, 5, 8] rfl rfl
              have hw : pw D A s.heap _ _ [wd_Ker cs hk kr (fun _ => none) kf ka_24 (gKe pq pz_24 tq_24 rq_24), fm 13 (fTx cs tq_24 TR_24 TO_24 TF_24 TA_24), fo 13 (fRw cs rq_24 RR_24 RM_24 RW_24 RF_24 RA_24 RC_24) ip, wd_Raw cs hx (RR_24 ip) (fun k => if k = 2 then o213 else if k = 4 then (some ((PV j2).r 1)) else none) f11 a12 (fun _ _ => none), nA cs o213 36864 ma14, fm 8 (fPp cs pq PV)] := fpp_back (pr := [wd_Ker cs hk kr (fun _ => none) kf ka_24 (gKe pq pz_24 tq_24 rq_24), fm 13 (fTx cs tq_24 TR_24 TO_24 TF_24 TA_24), fo 13 (fRw cs rq_24 RR_24 RM_24 RW_24 RF_24 RA_24 RC_24) ip, wd_Raw cs hx (RR_24 ip) (fun k => if k = 2 then o213 else if k = 4 then (some ((PV j2).r 1)) else none) f11 a12 (fun _ _ => none), nA cs o213 36864 ma14]) hw hj2 hjq2
              have hw : pw D A s.heap _ _ [wd_Ker cs hk kr (fun _ => none) kf ka_24 (gKe pq pz_24 tq_24 rq_24), fm 13 (fTx cs tq_24 TR_24 TO_24 TF_24 TA_24), fm 8 (fPp cs pq PV), fo 13 (fRw cs rq_24 RR_24 RM_24 RW_24 RF_24 RA_24 RC_24) ip, wd_Raw cs hx (RR_24 ip) (fun k => if k = 2 then o213 else if k = 4 then (some ((PV j2).r 1)) else none) f11 a12 (fun _ _ => none), nA cs o213 36864 ma14] := hw.sub [0, 1, 5, 2, 3, 4] rfl rfl
              have hw := frw_in0 (pr := [wd_Ker cs hk kr (fun _ => none) kf ka_24 (gKe pq pz_24 tq_24 rq_24), fm 13 (fTx cs tq_24 TR_24 TO_24 TF_24 TA_24), fm 8 (fPp cs pq PV)]) hw hip k24_3.1 hto2
              obtain ⟨RM33, hu_RM33⟩ : ∃ y : Nat → Option Nat, y = va_up RM_24 ip o213 := ⟨_, rfl⟩
              obtain ⟨RF34, hu_RF34⟩ : ∃ y : Nat → Nat → Int32, y = va_up RF_24 ip f11 := ⟨_, rfl⟩
              obtain ⟨RA35, hu_RA35⟩ : ∃ y : Nat → Nat → Nat → Int32, y = va_up RA_24 ip a12 := ⟨_, rfl⟩
              obtain ⟨RC36, hu_RC36⟩ : ∃ y : Nat → Nat → Int32, y = va_up RC_24 ip ma14 := ⟨_, rfl⟩
              have hw : pw D A s.heap _ _ [wd_Ker cs hk kr (fun _ => none) kf ka_24 (gKe pq pz_24 tq_24 rq_24), fm 13 (fTx cs tq_24 TR_24 TO_24 TF_24 TA_24), fm 8 (fPp cs pq PV), fm 13 (fRw cs rq_24 RR_24 RM33 RW_24 RF34 RA35 RC36)] := (by rw [hu_RM33, hu_RF34, hu_RA35, hu_RC36]; exact hw)
              have hki : KnI pq PV pz_24 tq_24 rq_24 TO_24 TF_24 TA_24 RW_24 RF34 := (by rw [hu_RF34]; exact hki.upR (show RwN ip f11 from ⟨(show (0 ≤ (f11 7).toInt ∧ (f11 7).toInt ≤ 1600) ∧ (0 ≤ (f11 10).toInt ∧ (f11 10).toInt + (f11 7).toInt ≤ 1600) ∧ ((f11 14).toInt = 0 ∨ (f11 14).toInt = 1) ∧ ((f11 14).toInt = 1 → 1 ≤ (f11 7).toInt) from by omega), (show ((f11 8).toInt) = ((ip : Nat) : Int) from by omega), (show 0 ≤ (f11 13).toInt ∧ (f11 13).toInt ≤ 3 ∧ ((f11 13).toInt = 0 ∨ 3 * ((ip : Nat) : Int) + (f11 13).toInt ≤ 12) from by omega)⟩))
              have hrm : RmI rq_24 RM33 := (by rw [hu_RM33]; exact hrm.up k24_3.1)
              have hnd_RM33 := ndS_up 13 RM_24 ip o213 hip; rw [← hu_RM33] at hnd_RM33
              have hz14_RF34 : (RF34 ip 14).toInt = (f11 14).toInt := (by rw [hu_RF34, va_up_s]; try rfl)
              have hw : pw D A s.heap _ _ [wd_Ker cs hk kr (fun _ => none) kf ka_24 (gKe pq pz_24 tq_24 rq_24), fm 13 (fTx cs tq_24 TR_24 TO_24 TF_24 TA_24), fm 13 (fRw cs rq_24 RR_24 RM33 RW_24 RF34 RA35 RC36), fm 8 (fPp cs pq PV)] := hw.sub [0, 1, 3, 2] rfl rfl
              exact ih24 (ce_24 + k17) (sl_24 + n18) pz_24 tq_24 rq_24 ka_24 TR_24 TO_24 TF_24 TA_24 RR_24 RM33 RW_24 RF34 RA35 RC36 (1 : Int32) (0 : Int32) z32 _ _ ls (show KnI pq PV pz_24 tq_24 rq_24 TO_24 TF_24 TA_24 RW_24 RF34 from hki) (show RoI ka_24 from hro) (show RmI rq_24 RM33 from hrm) (show CuR pq PV rq_24 RW_24 ip hx from k24_3) (show 0 ≤ (1 : Int) from by first | exact oz_19c3a41681 | omega) (show (1 : Int) ≤ 1 from by first | exact oz_f9181dc4bb | omega) (show 0 ≤ (0 : Int) from by first | exact oz_5a341f00aa | omega) (show (0 : Int) ≤ 1 from by first | exact oz_6e68cd0f48 | omega) (show 0 ≤ z32.toInt from by first | exact oz_ae613611c0 tz32 k24_8 | omega) (show z32.toInt ≤ 1000000 from by first | exact oz_596acb4ef1 tz32 nc3 | omega) (show (ce_24 + k17) + (5 * ndS 13 tq_24 + 4 * ndS 13 rq_24 + ndS 13 RM33) ≤ 5 * ndS 13 tq + 4 * ndS 13 rq + ndS 13 RM from by omega) (show (sl_24 + n18) + (9804 * ndS 13 tq_24 + 342 * ndS 13 rq_24 + 36864 * ndS 13 RM33) ≤ 9804 * ndS 13 tq + 342 * ndS 13 rq + 36864 * ndS 13 RM from by omega) (show 1000000 - z32.toInt < (n_24 : Int) from by first | exact oz_301bb61272 hm tz32 | omega) hw (lv_sub hl [3, 4, 2, 1, 0] rfl)
            · have nc30 : (f11 11).toInt = (-2 : Int) := (i_eq (x := (f11 11)) (y := (-2))).mp c30
              refine lv_iconst (v := 1) S.x S.b d_Ker_advance_70 (by decide) ?_
              refine lv_goto (tgt := 75) S.x S.b d_Ker_advance_71 (by decide) ?_
              refine lv_istore_n (lv' := [(3, .int 1), (2, .int 1), (0, .ref hk), (1, .ref hx), (4, .int x24_4)]) S.x S.b d_Ker_advance_75 rfl hl (by decide) rfl (fun ls hl => ?_)
              obtain ⟨z37, ez37⟩ : ∃ y : Int32, y = x24_4 + 1 := ⟨_, rfl⟩
              have tz37 : z37.toInt = (x24_4.toInt + 1 + 2147483648) % 4294967296 - 2147483648 := by rw [ez37]; exact i_add x24_4 1
              have lz37 := Int32.le_toInt z37
              have uz37 := Int32.toInt_lt z37
              try replace tz37 : z37.toInt = x24_4.toInt + 1 := by omega
              refine lv_iinc (v := z37) (lv' := [(4, .int z37), (3, .int 1), (2, .int 1), (0, .ref hk), (1, .ref hx)]) S.x S.b d_Ker_advance_76 hl (k := 4) rfl (by rw [ez37]; rfl) (by decide) rfl (fun ls hl => ?_)
              refine lv_goto (tgt := 24) S.x S.b d_Ker_advance_79 (by decide) ?_
              have hw : pw D A s.heap _ _ [wd_Ker cs hk kr (fun _ => none) kf ka_24 (gKe pq pz_24 tq_24 rq_24), fm 13 (fTx cs tq_24 TR_24 TO_24 TF_24 TA_24), fo 13 (fRw cs rq_24 RR_24 RM_24 RW_24 RF_24 RA_24 RC_24) ip, fo 8 (fPp cs pq PV) j2, wd_Prg cs hp2 (PV j2).r (fun k => if k = 2 then (PV j2).o else none) (PV j2).f (fun _ _ => 0) (fun _ _ => none), nA cs (PV j2).o (PV j2).fn (PV j2).fd, wd_Raw cs hx (RR_24 ip) (fun k => if k = 2 then o213 else if k = 4 then (some ((PV j2).r 1)) else none) f11 a12 (fun _ _ => none), nA cs o213 36864 ma14, [(((PV j2).r 1), .inl (cs 0, (PV j2).cn, .inl (PV j2).cd))]] := hw.eq rfl
              have hw : pw D A s.heap _ _ [wd_Ker cs hk kr (fun _ => none) kf ka_24 (gKe pq pz_24 tq_24 rq_24), fm 13 (fTx cs tq_24 TR_24 TO_24 TF_24 TA_24), fo 13 (fRw cs rq_24 RR_24 RM_24 RW_24 RF_24 RA_24 RC_24) ip, wd_Raw cs hx (RR_24 ip) (fun k => if k = 2 then o213 else if k = 4 then (some ((PV j2).r 1)) else none) f11 a12 (fun _ _ => none), nA cs o213 36864 ma14, fo 8 (fPp cs pq PV) j2, wd_Prg cs hp2 (PV j2).r (fun k => if k = 2 then (PV j2).o else none) (PV j2).f (fun _ _ => 0) (fun _ _ => none), nA cs (PV j2).o (PV j2).fn (PV j2).fd, [(((PV j2).r 1), .inl (cs 0, (PV j2).cn, .inl (PV j2).cd))]] := hw.sub [0, 1, 2, 6, 7, 3, 4, 5, 8] rfl rfl
              have hw : pw D A s.heap _ _ [wd_Ker cs hk kr (fun _ => none) kf ka_24 (gKe pq pz_24 tq_24 rq_24), fm 13 (fTx cs tq_24 TR_24 TO_24 TF_24 TA_24), fo 13 (fRw cs rq_24 RR_24 RM_24 RW_24 RF_24 RA_24 RC_24) ip, wd_Raw cs hx (RR_24 ip) (fun k => if k = 2 then o213 else if k = 4 then (some ((PV j2).r 1)) else none) f11 a12 (fun _ _ => none), nA cs o213 36864 ma14, fm 8 (fPp cs pq PV)] := fpp_back (pr := [wd_Ker cs hk kr (fun _ => none) kf ka_24 (gKe pq pz_24 tq_24 rq_24), fm 13 (fTx cs tq_24 TR_24 TO_24 TF_24 TA_24), fo 13 (fRw cs rq_24 RR_24 RM_24 RW_24 RF_24 RA_24 RC_24) ip, wd_Raw cs hx (RR_24 ip) (fun k => if k = 2 then o213 else if k = 4 then (some ((PV j2).r 1)) else none) f11 a12 (fun _ _ => none), nA cs o213 36864 ma14]) hw hj2 hjq2
              have hw : pw D A s.heap _ _ [wd_Ker cs hk kr (fun _ => none) kf ka_24 (gKe pq pz_24 tq_24 rq_24), fm 13 (fTx cs tq_24 TR_24 TO_24 TF_24 TA_24), fm 8 (fPp cs pq PV), fo 13 (fRw cs rq_24 RR_24 RM_24 RW_24 RF_24 RA_24 RC_24) ip, wd_Raw cs hx (RR_24 ip) (fun k => if k = 2 then o213 else if k = 4 then (some ((PV j2).r 1)) else none) f11 a12 (fun _ _ => none), nA cs o213 36864 ma14] := hw.sub [0, 1, 5, 2, 3, 4] rfl rfl
              have hw := frw_in0 (pr := [wd_Ker cs hk kr (fun _ => none) kf ka_24 (gKe pq pz_24 tq_24 rq_24), fm 13 (fTx cs tq_24 TR_24 TO_24 TF_24 TA_24), fm 8 (fPp cs pq PV)]) hw hip k24_3.1 hto2
              obtain ⟨RM38, hu_RM38⟩ : ∃ y : Nat → Option Nat, y = va_up RM_24 ip o213 := ⟨_, rfl⟩
              obtain ⟨RF39, hu_RF39⟩ : ∃ y : Nat → Nat → Int32, y = va_up RF_24 ip f11 := ⟨_, rfl⟩
              obtain ⟨RA40, hu_RA40⟩ : ∃ y : Nat → Nat → Nat → Int32, y = va_up RA_24 ip a12 := ⟨_, rfl⟩
              obtain ⟨RC41, hu_RC41⟩ : ∃ y : Nat → Nat → Int32, y = va_up RC_24 ip ma14 := ⟨_, rfl⟩
              have hw : pw D A s.heap _ _ [wd_Ker cs hk kr (fun _ => none) kf ka_24 (gKe pq pz_24 tq_24 rq_24), fm 13 (fTx cs tq_24 TR_24 TO_24 TF_24 TA_24), fm 8 (fPp cs pq PV), fm 13 (fRw cs rq_24 RR_24 RM38 RW_24 RF39 RA40 RC41)] := (by rw [hu_RM38, hu_RF39, hu_RA40, hu_RC41]; exact hw)
              have hki : KnI pq PV pz_24 tq_24 rq_24 TO_24 TF_24 TA_24 RW_24 RF39 := (by rw [hu_RF39]; exact hki.upR (show RwN ip f11 from ⟨(show (0 ≤ (f11 7).toInt ∧ (f11 7).toInt ≤ 1600) ∧ (0 ≤ (f11 10).toInt ∧ (f11 10).toInt + (f11 7).toInt ≤ 1600) ∧ ((f11 14).toInt = 0 ∨ (f11 14).toInt = 1) ∧ ((f11 14).toInt = 1 → 1 ≤ (f11 7).toInt) from by omega), (show ((f11 8).toInt) = ((ip : Nat) : Int) from by omega), (show 0 ≤ (f11 13).toInt ∧ (f11 13).toInt ≤ 3 ∧ ((f11 13).toInt = 0 ∨ 3 * ((ip : Nat) : Int) + (f11 13).toInt ≤ 12) from by omega)⟩))
              have hrm : RmI rq_24 RM38 := (by rw [hu_RM38]; exact hrm.up k24_3.1)
              have hnd_RM38 := ndS_up 13 RM_24 ip o213 hip; rw [← hu_RM38] at hnd_RM38
              have hz14_RF39 : (RF39 ip 14).toInt = (f11 14).toInt := (by rw [hu_RF39, va_up_s]; try rfl)
              have hw : pw D A s.heap _ _ [wd_Ker cs hk kr (fun _ => none) kf ka_24 (gKe pq pz_24 tq_24 rq_24), fm 13 (fTx cs tq_24 TR_24 TO_24 TF_24 TA_24), fm 13 (fRw cs rq_24 RR_24 RM38 RW_24 RF39 RA40 RC41), fm 8 (fPp cs pq PV)] := hw.sub [0, 1, 3, 2] rfl rfl
              exact ih24 (ce_24 + k17) (sl_24 + n18) pz_24 tq_24 rq_24 ka_24 TR_24 TO_24 TF_24 TA_24 RR_24 RM38 RW_24 RF39 RA40 RC41 (1 : Int32) (1 : Int32) z37 _ _ ls (show KnI pq PV pz_24 tq_24 rq_24 TO_24 TF_24 TA_24 RW_24 RF39 from hki) (show RoI ka_24 from hro) (show RmI rq_24 RM38 from hrm) (show CuR pq PV rq_24 RW_24 ip hx from k24_3) (show 0 ≤ (1 : Int) from by first | exact oz_19c3a41681 | omega) (show (1 : Int) ≤ 1 from by first | exact oz_f9181dc4bb | omega) (show 0 ≤ (1 : Int) from by first | exact oz_19c3a41681 | omega) (show (1 : Int) ≤ 1 from by first | exact oz_f9181dc4bb | omega) (show 0 ≤ z37.toInt from by first | exact oz_ae613611c0 tz37 k24_8 | omega) (show z37.toInt ≤ 1000000 from by first | exact oz_596acb4ef1 tz37 nc3 | omega) (show (ce_24 + k17) + (5 * ndS 13 tq_24 + 4 * ndS 13 rq_24 + ndS 13 RM38) ≤ 5 * ndS 13 tq + 4 * ndS 13 rq + ndS 13 RM from by omega) (show (sl_24 + n18) + (9804 * ndS 13 tq_24 + 342 * ndS 13 rq_24 + 36864 * ndS 13 RM38) ≤ 9804 * ndS 13 tq + 342 * ndS 13 rq + 36864 * ndS 13 RM from by omega) (show 1000000 - z37.toInt < (n_24 : Int) from by first | exact oz_301bb61272 hm tz37 | omega) hw (lv_sub hl [3, 4, 2, 1, 0] rfl)
          · have nc8 : ¬ ((RF_24 ip) 14).toInt = (0 : Int) := mt (i_eq (x := ((RF_24 ip) 14)) (y := 0)).mpr c8
            refine lv_aload_n S.x S.b d_Ker_advance_42 rfl (lv_at hl 0 rfl) ?_
            refine lv_aload_n S.x S.b d_Ker_advance_43 rfl (lv_at hl 1 rfl) ?_
            have hw : pw D A s.heap _ _ [wd_Ker cs hk kr (fun _ => none) kf ka_24 (gKe pq pz_24 tq_24 rq_24), fm 13 (fTx cs tq_24 TR_24 TO_24 TF_24 TA_24), fm 8 (fPp cs pq PV), fm 13 (fRw cs rq_24 RR_24 RM_24 RW_24 RF_24 RA_24 RC_24)] := frw_back (pr := [wd_Ker cs hk kr (fun _ => none) kf ka_24 (gKe pq pz_24 tq_24 rq_24), fm 13 (fTx cs tq_24 TR_24 TO_24 TF_24 TA_24), fm 8 (fPp cs pq PV)]) hw hip k24_3.1 hto2
            have hw : pw D A s.heap _ _ [wd_Ker cs hk kr (fun _ => none) kf ka_24 (gKe pq pz_24 tq_24 rq_24), fm 13 (fTx cs tq_24 TR_24 TO_24 TF_24 TA_24), fm 13 (fRw cs rq_24 RR_24 RM_24 RW_24 RF_24 RA_24 RC_24), fm 8 (fPp cs pq PV)] := hw.sub [0, 1, 3, 2] rfl rfl
            refine pg_calli (pr := []) (px_runV (As := [.ref hx]) (rest := []) S (c_k_serve_R l D cs hk kr pq kf PV pz_24 tq_24 rq_24 ka_24 TR_24 TO_24 TF_24 TA_24 RR_24 RM_24 RW_24 RF_24 RA_24 RC_24  ip hx (show 0 ≤ (kf 8).toInt from by first | exact g0 | omega) (show (kf 8).toInt ≤ 100 from by first | exact g1 | omega) (show (RF_24 ip 14).toInt = 1 from by omega) hki hro hrm hip k24_3 _ _) hT (pr := []) (pcs := [wd_Ker cs hk kr (fun _ => none) kf ka_24 (gKe pq pz_24 tq_24 rq_24), fm 13 (fTx cs tq_24 TR_24 TO_24 TF_24 TA_24), fm 13 (fRw cs rq_24 RR_24 RM_24 RW_24 RF_24 RA_24 RC_24), fm 8 (fPp cs pq PV)]) hw (px_X.tot px_X.tt) (px_recv hT hw 0 0 rfl rfl rfl) m8_56 m8_53 m8_55 ms_5_8 m1_19 q_Ker_serve ⟨Nat.le_of_ble_eq_true rfl, Nat.le_of_ble_eq_true rfl⟩ hl.1 rfl (Nat.le_of_ble_eq_true rfl) d_Ker_advance_44 ⟨show ce_24 + (5 * ndS 13 tq_24 + 4 * ndS 13 rq_24 + ndS 13 RM_24) ≤ (5 * ndS 13 tq + 4 * ndS 13 rq + ndS 13 RM) from (by first | exact oz_8d9c241760 k24_10 | omega), show sl_24 + (9804 * ndS 13 tq_24 + 342 * ndS 13 rq_24 + 36864 * ndS 13 RM_24) ≤ (9804 * ndS 13 tq + 342 * ndS 13 rq + 36864 * ndS 13 RM) from (by first | exact oz_7d29951c31 k24_11 | omega)⟩) hw hA (fun v71 p70 k72 n73 H locs hp70 hw => ?_)
            dsimp only at hp70
            obtain ⟨pz56, tq57, rq58, ka59, TR60, TO61, TF62, TA63, RR64, RM65, RW66, RF67, RA68, RC69, rfl, e74, e75, e76, e77, e78, e79, e80⟩ := hp70
            have e74 := z_rng e74
            have e75 : CuR pq PV rq58 RW66 ip hx := e75
            obtain ⟨j81, hp81, hj81, hjq81, hto81⟩ := e75.2
            have e76 : KnI pq PV pz56 tq57 rq58 TO61 TF62 TA63 RW66 RF67 := e76
            have hki := e76
            have e77 : RoI ka59 := e77
            have hro := e77
            have e78 : RmI rq58 RM65 := e78
            have hrm := e78
            have e79 : k72 + (5 * ndS 13 tq57 + 4 * ndS 13 rq58 + ndS 13 RM65) ≤ 5 * ndS 13 tq_24 + 4 * ndS 13 rq_24 + ndS 13 RM_24 := e79
            have e80 : n73 + (9804 * ndS 13 tq57 + 342 * ndS 13 rq58 + 36864 * ndS 13 RM65) ≤ 9804 * ndS 13 tq_24 + 342 * ndS 13 rq_24 + 36864 * ndS 13 RM_24 := e80
            have hw : pw D A s.heap H locs [wd_Ker cs hk kr (fun _ => none) kf ka59 (gKe pq pz56 tq57 rq58), fm 13 (fTx cs tq57 TR60 TO61 TF62 TA63), fm 13 (fRw cs rq58 RR64 RM65 RW66 RF67 RA68 RC69), fm 8 (fPp cs pq PV)] := hw
            have lv71 := Int32.le_toInt v71
            have uv71 := Int32.toInt_lt v71
            refine lv_if_ne (tgt := 55) S.x S.b d_Ker_advance_47 (by decide) (fun c82 => ?_) (fun c82 => ?_)
            · have nc82 : ¬ v71.toInt = (0 : Int) := mt (i_eq (x := v71) (y := 0)).mpr c82
              refine lv_iconst (v := 1) S.x S.b d_Ker_advance_55 (by decide) ?_
              refine lv_istore_n (lv' := [(2, .int 1), (0, .ref hk), (1, .ref hx), (3, .int x24_3), (4, .int x24_4)]) S.x S.b d_Ker_advance_56 rfl hl (by decide) rfl (fun ls hl => ?_)
              refine lv_aload_n S.x S.b d_Ker_advance_57 rfl (lv_at hl 2 rfl) ?_
              have hw : pw D A s.heap _ _ [wd_Ker cs hk kr (fun _ => none) kf ka59 (gKe pq pz56 tq57 rq58), fm 13 (fTx cs tq57 TR60 TO61 TF62 TA63), fm 8 (fPp cs pq PV), fm 13 (fRw cs rq58 RR64 RM65 RW66 RF67 RA68 RC69)] := hw.sub [0, 1, 3, 2] rfl rfl
              have hw : pw D A s.heap _ _ [wd_Ker cs hk kr (fun _ => none) kf ka59 (gKe pq pz56 tq57 rq58), fm 13 (fTx cs tq57 TR60 TO61 TF62 TA63), fm 8 (fPp cs pq PV), fo 13 (fRw cs rq58 RR64 RM65 RW66 RF67 RA68 RC69) ip, wd_Raw cs hx (RR64 ip) (fun k => if k = 2 then (RM65 ip) else if k = 4 then (some ((PV j81).r 1)) else none) (RF67 ip) (RA68 ip) (fun _ _ => none), nA cs (RM65 ip) 36864 (RC69 ip)] := frw_out (pr := [wd_Ker cs hk kr (fun _ => none) kf ka59 (gKe pq pz56 tq57 rq58), fm 13 (fTx cs tq57 TR60 TO61 TF62 TA63), fm 8 (fPp cs pq PV)]) hw hip e75.1 hto81
              have hng84 := ndS_ge 13 RM65 ip hip
              have hrn84 : RwN ip (RF67 ip) := hki.2.2.1 ip hip _ e75.1
              have hro84 := hrn84.1
              unfold RwO at hro84
              have hid84 := hrn84.2.1
              have hch84 := hrn84.2.2
              unfold KcI at hch84
              have hw : pw D A s.heap _ _ [wd_Ker cs hk kr (fun _ => none) kf ka59 (gKe pq pz56 tq57 rq58), fm 13 (fTx cs tq57 TR60 TO61 TF62 TA63), fo 13 (fRw cs rq58 RR64 RM65 RW66 RF67 RA68 RC69) ip, wd_Raw cs hx (RR64 ip) (fun k => if k = 2 then (RM65 ip) else if k = 4 then (some ((PV j81).r 1)) else none) (RF67 ip) (RA68 ip) (fun _ _ => none), nA cs (RM65 ip) 36864 (RC69 ip), fm 8 (fPp cs pq PV)] := hw.sub [0, 1, 3, 4, 5, 2] rfl rfl
              have hw : pw D A s.heap _ _ [wd_Ker cs hk kr (fun _ => none) kf ka59 (gKe pq pz56 tq57 rq58), fm 13 (fTx cs tq57 TR60 TO61 TF62 TA63), fo 13 (fRw cs rq58 RR64 RM65 RW66 RF67 RA68 RC69) ip, wd_Raw cs hx (RR64 ip) (fun k => if k = 2 then (RM65 ip) else if k = 4 then (some ((PV j81).r 1)) else none) (RF67 ip) (RA68 ip) (fun _ _ => none), nA cs (RM65 ip) 36864 (RC69 ip), fo 8 (fPp cs pq PV) j81, wd_Prg cs hp81 (PV j81).r (fun k => if k = 2 then (PV j81).o else none) (PV j81).f (fun _ _ => 0) (fun _ _ => none), nA cs (PV j81).o (PV j81).fn (PV j81).fd, [(((PV j81).r 1), .inl (cs 0, (PV j81).cn, .inl (PV j81).cd))]] := fpp_out (pr := [wd_Ker cs hk kr (fun _ => none) kf ka59 (gKe pq pz56 tq57 rq58), fm 13 (fTx cs tq57 TR60 TO61 TF62 TA63), fo 13 (fRw cs rq58 RR64 RM65 RW66 RF67 RA68 RC69) ip, wd_Raw cs hx (RR64 ip) (fun k => if k = 2 then (RM65 ip) else if k = 4 then (some ((PV j81).r 1)) else none) (RF67 ip) (RA68 ip) (fun _ _ => none), nA cs (RM65 ip) 36864 (RC69 ip)]) hw hj81 hjq81
              have hpv85 := hki.1 j81 hj81 _ hjq81
              have hpn85 := hpv85.1
              have hpz85 := hpv85.2.1
              have hw : pw D A s.heap _ _ [wd_Ker cs hk kr (fun _ => none) kf ka59 (gKe pq pz56 tq57 rq58), fm 13 (fTx cs tq57 TR60 TO61 TF62 TA63), fo 13 (fRw cs rq58 RR64 RM65 RW66 RF67 RA68 RC69) ip, fo 8 (fPp cs pq PV) j81, wd_Prg cs hp81 (PV j81).r (fun k => if k = 2 then (PV j81).o else none) (PV j81).f (fun _ _ => 0) (fun _ _ => none), nA cs (PV j81).o (PV j81).fn (PV j81).fd, wd_Raw cs hx (RR64 ip) (fun k => if k = 2 then (RM65 ip) else if k = 4 then (some ((PV j81).r 1)) else none) (RF67 ip) (RA68 ip) (fun _ _ => none), nA cs (RM65 ip) 36864 (RC69 ip), [(((PV j81).r 1), .inl (cs 0, (PV j81).cn, .inl (PV j81).cd))]] := hw.sub [0, 1, 2, 5, 6, 7, 3, 4, 8] rfl rfl
              refine pg_callv (pr := [wd_Ker cs hk kr (fun _ => none) kf ka59 (gKe pq pz56 tq57 rq58), fm 13 (fTx cs tq57 TR60 TO61 TF62 TA63), fo 13 (fRw cs rq58 RR64 RM65 RW66 RF67 RA68 RC69) ip, fo 8 (fPp cs pq PV) j81, wd_Prg cs hp81 (PV j81).r (fun k => if k = 2 then (PV j81).o else none) (PV j81).f (fun _ _ => 0) (fun _ _ => none), nA cs (PV j81).o (PV j81).fn (PV j81).fd]) (px_runA (As := []) (rest := []) S (c_Raw_go l D cs hx (RR64 ip) (fun _ _ => none) (some ((PV j81).r 1)) (PV j81).cn (PV j81).cd (RF67 ip) (RA68 ip) (RM65 ip) (RC69 ip)   (show 0 ≤ ((RF67 ip) 7).toInt from by omega) (show ((RF67 ip) 7).toInt ≤ 1600 from by omega) (show 0 ≤ ((RF67 ip) 10).toInt from by omega) (show ((RF67 ip) 10).toInt + ((RF67 ip) 7).toInt ≤ 1600 from by omega) (show ((RF67 ip) 14).toInt = 0 ∨ ((RF67 ip) 14).toInt = 1 from by omega) (show ((RF67 ip) 14).toInt = 1 → 1 ≤ ((RF67 ip) 7).toInt from by omega) (show (PV j81).cn ≤ 1000000 from by omega) _ _) hT (pr := [wd_Ker cs hk kr (fun _ => none) kf ka59 (gKe pq pz56 tq57 rq58), fm 13 (fTx cs tq57 TR60 TO61 TF62 TA63), fo 13 (fRw cs rq58 RR64 RM65 RW66 RF67 RA68 RC69) ip, fo 8 (fPp cs pq PV) j81, wd_Prg cs hp81 (PV j81).r (fun k => if k = 2 then (PV j81).o else none) (PV j81).f (fun _ _ => 0) (fun _ _ => none), nA cs (PV j81).o (PV j81).fn (PV j81).fd]) (pcs := [wd_Raw cs hx (RR64 ip) (fun k => if k = 2 then (RM65 ip) else if k = 4 then (some ((PV j81).r 1)) else none) (RF67 ip) (RA68 ip) (fun _ _ => none), nA cs (RM65 ip) 36864 (RC69 ip), [(((PV j81).r 1), .inl (cs 0, (PV j81).cn, .inl (PV j81).cd))]]) hw (px_X.tot px_X.tt) (C := "HomeSystem$RawProcess") (owner := "HomeSystem$AnyProcess") (x := ⟨"HomeSystem$AnyProcess", "go", "()V"⟩) (px_recv hT hw 6 0 rfl rfl rfl) m8_168 m8_163 m8_165 m8_167 m8_166 m1_34 m8_164n ⟨by decide, by decide⟩ rfl q_Raw_go ⟨Nat.le_of_ble_eq_true rfl, Nat.le_of_ble_eq_true rfl⟩ hl.1 rfl (Nat.le_of_ble_eq_true rfl) d_Ker_advance_58 ⟨show (ce_24 + k72) + (nd (RM65 ip)) ≤ (5 * ndS 13 tq + 4 * ndS 13 rq + ndS 13 RM) from by omega, show (sl_24 + n73) + (36864 * nd (RM65 ip)) ≤ (9804 * ndS 13 tq + 342 * ndS 13 rq + 36864 * ndS 13 RM) from by omega⟩) hw hA (fun p90 k92 n93 H locs hp90 hw => ?_)
              dsimp only at hp90
              obtain ⟨f86, a87, o288, ma89, rfl, e94, e95, e96, e97, e98, e99, e100, e101, e102, e103, e104⟩ := hp90
              have e94 : 0 ≤ (f86 7).toInt := e94
              have e95 : (f86 7).toInt ≤ 1600 := e95
              have e96 : 0 ≤ (f86 10).toInt := e96
              have e97 : (f86 10).toInt + (f86 7).toInt ≤ 1600 := e97
              have e98 : (f86 14).toInt = 0 ∨ (f86 14).toInt = 1 := e98
              have e99 : (f86 14).toInt = 1 → 1 ≤ (f86 7).toInt := e99
              have e100 : (f86 8).toInt = ((RF67 ip) 8).toInt := e100
              have e101 : (f86 10).toInt = ((RF67 ip) 10).toInt := e101
              have e102 : (f86 13).toInt = ((RF67 ip) 13).toInt := e102
              have e103 : k92 + nd o288 ≤ nd (RM65 ip) := e103
              have e104 : n93 + 36864 * nd o288 ≤ 36864 * nd (RM65 ip) := e104
              have hw : pw D A s.heap H locs [wd_Ker cs hk kr (fun _ => none) kf ka59 (gKe pq pz56 tq57 rq58), fm 13 (fTx cs tq57 TR60 TO61 TF62 TA63), fo 13 (fRw cs rq58 RR64 RM65 RW66 RF67 RA68 RC69) ip, fo 8 (fPp cs pq PV) j81, wd_Prg cs hp81 (PV j81).r (fun k => if k = 2 then (PV j81).o else none) (PV j81).f (fun _ _ => 0) (fun _ _ => none), nA cs (PV j81).o (PV j81).fn (PV j81).fd, wd_Raw cs hx (RR64 ip) (fun k => if k = 2 then o288 else if k = 4 then (some ((PV j81).r 1)) else none) f86 a87 (fun _ _ => none), nA cs o288 36864 ma89, nA cs (some ((PV j81).r 1)) (PV j81).cn (PV j81).cd] := hw
              refine lv_aload_n S.x S.b d_Ker_advance_61 rfl (lv_at hl 2 rfl) ?_
              refine px_get S k_Raw hT hw 6 0 11 (v := .int (f86 11)) rfl rfl rfl (by decide) m6_139 d_Ker_advance_62 ?_
              refine lv_bipush (v := (-2)) S.x S.b d_Ker_advance_65 (by decide) ?_
              refine lv_icmp_ne (tgt := 74) S.x S.b d_Ker_advance_67 (by decide) (fun c105 => ?_) (fun c105 => ?_)
              · have nc105 : ¬ (f86 11).toInt = (-2 : Int) := mt (i_eq (x := (f86 11)) (y := (-2))).mpr c105
                refine lv_iconst (v := 0) S.x S.b d_Ker_advance_74 (by decide) ?_
                refine lv_istore_n (lv' := [(3, .int 0), (2, .int 1), (0, .ref hk), (1, .ref hx), (4, .int x24_4)]) S.x S.b d_Ker_advance_75 rfl hl (by decide) rfl (fun ls hl => ?_)
                obtain ⟨z107, ez107⟩ : ∃ y : Int32, y = x24_4 + 1 := ⟨_, rfl⟩
                have tz107 : z107.toInt = (x24_4.toInt + 1 + 2147483648) % 4294967296 - 2147483648 := by rw [ez107]; exact i_add x24_4 1
                have lz107 := Int32.le_toInt z107
                have uz107 := Int32.toInt_lt z107
                try replace tz107 : z107.toInt = x24_4.toInt + 1 := by omega
                refine lv_iinc (v := z107) (lv' := [(4, .int z107), (3, .int 0), (2, .int 1), (0, .ref hk), (1, .ref hx)]) S.x S.b d_Ker_advance_76 hl (k := 4) rfl (by rw [ez107]; rfl) (by decide) rfl (fun ls hl => ?_)
                refine lv_goto (tgt := 24) S.x S.b d_Ker_advance_79 (by decide) ?_
                have hw : pw D A s.heap _ _ [wd_Ker cs hk kr (fun _ => none) kf ka59 (gKe pq pz56 tq57 rq58), fm 13 (fTx cs tq57 TR60 TO61 TF62 TA63), fo 13 (fRw cs rq58 RR64 RM65 RW66 RF67 RA68 RC69) ip, fo 8 (fPp cs pq PV) j81, wd_Prg cs hp81 (PV j81).r (fun k => if k = 2 then (PV j81).o else none) (PV j81).f (fun _ _ => 0) (fun _ _ => none), nA cs (PV j81).o (PV j81).fn (PV j81).fd, wd_Raw cs hx (RR64 ip) (fun k => if k = 2 then o288 else if k = 4 then (some ((PV j81).r 1)) else none) f86 a87 (fun _ _ => none), nA cs o288 36864 ma89, [(((PV j81).r 1), .inl (cs 0, (PV j81).cn, .inl (PV j81).cd))]] := hw.eq rfl
                have hw : pw D A s.heap _ _ [wd_Ker cs hk kr (fun _ => none) kf ka59 (gKe pq pz56 tq57 rq58), fm 13 (fTx cs tq57 TR60 TO61 TF62 TA63), fo 13 (fRw cs rq58 RR64 RM65 RW66 RF67 RA68 RC69) ip, wd_Raw cs hx (RR64 ip) (fun k => if k = 2 then o288 else if k = 4 then (some ((PV j81).r 1)) else none) f86 a87 (fun _ _ => none), nA cs o288 36864 ma89, fo 8 (fPp cs pq PV) j81, wd_Prg cs hp81 (PV j81).r (fun k => if k = 2 then (PV j81).o else none) (PV j81).f (fun _ _ => 0) (fun _ _ => none), nA cs (PV j81).o (PV j81).fn (PV j81).fd, [(((PV j81).r 1), .inl (cs 0, (PV j81).cn, .inl (PV j81).cd))]] := hw.sub [0, 1, 2, 6, 7, 3, 4, 5, 8] rfl rfl
                have hw : pw D A s.heap _ _ [wd_Ker cs hk kr (fun _ => none) kf ka59 (gKe pq pz56 tq57 rq58), fm 13 (fTx cs tq57 TR60 TO61 TF62 TA63), fo 13 (fRw cs rq58 RR64 RM65 RW66 RF67 RA68 RC69) ip, wd_Raw cs hx (RR64 ip) (fun k => if k = 2 then o288 else if k = 4 then (some ((PV j81).r 1)) else none) f86 a87 (fun _ _ => none), nA cs o288 36864 ma89, fm 8 (fPp cs pq PV)] := fpp_back (pr := [wd_Ker cs hk kr (fun _ => none) kf ka59 (gKe pq pz56 tq57 rq58), fm 13 (fTx cs tq57 TR60 TO61 TF62 TA63), fo 13 (fRw cs rq58 RR64 RM65 RW66 RF67 RA68 RC69) ip, wd_Raw cs hx (RR64 ip) (fun k => if k = 2 then o288 else if k = 4 then (some ((PV j81).r 1)) else none) f86 a87 (fun _ _ => none), nA cs o288 36864 ma89]) hw hj81 hjq81
                have hw : pw D A s.heap _ _ [wd_Ker cs hk kr (fun _ => none) kf ka59 (gKe pq pz56 tq57 rq58), fm 13 (fTx cs tq57 TR60 TO61 TF62 TA63), fm 8 (fPp cs pq PV), fo 13 (fRw cs rq58 RR64 RM65 RW66 RF67 RA68 RC69) ip, wd_Raw cs hx (RR64 ip) (fun k => if k = 2 then o288 else if k = 4 then (some ((PV j81).r 1)) else none) f86 a87 (fun _ _ => none), nA cs o288 36864 ma89] := hw.sub [0, 1, 5, 2, 3, 4] rfl rfl
                have hw := frw_in0 (pr := [wd_Ker cs hk kr (fun _ => none) kf ka59 (gKe pq pz56 tq57 rq58), fm 13 (fTx cs tq57 TR60 TO61 TF62 TA63), fm 8 (fPp cs pq PV)]) hw hip e75.1 hto81
                obtain ⟨RM108, hu_RM108⟩ : ∃ y : Nat → Option Nat, y = va_up RM65 ip o288 := ⟨_, rfl⟩
                obtain ⟨RF109, hu_RF109⟩ : ∃ y : Nat → Nat → Int32, y = va_up RF67 ip f86 := ⟨_, rfl⟩
                obtain ⟨RA110, hu_RA110⟩ : ∃ y : Nat → Nat → Nat → Int32, y = va_up RA68 ip a87 := ⟨_, rfl⟩
                obtain ⟨RC111, hu_RC111⟩ : ∃ y : Nat → Nat → Int32, y = va_up RC69 ip ma89 := ⟨_, rfl⟩
                have hw : pw D A s.heap _ _ [wd_Ker cs hk kr (fun _ => none) kf ka59 (gKe pq pz56 tq57 rq58), fm 13 (fTx cs tq57 TR60 TO61 TF62 TA63), fm 8 (fPp cs pq PV), fm 13 (fRw cs rq58 RR64 RM108 RW66 RF109 RA110 RC111)] := (by rw [hu_RM108, hu_RF109, hu_RA110, hu_RC111]; exact hw)
                have hki : KnI pq PV pz56 tq57 rq58 TO61 TF62 TA63 RW66 RF109 := (by rw [hu_RF109]; exact hki.upR (show RwN ip f86 from ⟨(show (0 ≤ (f86 7).toInt ∧ (f86 7).toInt ≤ 1600) ∧ (0 ≤ (f86 10).toInt ∧ (f86 10).toInt + (f86 7).toInt ≤ 1600) ∧ ((f86 14).toInt = 0 ∨ (f86 14).toInt = 1) ∧ ((f86 14).toInt = 1 → 1 ≤ (f86 7).toInt) from by omega), (show ((f86 8).toInt) = ((ip : Nat) : Int) from by omega), (show 0 ≤ (f86 13).toInt ∧ (f86 13).toInt ≤ 3 ∧ ((f86 13).toInt = 0 ∨ 3 * ((ip : Nat) : Int) + (f86 13).toInt ≤ 12) from by omega)⟩))
                have hrm : RmI rq58 RM108 := (by rw [hu_RM108]; exact hrm.up e75.1)
                have hnd_RM108 := ndS_up 13 RM65 ip o288 hip; rw [← hu_RM108] at hnd_RM108
                have hz14_RF109 : (RF109 ip 14).toInt = (f86 14).toInt := (by rw [hu_RF109, va_up_s]; try rfl)
                have hw : pw D A s.heap _ _ [wd_Ker cs hk kr (fun _ => none) kf ka59 (gKe pq pz56 tq57 rq58), fm 13 (fTx cs tq57 TR60 TO61 TF62 TA63), fm 13 (fRw cs rq58 RR64 RM108 RW66 RF109 RA110 RC111), fm 8 (fPp cs pq PV)] := hw.sub [0, 1, 3, 2] rfl rfl
                exact ih24 ((ce_24 + k72) + k92) ((sl_24 + n73) + n93) pz56 tq57 rq58 ka59 TR60 TO61 TF62 TA63 RR64 RM108 RW66 RF109 RA110 RC111 (1 : Int32) (0 : Int32) z107 _ _ ls (show KnI pq PV pz56 tq57 rq58 TO61 TF62 TA63 RW66 RF109 from hki) (show RoI ka59 from hro) (show RmI rq58 RM108 from hrm) (show CuR pq PV rq58 RW66 ip hx from e75) (show 0 ≤ (1 : Int) from by first | exact oz_19c3a41681 | omega) (show (1 : Int) ≤ 1 from by first | exact oz_f9181dc4bb | omega) (show 0 ≤ (0 : Int) from by first | exact oz_5a341f00aa | omega) (show (0 : Int) ≤ 1 from by first | exact oz_6e68cd0f48 | omega) (show 0 ≤ z107.toInt from by first | exact oz_ae613611c0 tz107 k24_8 | omega) (show z107.toInt ≤ 1000000 from by first | exact oz_596acb4ef1 tz107 nc3 | omega) (show ((ce_24 + k72) + k92) + (5 * ndS 13 tq57 + 4 * ndS 13 rq58 + ndS 13 RM108) ≤ 5 * ndS 13 tq + 4 * ndS 13 rq + ndS 13 RM from by omega) (show ((sl_24 + n73) + n93) + (9804 * ndS 13 tq57 + 342 * ndS 13 rq58 + 36864 * ndS 13 RM108) ≤ 9804 * ndS 13 tq + 342 * ndS 13 rq + 36864 * ndS 13 RM from by omega) (show 1000000 - z107.toInt < (n_24 : Int) from by first | exact oz_301bb61272 hm tz107 | omega) hw (lv_sub hl [3, 4, 2, 1, 0] rfl)
              · have nc105 : (f86 11).toInt = (-2 : Int) := (i_eq (x := (f86 11)) (y := (-2))).mp c105
                refine lv_iconst (v := 1) S.x S.b d_Ker_advance_70 (by decide) ?_
                refine lv_goto (tgt := 75) S.x S.b d_Ker_advance_71 (by decide) ?_
                refine lv_istore_n (lv' := [(3, .int 1), (2, .int 1), (0, .ref hk), (1, .ref hx), (4, .int x24_4)]) S.x S.b d_Ker_advance_75 rfl hl (by decide) rfl (fun ls hl => ?_)
                obtain ⟨z112, ez112⟩ : ∃ y : Int32, y = x24_4 + 1 := ⟨_, rfl⟩
                have tz112 : z112.toInt = (x24_4.toInt + 1 + 2147483648) % 4294967296 - 2147483648 := by rw [ez112]; exact i_add x24_4 1
                have lz112 := Int32.le_toInt z112
                have uz112 := Int32.toInt_lt z112
                try replace tz112 : z112.toInt = x24_4.toInt + 1 := by omega
                refine lv_iinc (v := z112) (lv' := [(4, .int z112), (3, .int 1), (2, .int 1), (0, .ref hk), (1, .ref hx)]) S.x S.b d_Ker_advance_76 hl (k := 4) rfl (by rw [ez112]; rfl) (by decide) rfl (fun ls hl => ?_)
                refine lv_goto (tgt := 24) S.x S.b d_Ker_advance_79 (by decide) ?_
                have hw : pw D A s.heap _ _ [wd_Ker cs hk kr (fun _ => none) kf ka59 (gKe pq pz56 tq57 rq58), fm 13 (fTx cs tq57 TR60 TO61 TF62 TA63), fo 13 (fRw cs rq58 RR64 RM65 RW66 RF67 RA68 RC69) ip, fo 8 (fPp cs pq PV) j81, wd_Prg cs hp81 (PV j81).r (fun k => if k = 2 then (PV j81).o else none) (PV j81).f (fun _ _ => 0) (fun _ _ => none), nA cs (PV j81).o (PV j81).fn (PV j81).fd, wd_Raw cs hx (RR64 ip) (fun k => if k = 2 then o288 else if k = 4 then (some ((PV j81).r 1)) else none) f86 a87 (fun _ _ => none), nA cs o288 36864 ma89, [(((PV j81).r 1), .inl (cs 0, (PV j81).cn, .inl (PV j81).cd))]] := hw.eq rfl
                have hw : pw D A s.heap _ _ [wd_Ker cs hk kr (fun _ => none) kf ka59 (gKe pq pz56 tq57 rq58), fm 13 (fTx cs tq57 TR60 TO61 TF62 TA63), fo 13 (fRw cs rq58 RR64 RM65 RW66 RF67 RA68 RC69) ip, wd_Raw cs hx (RR64 ip) (fun k => if k = 2 then o288 else if k = 4 then (some ((PV j81).r 1)) else none) f86 a87 (fun _ _ => none), nA cs o288 36864 ma89, fo 8 (fPp cs pq PV) j81, wd_Prg cs hp81 (PV j81).r (fun k => if k = 2 then (PV j81).o else none) (PV j81).f (fun _ _ => 0) (fun _ _ => none), nA cs (PV j81).o (PV j81).fn (PV j81).fd, [(((PV j81).r 1), .inl (cs 0, (PV j81).cn, .inl (PV j81).cd))]] := hw.sub [0, 1, 2, 6, 7, 3, 4, 5, 8] rfl rfl
                have hw : pw D A s.heap _ _ [wd_Ker cs hk kr (fun _ => none) kf ka59 (gKe pq pz56 tq57 rq58), fm 13 (fTx cs tq57 TR60 TO61 TF62 TA63), fo 13 (fRw cs rq58 RR64 RM65 RW66 RF67 RA68 RC69) ip, wd_Raw cs hx (RR64 ip) (fun k => if k = 2 then o288 else if k = 4 then (some ((PV j81).r 1)) else none) f86 a87 (fun _ _ => none), nA cs o288 36864 ma89, fm 8 (fPp cs pq PV)] := fpp_back (pr := [wd_Ker cs hk kr (fun _ => none) kf ka59 (gKe pq pz56 tq57 rq58), fm 13 (fTx cs tq57 TR60 TO61 TF62 TA63), fo 13 (fRw cs rq58 RR64 RM65 RW66 RF67 RA68 RC69) ip, wd_Raw cs hx (RR64 ip) (fun k => if k = 2 then o288 else if k = 4 then (some ((PV j81).r 1)) else none) f86 a87 (fun _ _ => none), nA cs o288 36864 ma89]) hw hj81 hjq81
                have hw : pw D A s.heap _ _ [wd_Ker cs hk kr (fun _ => none) kf ka59 (gKe pq pz56 tq57 rq58), fm 13 (fTx cs tq57 TR60 TO61 TF62 TA63), fm 8 (fPp cs pq PV), fo 13 (fRw cs rq58 RR64 RM65 RW66 RF67 RA68 RC69) ip, wd_Raw cs hx (RR64 ip) (fun k => if k = 2 then o288 else if k = 4 then (some ((PV j81).r 1)) else none) f86 a87 (fun _ _ => none), nA cs o288 36864 ma89] := hw.sub [0, 1, 5, 2, 3, 4] rfl rfl
                have hw := frw_in0 (pr := [wd_Ker cs hk kr (fun _ => none) kf ka59 (gKe pq pz56 tq57 rq58), fm 13 (fTx cs tq57 TR60 TO61 TF62 TA63), fm 8 (fPp cs pq PV)]) hw hip e75.1 hto81
                obtain ⟨RM113, hu_RM113⟩ : ∃ y : Nat → Option Nat, y = va_up RM65 ip o288 := ⟨_, rfl⟩
                obtain ⟨RF114, hu_RF114⟩ : ∃ y : Nat → Nat → Int32, y = va_up RF67 ip f86 := ⟨_, rfl⟩
                obtain ⟨RA115, hu_RA115⟩ : ∃ y : Nat → Nat → Nat → Int32, y = va_up RA68 ip a87 := ⟨_, rfl⟩
                obtain ⟨RC116, hu_RC116⟩ : ∃ y : Nat → Nat → Int32, y = va_up RC69 ip ma89 := ⟨_, rfl⟩
                have hw : pw D A s.heap _ _ [wd_Ker cs hk kr (fun _ => none) kf ka59 (gKe pq pz56 tq57 rq58), fm 13 (fTx cs tq57 TR60 TO61 TF62 TA63), fm 8 (fPp cs pq PV), fm 13 (fRw cs rq58 RR64 RM113 RW66 RF114 RA115 RC116)] := (by rw [hu_RM113, hu_RF114, hu_RA115, hu_RC116]; exact hw)
                have hki : KnI pq PV pz56 tq57 rq58 TO61 TF62 TA63 RW66 RF114 := (by rw [hu_RF114]; exact hki.upR (show RwN ip f86 from ⟨(show (0 ≤ (f86 7).toInt ∧ (f86 7).toInt ≤ 1600) ∧ (0 ≤ (f86 10).toInt ∧ (f86 10).toInt + (f86 7).toInt ≤ 1600) ∧ ((f86 14).toInt = 0 ∨ (f86 14).toInt = 1) ∧ ((f86 14).toInt = 1 → 1 ≤ (f86 7).toInt) from by omega), (show ((f86 8).toInt) = ((ip : Nat) : Int) from by omega), (show 0 ≤ (f86 13).toInt ∧ (f86 13).toInt ≤ 3 ∧ ((f86 13).toInt = 0 ∨ 3 * ((ip : Nat) : Int) + (f86 13).toInt ≤ 12) from by omega)⟩))
                have hrm : RmI rq58 RM113 := (by rw [hu_RM113]; exact hrm.up e75.1)
                have hnd_RM113 := ndS_up 13 RM65 ip o288 hip; rw [← hu_RM113] at hnd_RM113
                have hz14_RF114 : (RF114 ip 14).toInt = (f86 14).toInt := (by rw [hu_RF114, va_up_s]; try rfl)
                have hw : pw D A s.heap _ _ [wd_Ker cs hk kr (fun _ => none) kf ka59 (gKe pq pz56 tq57 rq58), fm 13 (fTx cs tq57 TR60 TO61 TF62 TA63), fm 13 (fRw cs rq58 RR64 RM113 RW66 RF114 RA115 RC116), fm 8 (fPp cs pq PV)] := hw.sub [0, 1, 3, 2] rfl rfl
                exact ih24 ((ce_24 + k72) + k92) ((sl_24 + n73) + n93) pz56 tq57 rq58 ka59 TR60 TO61 TF62 TA63 RR64 RM113 RW66 RF114 RA115 RC116 (1 : Int32) (1 : Int32) z112 _ _ ls (show KnI pq PV pz56 tq57 rq58 TO61 TF62 TA63 RW66 RF114 from hki) (show RoI ka59 from hro) (show RmI rq58 RM113 from hrm) (show CuR pq PV rq58 RW66 ip hx from e75) (show 0 ≤ (1 : Int) from by first | exact oz_19c3a41681 | omega) (show (1 : Int) ≤ 1 from by first | exact oz_f9181dc4bb | omega) (show 0 ≤ (1 : Int) from by first | exact oz_19c3a41681 | omega) (show (1 : Int) ≤ 1 from by first | exact oz_f9181dc4bb | omega) (show 0 ≤ z112.toInt from by first | exact oz_ae613611c0 tz112 k24_8 | omega) (show z112.toInt ≤ 1000000 from by first | exact oz_596acb4ef1 tz112 nc3 | omega) (show ((ce_24 + k72) + k92) + (5 * ndS 13 tq57 + 4 * ndS 13 rq58 + ndS 13 RM113) ≤ 5 * ndS 13 tq + 4 * ndS 13 rq + ndS 13 RM from by omega) (show ((sl_24 + n73) + n93) + (9804 * ndS 13 tq57 + 342 * ndS 13 rq58 + 36864 * ndS 13 RM113) ≤ 9804 * ndS 13 tq + 342 * ndS 13 rq + 36864 * ndS 13 RM from by omega) (show 1000000 - z112.toInt < (n_24 : Int) from by first | exact oz_301bb61272 hm tz112 | omega) hw (lv_sub hl [3, 4, 2, 1, 0] rfl)
            · have nc82 : v71.toInt = (0 : Int) := (i_eq (x := v71) (y := 0)).mp c82
              refine lv_iconst (v := 0) S.x S.b d_Ker_advance_50 (by decide) ?_
              refine lv_istore_n (lv' := [(3, .int 0), (0, .ref hk), (1, .ref hx), (2, .int x24_2), (4, .int x24_4)]) S.x S.b d_Ker_advance_51 rfl hl (by decide) rfl (fun ls hl => ?_)
              refine lv_goto (tgt := 76) S.x S.b d_Ker_advance_52 (by decide) ?_
              obtain ⟨z117, ez117⟩ : ∃ y : Int32, y = x24_4 + 1 := ⟨_, rfl⟩
              have tz117 : z117.toInt = (x24_4.toInt + 1 + 2147483648) % 4294967296 - 2147483648 := by rw [ez117]; exact i_add x24_4 1
              have lz117 := Int32.le_toInt z117
              have uz117 := Int32.toInt_lt z117
              try replace tz117 : z117.toInt = x24_4.toInt + 1 := by omega
              refine lv_iinc (v := z117) (lv' := [(4, .int z117), (3, .int 0), (0, .ref hk), (1, .ref hx), (2, .int x24_2)]) S.x S.b d_Ker_advance_76 hl (k := 4) rfl (by rw [ez117]; rfl) (by decide) rfl (fun ls hl => ?_)
              refine lv_goto (tgt := 24) S.x S.b d_Ker_advance_79 (by decide) ?_
              exact ih24 (ce_24 + k72) (sl_24 + n73) pz56 tq57 rq58 ka59 TR60 TO61 TF62 TA63 RR64 RM65 RW66 RF67 RA68 RC69 x24_2 (0 : Int32) z117 _ _ ls (show KnI pq PV pz56 tq57 rq58 TO61 TF62 TA63 RW66 RF67 from hki) (show RoI ka59 from hro) (show RmI rq58 RM65 from hrm) (show CuR pq PV rq58 RW66 ip hx from e75) (show 0 ≤ x24_2.toInt from by first | exact k24_4 | omega) (show x24_2.toInt ≤ 1 from by first | exact k24_5 | omega) (show 0 ≤ (0 : Int) from by first | exact oz_5a341f00aa | omega) (show (0 : Int) ≤ 1 from by first | exact oz_6e68cd0f48 | omega) (show 0 ≤ z117.toInt from by first | exact oz_ae613611c0 tz117 k24_8 | omega) (show z117.toInt ≤ 1000000 from by first | exact oz_596acb4ef1 tz117 nc3 | omega) (show (ce_24 + k72) + (5 * ndS 13 tq57 + 4 * ndS 13 rq58 + ndS 13 RM65) ≤ 5 * ndS 13 tq + 4 * ndS 13 rq + ndS 13 RM from by first | exact oz_09730e4356 k24_10 e79 | omega) (show (sl_24 + n73) + (9804 * ndS 13 tq57 + 342 * ndS 13 rq58 + 36864 * ndS 13 RM65) ≤ 9804 * ndS 13 tq + 342 * ndS 13 rq + 36864 * ndS 13 RM from by first | exact oz_0d0bbc14c3 k24_11 e80 | omega) (show 1000000 - z117.toInt < (n_24 : Int) from by first | exact oz_301bb61272 hm tz117 | omega) hw (lv_sub hl [2, 3, 4, 1, 0] rfl)
  refine lv_iconst (v := 0) S.x S.b d_Ker_advance_0 (by decide) ?_
  obtain ⟨j118, hp118, hj118, hjq118, hto118⟩ := hcu.2
  refine lv_istore_n (lv' := [(2, .int 0), (0, .ref hk), (1, .ref hx)]) S.x S.b d_Ker_advance_1 rfl hl (by decide) rfl (fun ls hl => ?_)
  refine lv_aload_n S.x S.b d_Ker_advance_2 rfl (lv_at hl 2 rfl) ?_
  refine lv_ifnull S.x S.b d_Ker_advance_3 ?_
  refine lv_aload_n S.x S.b d_Ker_advance_6 rfl (lv_at hl 2 rfl) ?_
  have hw : pw D A s.heap _ _ [wd_Ker cs hk kr (fun _ => none) kf ka (gKe pq pz tq rq), fm 13 (fTx cs tq TR TO TF TA), fm 8 (fPp cs pq PV), fm 13 (fRw cs rq RR RM RW RF RA RC)] := hw.sub [0, 1, 3, 2] rfl rfl
  have hw : pw D A s.heap _ _ [wd_Ker cs hk kr (fun _ => none) kf ka (gKe pq pz tq rq), fm 13 (fTx cs tq TR TO TF TA), fm 8 (fPp cs pq PV), fo 13 (fRw cs rq RR RM RW RF RA RC) ip, wd_Raw cs hx (RR ip) (fun k => if k = 2 then (RM ip) else if k = 4 then (some ((PV j118).r 1)) else none) (RF ip) (RA ip) (fun _ _ => none), nA cs (RM ip) 36864 (RC ip)] := frw_out (pr := [wd_Ker cs hk kr (fun _ => none) kf ka (gKe pq pz tq rq), fm 13 (fTx cs tq TR TO TF TA), fm 8 (fPp cs pq PV)]) hw hip hcu.1 hto118
  have hng119 := ndS_ge 13 RM ip hip
  have hrn119 : RwN ip (RF ip) := hki.2.2.1 ip hip _ hcu.1
  have hro119 := hrn119.1
  unfold RwO at hro119
  have hid119 := hrn119.2.1
  have hch119 := hrn119.2.2
  unfold KcI at hch119
  refine px_get S k_Raw hT hw 4 0 11 (v := .int ((RF ip) 11)) rfl rfl rfl (by decide) m6_139 d_Ker_advance_7 ?_
  refine lv_bipush (v := (-2)) S.x S.b d_Ker_advance_10 (by decide) ?_
  refine lv_icmp_ne (tgt := 19) S.x S.b d_Ker_advance_12 (by decide) (fun c120 => ?_) (fun c120 => ?_)
  · have nc120 : ¬ ((RF ip) 11).toInt = (-2 : Int) := mt (i_eq (x := ((RF ip) 11)) (y := (-2))).mpr c120
    refine lv_iconst (v := 0) S.x S.b d_Ker_advance_19 (by decide) ?_
    refine lv_istore_n (lv' := [(3, .int 0), (2, .int 0), (0, .ref hk), (1, .ref hx)]) S.x S.b d_Ker_advance_20 rfl hl (by decide) rfl (fun ls hl => ?_)
    refine lv_iconst (v := 0) S.x S.b d_Ker_advance_21 (by decide) ?_
    refine lv_istore (lv' := [(4, .int 0), (3, .int 0), (2, .int 0), (0, .ref hk), (1, .ref hx)]) S.x S.b d_Ker_advance_22 hl (by decide) rfl (fun ls hl => ?_)
    have hw : pw D A s.heap _ _ [wd_Ker cs hk kr (fun _ => none) kf ka (gKe pq pz tq rq), fm 13 (fTx cs tq TR TO TF TA), fm 8 (fPp cs pq PV), fm 13 (fRw cs rq RR RM RW RF RA RC)] := frw_back (pr := [wd_Ker cs hk kr (fun _ => none) kf ka (gKe pq pz tq rq), fm 13 (fTx cs tq TR TO TF TA), fm 8 (fPp cs pq PV)]) hw hip hcu.1 hto118
    have hw : pw D A s.heap _ _ [wd_Ker cs hk kr (fun _ => none) kf ka (gKe pq pz tq rq), fm 13 (fTx cs tq TR TO TF TA), fm 13 (fRw cs rq RR RM RW RF RA RC), fm 8 (fPp cs pq PV)] := hw.sub [0, 1, 3, 2] rfl rfl
    exact J24 ((1000000 - (0 : Int)).toNat + 1) 0 0 pz tq rq ka TR TO TF TA RR RM RW RF RA RC (0 : Int32) (0 : Int32) (0 : Int32) _ _ ls (show KnI pq PV pz tq rq TO TF TA RW RF from hki) (show RoI ka from hro) (show RmI rq RM from hrm) (show CuR pq PV rq RW ip hx from hcu) (show 0 ≤ (0 : Int) from by first | exact oz_5a341f00aa | omega) (show (0 : Int) ≤ 1 from by first | exact oz_6e68cd0f48 | omega) (show 0 ≤ (0 : Int) from by first | exact oz_5a341f00aa | omega) (show (0 : Int) ≤ 1 from by first | exact oz_6e68cd0f48 | omega) (show 0 ≤ (0 : Int) from by first | exact oz_5a341f00aa | omega) (show (0 : Int) ≤ 1000000 from by first | exact oz_302d31b646 | omega) (show 0 + (5 * ndS 13 tq + 4 * ndS 13 rq + ndS 13 RM) ≤ 5 * ndS 13 tq + 4 * ndS 13 rq + ndS 13 RM from by first | exact oz_9d19b050ad | omega) (show 0 + (9804 * ndS 13 tq + 342 * ndS 13 rq + 36864 * ndS 13 RM) ≤ 9804 * ndS 13 tq + 342 * ndS 13 rq + 36864 * ndS 13 RM from by first | exact oz_b5592d0ae7 | omega) (show 1000000 - (0 : Int) < ((((1000000 - (0 : Int)).toNat + 1 : Nat) : Int) : Int) from by first | exact oz_natlt | omega) hw (lv_sub hl [3, 4, 2, 1, 0] rfl)
  · have nc120 : ((RF ip) 11).toInt = (-2 : Int) := (i_eq (x := ((RF ip) 11)) (y := (-2))).mp c120
    refine lv_iconst (v := 1) S.x S.b d_Ker_advance_15 (by decide) ?_
    refine lv_goto (tgt := 20) S.x S.b d_Ker_advance_16 (by decide) ?_
    refine lv_istore_n (lv' := [(3, .int 1), (2, .int 0), (0, .ref hk), (1, .ref hx)]) S.x S.b d_Ker_advance_20 rfl hl (by decide) rfl (fun ls hl => ?_)
    refine lv_iconst (v := 0) S.x S.b d_Ker_advance_21 (by decide) ?_
    refine lv_istore (lv' := [(4, .int 0), (3, .int 1), (2, .int 0), (0, .ref hk), (1, .ref hx)]) S.x S.b d_Ker_advance_22 hl (by decide) rfl (fun ls hl => ?_)
    have hw : pw D A s.heap _ _ [wd_Ker cs hk kr (fun _ => none) kf ka (gKe pq pz tq rq), fm 13 (fTx cs tq TR TO TF TA), fm 8 (fPp cs pq PV), fm 13 (fRw cs rq RR RM RW RF RA RC)] := frw_back (pr := [wd_Ker cs hk kr (fun _ => none) kf ka (gKe pq pz tq rq), fm 13 (fTx cs tq TR TO TF TA), fm 8 (fPp cs pq PV)]) hw hip hcu.1 hto118
    have hw : pw D A s.heap _ _ [wd_Ker cs hk kr (fun _ => none) kf ka (gKe pq pz tq rq), fm 13 (fTx cs tq TR TO TF TA), fm 13 (fRw cs rq RR RM RW RF RA RC), fm 8 (fPp cs pq PV)] := hw.sub [0, 1, 3, 2] rfl rfl
    exact J24 ((1000000 - (0 : Int)).toNat + 1) 0 0 pz tq rq ka TR TO TF TA RR RM RW RF RA RC (0 : Int32) (1 : Int32) (0 : Int32) _ _ ls (show KnI pq PV pz tq rq TO TF TA RW RF from hki) (show RoI ka from hro) (show RmI rq RM from hrm) (show CuR pq PV rq RW ip hx from hcu) (show 0 ≤ (0 : Int) from by first | exact oz_5a341f00aa | omega) (show (0 : Int) ≤ 1 from by first | exact oz_6e68cd0f48 | omega) (show 0 ≤ (1 : Int) from by first | exact oz_19c3a41681 | omega) (show (1 : Int) ≤ 1 from by first | exact oz_f9181dc4bb | omega) (show 0 ≤ (0 : Int) from by first | exact oz_5a341f00aa | omega) (show (0 : Int) ≤ 1000000 from by first | exact oz_302d31b646 | omega) (show 0 + (5 * ndS 13 tq + 4 * ndS 13 rq + ndS 13 RM) ≤ 5 * ndS 13 tq + 4 * ndS 13 rq + ndS 13 RM from by first | exact oz_9d19b050ad | omega) (show 0 + (9804 * ndS 13 tq + 342 * ndS 13 rq + 36864 * ndS 13 RM) ≤ 9804 * ndS 13 tq + 342 * ndS 13 rq + 36864 * ndS 13 RM from by first | exact oz_b5592d0ae7 | omega) (show 1000000 - (0 : Int) < ((((1000000 - (0 : Int)).toNat + 1 : Nat) : Int) : Int) from by first | exact oz_natlt | omega) hw (lv_sub hl [3, 4, 2, 1, 0] rfl)
set_option maxHeartbeats 4000000 in
set_option maxRecDepth 100000 in
theorem c_k_advance_n (l : Launch) (D : va_G) (cs : Nat → ClassId) (hk : Nat) (kr : Nat → Nat) (pq : Nat → Option Nat) (kf : Nat → Int32) (PV : Nat → Pvs) (pz : Nat → Option Nat) (tq : Nat → Option Nat) (rq : Nat → Option Nat) (ka : Nat → Nat → Int32) (TR : Nat → Nat → Nat) (TO : Nat → Option Nat) (TF : Nat → Nat → Int32) (TA : Nat → Nat → Nat → Int32) (RR : Nat → Nat → Nat) (RM : Nat → Option Nat) (RW : Nat → Option Nat) (RF : Nat → Nat → Int32) (RA : Nat → Nat → Nat → Int32) (RC : Nat → Nat → Int32)  (hki : KnI pq PV pz tq rq TO TF TA RW RF) (hro : RoI ka) (hrm : RmI rq RM) : MgI l y_Ker_advance b_Ker_advance 5 (.boolean) D cs 0 0 ((5 * ndS 13 tq + 4 * ndS 13 rq + ndS 13 RM)) ((9804 * ndS 13 tq + 342 * ndS 13 rq + 36864 * ndS 13 RM)) [.ref hk, .null] [wd_Ker cs hk kr (fun _ => none) kf ka (gKe pq pz tq rq), fm 13 (fTx cs tq TR TO TF TA), fm 13 (fRw cs rq RR RM RW RF RA RC), fm 8 (fPp cs pq PV)] (fun _ => True) (fun v ps => ∃ (pz' : Nat → Option Nat) (tq' : Nat → Option Nat) (rq' : Nat → Option Nat) (ka' : Nat → Nat → Int32) (TR' : Nat → Nat → Nat) (TO' : Nat → Option Nat) (TF' : Nat → Nat → Int32) (TA' : Nat → Nat → Nat → Int32) (RR' : Nat → Nat → Nat) (RM' : Nat → Option Nat) (RW' : Nat → Option Nat) (RF' : Nat → Nat → Int32) (RA' : Nat → Nat → Nat → Int32) (RC' : Nat → Nat → Int32), (ps.1 = [wd_Ker cs hk kr (fun _ => none) kf ka' (gKe pq pz' tq' rq'), fm 13 (fTx cs tq' TR' TO' TF' TA'), fm 13 (fRw cs rq' RR' RM' RW' RF' RA' RC'), fm 8 (fPp cs pq PV)]) ∧ (v = 0 ∨ v = 1) ∧ (KnI pq PV pz' tq' rq' TO' TF' TA' RW' RF') ∧ (RoI ka') ∧ (RmI rq' RM') ∧ (ps.2.1 + (5 * ndS 13 tq' + 4 * ndS 13 rq' + ndS 13 RM') ≤ 5 * ndS 13 tq + 4 * ndS 13 rq + ndS 13 RM) ∧ (ps.2.2 + (9804 * ndS 13 tq' + 342 * ndS 13 rq' + 36864 * ndS 13 RM') ≤ 9804 * ndS 13 tq + 342 * ndS 13 rq + 36864 * ndS 13 RM)) := by
  refine pg_enter (by decide) (Nat.le_of_ble_eq_true rfl) ?_
  intro p e s m below meth c A ls hAe S hr hlk hnm hA hT hX hw hl
  have hl : lv_has ls 5 [(0, .ref hk), (1, .null)] := hl
  have cstm2 : ((-2) : Int32).toInt = (-2) := rfl
  have cst0 : (0 : Int32).toInt = 0 := rfl
  have cst1 : (1 : Int32).toInt = 1 := rfl
  have J24 : ∀ (n_24 : Nat) (ce_24 sl_24 : Nat) (pz_24 : Nat → Option Nat) (tq_24 : Nat → Option Nat) (rq_24 : Nat → Option Nat) (ka_24 : Nat → Nat → Int32) (TR_24 : Nat → Nat → Nat) (TO_24 : Nat → Option Nat) (TF_24 : Nat → Nat → Int32) (TA_24 : Nat → Nat → Nat → Int32) (RR_24 : Nat → Nat → Nat) (RM_24 : Nat → Option Nat) (RW_24 : Nat → Option Nat) (RF_24 : Nat → Nat → Int32) (RA_24 : Nat → Nat → Nat → Int32) (RC_24 : Nat → Nat → Int32) (x24_2 x24_3 x24_4 : Int32) (H : Heap) (locs : List Loc) (ls : Array Slot), (KnI pq PV pz_24 tq_24 rq_24 TO_24 TF_24 TA_24 RW_24 RF_24) → (RoI ka_24) → (RmI rq_24 RM_24) → (x24_2.toInt = 0) → (x24_3.toInt = 0) → (0 ≤ x24_4.toInt) → (x24_4.toInt ≤ 1000000) → (ce_24 + (5 * ndS 13 tq_24 + 4 * ndS 13 rq_24 + ndS 13 RM_24) ≤ 5 * ndS 13 tq + 4 * ndS 13 rq + ndS 13 RM) → (sl_24 + (9804 * ndS 13 tq_24 + 342 * ndS 13 rq_24 + 36864 * ndS 13 RM_24) ≤ 9804 * ndS 13 tq + 342 * ndS 13 rq + 36864 * ndS 13 RM) → 1000000 - x24_4.toInt < (n_24 : Int) → pw D A s.heap H locs [wd_Ker cs hk kr (fun _ => none) kf ka_24 (gKe pq pz_24 tq_24 rq_24), fm 13 (fTx cs tq_24 TR_24 TO_24 TF_24 TA_24), fm 13 (fRw cs rq_24 RR_24 RM_24 RW_24 RF_24 RA_24 RC_24), fm 8 (fPp cs pq PV)] → lv_has ls 5 [(0, .ref hk), (1, .null), (2, .int x24_2), (3, .int x24_3), (4, .int x24_4)] → W p l e { frames := 0, cells := (5 * ndS 13 tq + 4 * ndS 13 rq + ndS 13 RM), slots := (9804 * ndS 13 tq + 342 * ndS 13 rq + 36864 * ndS 13 RM), locals := 0 } s m [.ref hk, .null].toArray below meth c H locs ce_24 sl_24 (MQ below (va_Qi (fun v ps => ∃ (pz' : Nat → Option Nat) (tq' : Nat → Option Nat) (rq' : Nat → Option Nat) (ka' : Nat → Nat → Int32) (TR' : Nat → Nat → Nat) (TO' : Nat → Option Nat) (TF' : Nat → Nat → Int32) (TA' : Nat → Nat → Nat → Int32) (RR' : Nat → Nat → Nat) (RM' : Nat → Option Nat) (RW' : Nat → Option Nat) (RF' : Nat → Nat → Int32) (RA' : Nat → Nat → Nat → Int32) (RC' : Nat → Nat → Int32), (ps.1 = [wd_Ker cs hk kr (fun _ => none) kf ka' (gKe pq pz' tq' rq'), fm 13 (fTx cs tq' TR' TO' TF' TA'), fm 13 (fRw cs rq' RR' RM' RW' RF' RA' RC'), fm 8 (fPp cs pq PV)]) ∧ (v = 0 ∨ v = 1) ∧ (KnI pq PV pz' tq' rq' TO' TF' TA' RW' RF') ∧ (RoI ka') ∧ (RmI rq' RM') ∧ (ps.2.1 + (5 * ndS 13 tq' + 4 * ndS 13 rq' + ndS 13 RM') ≤ 5 * ndS 13 tq + 4 * ndS 13 rq + ndS 13 RM) ∧ (ps.2.2 + (9804 * ndS 13 tq' + 342 * ndS 13 rq' + 36864 * ndS 13 RM') ≤ 9804 * ndS 13 tq + 342 * ndS 13 rq + 36864 * ndS 13 RM)) (pg_B D (va_A ([wd_Ker cs hk kr (fun _ => none) kf ka (gKe pq pz tq rq), fm 13 (fTx cs tq TR TO TF TA), fm 13 (fRw cs rq RR RM RW RF RA RC), fm 8 (fPp cs pq PV)] : List va_W).flatten s.heap.size) s.heap.size (tot s.heap)) (va_A ([wd_Ker cs hk kr (fun _ => none) kf ka (gKe pq pz tq rq), fm 13 (fTx cs tq TR TO TF TA), fm 13 (fRw cs rq RR RM RW RF RA RC), fm 8 (fPp cs pq PV)] : List va_W).flatten s.heap.size)) [.ref hk, .null].toArray s (5 * ndS 13 tq + 4 * ndS 13 rq + ndS 13 RM) (9804 * ndS 13 tq + 342 * ndS 13 rq + 36864 * ndS 13 RM) A) (F0 m 24 ls []) := by
    intro  n_24
    induction n_24 with
    | zero =>
      intro ce_24 sl_24 pz_24 tq_24 rq_24 ka_24 TR_24 TO_24 TF_24 TA_24 RR_24 RM_24 RW_24 RF_24 RA_24 RC_24 x24_2 x24_3 x24_4 H locs ls k24_0 k24_1 k24_2 k24_3 k24_4 k24_5 k24_6 k24_7 k24_8 hm hw hl
      have lx24_2 := Int32.le_toInt x24_2
      have ux24_2 := Int32.toInt_lt x24_2
      have lx24_3 := Int32.le_toInt x24_3
      have ux24_3 := Int32.toInt_lt x24_3
      have lx24_4 := Int32.le_toInt x24_4
      have ux24_4 := Int32.toInt_lt x24_4
      have hki := k24_0
      have hro := k24_1
      have hrm := k24_2
      exact absurd hm (by omega)
    | succ n_24 ih24 =>
      intro ce_24 sl_24 pz_24 tq_24 rq_24 ka_24 TR_24 TO_24 TF_24 TA_24 RR_24 RM_24 RW_24 RF_24 RA_24 RC_24 x24_2 x24_3 x24_4 H locs ls k24_0 k24_1 k24_2 k24_3 k24_4 k24_5 k24_6 k24_7 k24_8 hm hw hl
      have lx24_2 := Int32.le_toInt x24_2
      have ux24_2 := Int32.toInt_lt x24_2
      have lx24_3 := Int32.le_toInt x24_3
      have ux24_3 := Int32.toInt_lt x24_3
      have lx24_4 := Int32.le_toInt x24_4
      have ux24_4 := Int32.toInt_lt x24_4
      have hki := k24_0
      have hro := k24_1
      have hrm := k24_2
      refine lv_iload S.x S.b d_Ker_advance_24 (lv_at hl 4 rfl) ?_
      refine lv_ldc (v := 1000000) S.x S.b S.own (S.w m8_48) d_Ker_advance_26 ?_
      refine lv_icmp_ge (tgt := 82) S.x S.b d_Ker_advance_28 (by decide) (fun c1 => ?_) (fun c1 => ?_)
      · have nc1 : (1000000 : Int) ≤ x24_4.toInt := (i_le (x := 1000000) (y := x24_4)).mp c1
        refine lv_iload_n S.x S.b d_Ker_advance_82 rfl (lv_at hl 2 rfl) ?_
        exact pg_iret (v := x24_2) S hr (z_nar (by omega)) hlk hAe hw (show ce_24 ≤ (5 * ndS 13 tq + 4 * ndS 13 rq + ndS 13 RM) from by first | exact oz_dca5c4e7e4 k24_7 | omega) (show sl_24 ≤ (9804 * ndS 13 tq + 342 * ndS 13 rq + 36864 * ndS 13 RM) from by first | exact oz_f7eb847e67 k24_8 | omega) (⟨pz_24, tq_24, rq_24, ka_24, TR_24, TO_24, TF_24, TA_24, RR_24, RM_24, RW_24, RF_24, RA_24, RC_24, rfl, (show x24_2 = 0 ∨ x24_2 = 1 from by first | exact Or.inl rfl | exact Or.inr rfl | exact z_or (by omega)), (show KnI pq PV pz_24 tq_24 rq_24 TO_24 TF_24 TA_24 RW_24 RF_24 from hki), (show RoI ka_24 from hro), (show RmI rq_24 RM_24 from hrm), (show ce_24 + (5 * ndS 13 tq_24 + 4 * ndS 13 rq_24 + ndS 13 RM_24) ≤ 5 * ndS 13 tq + 4 * ndS 13 rq + ndS 13 RM from by first | exact k24_7 | omega), (show sl_24 + (9804 * ndS 13 tq_24 + 342 * ndS 13 rq_24 + 36864 * ndS 13 RM_24) ≤ 9804 * ndS 13 tq + 342 * ndS 13 rq + 36864 * ndS 13 RM from by first | exact k24_8 | omega)⟩) d_Ker_advance_83
      · have nc1 : ¬ (1000000 : Int) ≤ x24_4.toInt := mt (i_le (x := 1000000) (y := x24_4)).mpr c1
        refine lv_iload_n S.x S.b d_Ker_advance_31 rfl (lv_at hl 3 rfl) ?_
        refine lv_if_eq (tgt := 82) S.x S.b d_Ker_advance_32 (by decide) (fun c3 => ?_) (fun c3 => ?_)
        · have nc3 : x24_3.toInt = (0 : Int) := (i_eq (x := x24_3) (y := 0)).mp c3
          refine lv_iload_n S.x S.b d_Ker_advance_82 rfl (lv_at hl 2 rfl) ?_
          exact pg_iret (v := x24_2) S hr (z_nar (by omega)) hlk hAe hw (show ce_24 ≤ (5 * ndS 13 tq + 4 * ndS 13 rq + ndS 13 RM) from by first | exact oz_dca5c4e7e4 k24_7 | omega) (show sl_24 ≤ (9804 * ndS 13 tq + 342 * ndS 13 rq + 36864 * ndS 13 RM) from by first | exact oz_f7eb847e67 k24_8 | omega) (⟨pz_24, tq_24, rq_24, ka_24, TR_24, TO_24, TF_24, TA_24, RR_24, RM_24, RW_24, RF_24, RA_24, RC_24, rfl, (show x24_2 = 0 ∨ x24_2 = 1 from by first | exact Or.inl rfl | exact Or.inr rfl | exact z_or (by omega)), (show KnI pq PV pz_24 tq_24 rq_24 TO_24 TF_24 TA_24 RW_24 RF_24 from hki), (show RoI ka_24 from hro), (show RmI rq_24 RM_24 from hrm), (show ce_24 + (5 * ndS 13 tq_24 + 4 * ndS 13 rq_24 + ndS 13 RM_24) ≤ 5 * ndS 13 tq + 4 * ndS 13 rq + ndS 13 RM from by first | exact k24_7 | omega), (show sl_24 + (9804 * ndS 13 tq_24 + 342 * ndS 13 rq_24 + 36864 * ndS 13 RM_24) ≤ 9804 * ndS 13 tq + 342 * ndS 13 rq + 36864 * ndS 13 RM from by first | exact k24_8 | omega)⟩) d_Ker_advance_83
        · have nc3 : ¬ x24_3.toInt = (0 : Int) := mt (i_eq (x := x24_3) (y := 0)).mpr c3
          exfalso
          omega
  refine lv_iconst (v := 0) S.x S.b d_Ker_advance_0 (by decide) ?_
  refine lv_istore_n (lv' := [(2, .int 0), (0, .ref hk), (1, .null)]) S.x S.b d_Ker_advance_1 rfl hl (by decide) rfl (fun ls hl => ?_)
  refine lq_aload_n (x := none) S.x S.b d_Ker_advance_2 rfl (lv_at hl 2 rfl) ?_
  refine lv_ifnullN (tgt := 19) S.x S.b d_Ker_advance_3 (by decide) ?_
  refine lv_iconst (v := 0) S.x S.b d_Ker_advance_19 (by decide) ?_
  refine lv_istore_n (lv' := [(3, .int 0), (2, .int 0), (0, .ref hk), (1, .null)]) S.x S.b d_Ker_advance_20 rfl hl (by decide) rfl (fun ls hl => ?_)
  refine lv_iconst (v := 0) S.x S.b d_Ker_advance_21 (by decide) ?_
  refine lv_istore (lv' := [(4, .int 0), (3, .int 0), (2, .int 0), (0, .ref hk), (1, .null)]) S.x S.b d_Ker_advance_22 hl (by decide) rfl (fun ls hl => ?_)
  exact J24 ((1000000 - (0 : Int)).toNat + 1) 0 0 pz tq rq ka TR TO TF TA RR RM RW RF RA RC (0 : Int32) (0 : Int32) (0 : Int32) _ _ ls (show KnI pq PV pz tq rq TO TF TA RW RF from hki) (show RoI ka from hro) (show RmI rq RM from hrm) (show (0 : Int) = 0 from by first | exact oz_7d1a308c7e | omega) (show (0 : Int) = 0 from by first | exact oz_7d1a308c7e | omega) (show 0 ≤ (0 : Int) from by first | exact oz_5a341f00aa | omega) (show (0 : Int) ≤ 1000000 from by first | exact oz_302d31b646 | omega) (show 0 + (5 * ndS 13 tq + 4 * ndS 13 rq + ndS 13 RM) ≤ 5 * ndS 13 tq + 4 * ndS 13 rq + ndS 13 RM from by first | exact oz_9d19b050ad | omega) (show 0 + (9804 * ndS 13 tq + 342 * ndS 13 rq + 36864 * ndS 13 RM) ≤ 9804 * ndS 13 tq + 342 * ndS 13 rq + 36864 * ndS 13 RM from by first | exact oz_b5592d0ae7 | omega) (show 1000000 - (0 : Int) < ((((1000000 - (0 : Int)).toNat + 1 : Nat) : Int) : Int) from by first | exact oz_natlt | omega) hw (lv_sub hl [3, 4, 2, 1, 0] rfl)
