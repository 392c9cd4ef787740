theorem oz_4f50ab301a {a0 : Int} (h0 : a0 = (0 : Int)) : 0 ≤ a0 := by omega
theorem oz_92ea0ac9cc {a0 : Int} (h0 : a0 = (0 : Int)) : a0 ≤ 1 := by omega
theorem oz_301bb61272 {a0 a2 : Int} {n1 : Nat} (h0 : 1000000 - a2 < ((n1 + 1 : Nat) : Int)) (h1 : a0 = a2 + 1) : 1000000 - a0 < (n1 : Int) := by omega
theorem oz_09730e4356 {n0 n1 n2 n3 n4 n5 n6 n7 n8 n9 n10 : Nat} (h0 : n0 + (5 * n8 + 4 * n9 + n10) ≤ 5 * n5 + 4 * n6 + n7) (h1 : n1 + (5 * n2 + 4 * n3 + n4) ≤ 5 * n8 + 4 * n9 + n10) : (n0 + n1) + (5 * n2 + 4 * n3 + n4) ≤ 5 * n5 + 4 * n6 + n7 := by omega
theorem oz_0d0bbc14c3 {n0 n1 n2 n3 n4 n5 n6 n7 n8 n9 n10 : Nat} (h0 : n0 + (9804 * n8 + 342 * n9 + 36864 * n10) ≤ 9804 * n5 + 342 * n6 + 36864 * n7) (h1 : n1 + (9804 * n2 + 342 * n3 + 36864 * n4) ≤ 9804 * n8 + 342 * n9 + 36864 * n10) : (n0 + n1) + (9804 * n2 + 342 * n3 + 36864 * n4) ≤ 9804 * n5 + 342 * n6 + 36864 * n7 := by omega
theorem m8_57 : Cond.methodLink "HomeSystem$Kernel" 104 ⟨"HomeSystem$Kernel", "partner", "(LHomeSystem$AnyProcess;)I"⟩ ∈ AL := AL_8 (List.mem_of_getElem? (i := 57) rfl) rfl
theorem m8_60 : Cond.code ⟨"HomeSystem$Kernel", "partner", "(LHomeSystem$AnyProcess;)I"⟩ prog_4_method_7_code 3 (Option.some FieldType.int) ∈ AL := AL_8 (List.mem_of_getElem? (i := 60) rfl) rfl
theorem ms_5_9 : Cond.selects "HomeSystem$Kernel" ⟨"HomeSystem$Kernel", "partner", "(LHomeSystem$AnyProcess;)I"⟩ ⟨"HomeSystem$Kernel", "partner", "(LHomeSystem$AnyProcess;)I"⟩ ∈ AL := AL_p (q := (⟨"HomeSystem$Kernel", "partner", "(LHomeSystem$AnyProcess;)I"⟩, 10)) (by unfold lw_privs; exact List.mem_append_right _ (List.mem_append_right _ (List.mem_append_right _ (List.mem_append_right _ (List.mem_append_left _ (List.mem_of_getElem? (i := 9) rfl))))))
theorem m8_59 : Cond.instanceMethod ⟨"HomeSystem$Kernel", "partner", "(LHomeSystem$AnyProcess;)I"⟩ ∈ AL := AL_8 (List.mem_of_getElem? (i := 59) rfl) rfl
theorem m8_159 : Cond.methodLink "HomeSystem$Kernel" 139 ⟨"HomeSystem$Kernel", "receive", "(LHomeSystem$AnyProcess;II)Z"⟩ ∈ AL := AL_8 (List.mem_of_getElem? (i := 159) rfl) rfl
theorem m8_162 : Cond.code ⟨"HomeSystem$Kernel", "receive", "(LHomeSystem$AnyProcess;II)Z"⟩ prog_4_method_9_code 6 (Option.some FieldType.boolean) ∈ AL := AL_8 (List.mem_of_getElem? (i := 162) rfl) rfl
theorem ms_6_3 : Cond.selects "HomeSystem$Kernel" ⟨"HomeSystem$Kernel", "receive", "(LHomeSystem$AnyProcess;II)Z"⟩ ⟨"HomeSystem$Kernel", "receive", "(LHomeSystem$AnyProcess;II)Z"⟩ ∈ AL := AL_p (q := (⟨"HomeSystem$Kernel", "receive", "(LHomeSystem$AnyProcess;II)Z"⟩, 10)) (by unfold lw_privs; exact List.mem_append_right _ (List.mem_append_right _ (List.mem_append_right _ (List.mem_append_right _ (List.mem_append_right _ (List.mem_append_left _ (List.mem_of_getElem? (i := 3) rfl)))))))
theorem m8_161 : Cond.instanceMethod ⟨"HomeSystem$Kernel", "receive", "(LHomeSystem$AnyProcess;II)Z"⟩ ∈ AL := AL_8 (List.mem_of_getElem? (i := 161) rfl) rfl
theorem m8_61 : Cond.methodLink "HomeSystem$Kernel" 114 ⟨"HomeSystem$AnyProcess", "write", "(I)V"⟩ ∈ AL := AL_8 (List.mem_of_getElem? (i := 61) rfl) rfl
theorem m8_66 : Cond.code ⟨"HomeSystem$AnyProcess", "write", "(I)V"⟩ prog_2_method_4_code 2 (Option.none : Option Jvm.ClassFile.FieldType) ∈ AL := AL_8 (List.mem_of_getElem? (i := 66) rfl) rfl
theorem m8_63 : Cond.sameMethod "HomeSystem$AnyProcess" "HomeSystem$AnyProcess" "write" "(I)V" ∈ AL := AL_8 (List.mem_of_getElem? (i := 63) rfl) rfl
theorem m8_62 : Cond.instanceMethod ⟨"HomeSystem$AnyProcess", "write", "(I)V"⟩ ∈ AL := AL_8 (List.mem_of_getElem? (i := 62) rfl) rfl
theorem m8_65 : Cond.selects "HomeSystem$TextProcess" ⟨"HomeSystem$AnyProcess", "write", "(I)V"⟩ ⟨"HomeSystem$AnyProcess", "write", "(I)V"⟩ ∈ AL := AL_8 (List.mem_of_getElem? (i := 65) rfl) rfl
theorem m8_147 : Cond.methodLink "HomeSystem$Kernel" 131 ⟨"HomeSystem$Kernel", "send", "(LHomeSystem$AnyProcess;II)Z"⟩ ∈ AL := AL_8 (List.mem_of_getElem? (i := 147) rfl) rfl
theorem m8_150 : Cond.code ⟨"HomeSystem$Kernel", "send", "(LHomeSystem$AnyProcess;II)Z"⟩ prog_4_method_8_code 4 (Option.some FieldType.boolean) ∈ AL := AL_8 (List.mem_of_getElem? (i := 150) rfl) rfl
theorem ms_6_0 : Cond.selects "HomeSystem$Kernel" ⟨"HomeSystem$Kernel", "send", "(LHomeSystem$AnyProcess;II)Z"⟩ ⟨"HomeSystem$Kernel", "send", "(LHomeSystem$AnyProcess;II)Z"⟩ ∈ AL := AL_p (q := (⟨"HomeSystem$Kernel", "send", "(LHomeSystem$AnyProcess;II)Z"⟩, 10)) (by unfold lw_privs; exact List.mem_append_right _ (List.mem_append_right _ (List.mem_append_right _ (List.mem_append_right _ (List.mem_append_right _ (List.mem_append_left _ (List.mem_of_getElem? (i := 0) rfl)))))))
theorem m8_149 : Cond.instanceMethod ⟨"HomeSystem$Kernel", "send", "(LHomeSystem$AnyProcess;II)Z"⟩ ∈ AL := AL_8 (List.mem_of_getElem? (i := 149) rfl) rfl
theorem m8_76 : Cond.methodLink "HomeSystem$Kernel" 123 ⟨"HomeSystem$Kernel", "spawn", "(LHomeSystem$AnyProcess;II)I"⟩ ∈ AL := AL_8 (List.mem_of_getElem? (i := 76) rfl) rfl
theorem m8_79 : Cond.code ⟨"HomeSystem$Kernel", "spawn", "(LHomeSystem$AnyProcess;II)I"⟩ prog_4_method_11_code 5 (Option.some FieldType.int) ∈ AL := AL_8 (List.mem_of_getElem? (i := 79) rfl) rfl
theorem ms_5_10 : Cond.selects "HomeSystem$Kernel" ⟨"HomeSystem$Kernel", "spawn", "(LHomeSystem$AnyProcess;II)I"⟩ ⟨"HomeSystem$Kernel", "spawn", "(LHomeSystem$AnyProcess;II)I"⟩ ∈ AL := AL_p (q := (⟨"HomeSystem$Kernel", "spawn", "(LHomeSystem$AnyProcess;II)I"⟩, 10)) (by unfold lw_privs; exact List.mem_append_right _ (List.mem_append_right _ (List.mem_append_right _ (List.mem_append_right _ (List.mem_append_left _ (List.mem_of_getElem? (i := 10) rfl))))))
theorem m8_78 : Cond.instanceMethod ⟨"HomeSystem$Kernel", "spawn", "(LHomeSystem$AnyProcess;II)I"⟩ ∈ AL := AL_8 (List.mem_of_getElem? (i := 78) rfl) rfl
theorem m8_155 : Cond.methodLink "HomeSystem$Kernel" 135 ⟨"HomeSystem$Kernel", "await", "(LHomeSystem$AnyProcess;I)Z"⟩ ∈ AL := AL_8 (List.mem_of_getElem? (i := 155) rfl) rfl
theorem m8_158 : Cond.code ⟨"HomeSystem$Kernel", "await", "(LHomeSystem$AnyProcess;I)Z"⟩ prog_4_method_10_code 4 (Option.some FieldType.boolean) ∈ AL := AL_8 (List.mem_of_getElem? (i := 158) rfl) rfl
theorem ms_6_2 : Cond.selects "HomeSystem$Kernel" ⟨"HomeSystem$Kernel", "await", "(LHomeSystem$AnyProcess;I)Z"⟩ ⟨"HomeSystem$Kernel", "await", "(LHomeSystem$AnyProcess;I)Z"⟩ ∈ AL := AL_p (q := (⟨"HomeSystem$Kernel", "await", "(LHomeSystem$AnyProcess;I)Z"⟩, 10)) (by unfold lw_privs; exact List.mem_append_right _ (List.mem_append_right _ (List.mem_append_right _ (List.mem_append_right _ (List.mem_append_right _ (List.mem_append_left _ (List.mem_of_getElem? (i := 2) rfl)))))))
theorem m8_157 : Cond.instanceMethod ⟨"HomeSystem$Kernel", "await", "(LHomeSystem$AnyProcess;I)Z"⟩ ∈ AL := AL_8 (List.mem_of_getElem? (i := 157) rfl) rfl
theorem m8_80 : Cond.methodLink "HomeSystem$Kernel" 127 ⟨"HomeSystem$Kernel", "move", "(LHomeSystem$AnyProcess;I)V"⟩ ∈ AL := AL_8 (List.mem_of_getElem? (i := 80) rfl) rfl
theorem m8_83 : Cond.code ⟨"HomeSystem$Kernel", "move", "(LHomeSystem$AnyProcess;I)V"⟩ prog_4_method_12_code 5 (Option.none : Option Jvm.ClassFile.FieldType) ∈ AL := AL_8 (List.mem_of_getElem? (i := 83) rfl) rfl
theorem ms_5_11 : Cond.selects "HomeSystem$Kernel" ⟨"HomeSystem$Kernel", "move", "(LHomeSystem$AnyProcess;I)V"⟩ ⟨"HomeSystem$Kernel", "move", "(LHomeSystem$AnyProcess;I)V"⟩ ∈ AL := AL_p (q := (⟨"HomeSystem$Kernel", "move", "(LHomeSystem$AnyProcess;I)V"⟩, 10)) (by unfold lw_privs; exact List.mem_append_right _ (List.mem_append_right _ (List.mem_append_right _ (List.mem_append_right _ (List.mem_append_left _ (List.mem_of_getElem? (i := 11) rfl))))))
theorem m8_82 : Cond.instanceMethod ⟨"HomeSystem$Kernel", "move", "(LHomeSystem$AnyProcess;I)V"⟩ ∈ AL := AL_8 (List.mem_of_getElem? (i := 82) rfl) rfl
theorem m8_64 : Cond.selects "HomeSystem$RawProcess" ⟨"HomeSystem$AnyProcess", "write", "(I)V"⟩ ⟨"HomeSystem$AnyProcess", "write", "(I)V"⟩ ∈ AL := AL_8 (List.mem_of_getElem? (i := 64) rfl) rfl
theorem m8_48 : Cond.constant "HomeSystem$Kernel" 65 (1000000) ∈ AL := AL_8 (List.mem_of_getElem? (i := 48) rfl) rfl
theorem m6_155 : Cond.fieldLink "HomeSystem$Kernel" 92 "HomeSystem$AnyProcess" "calling" "Z" ∈ AL := AL_6 (List.mem_of_getElem? (i := 155) rfl) rfl
theorem m8_163 : Cond.methodLink "HomeSystem$Kernel" 98 ⟨"HomeSystem$AnyProcess", "go", "()V"⟩ ∈ AL := AL_8 (List.mem_of_getElem? (i := 163) rfl) rfl
theorem m8_239 : Cond.code ⟨"HomeSystem$TextProcess", "go", "()V"⟩ prog_11_method_3_code 2 (Option.none : Option Jvm.ClassFile.FieldType) ∈ AL := AL_8 (List.mem_of_getElem? (i := 239) rfl) rfl
theorem m8_165 : Cond.sameMethod "HomeSystem$AnyProcess" "HomeSystem$AnyProcess" "go" "()V" ∈ AL := AL_8 (List.mem_of_getElem? (i := 165) rfl) rfl
theorem m8_238 : Cond.instanceMethod ⟨"HomeSystem$TextProcess", "go", "()V"⟩ ∈ AL := AL_8 (List.mem_of_getElem? (i := 238) rfl) rfl
theorem m8_237 : Cond.selects "HomeSystem$TextProcess" ⟨"HomeSystem$AnyProcess", "go", "()V"⟩ ⟨"HomeSystem$TextProcess", "go", "()V"⟩ ∈ AL := AL_8 (List.mem_of_getElem? (i := 237) rfl) rfl
theorem m8_164n : Cond.declares ⟨"HomeSystem$AnyProcess", "go", "()V"⟩ ∈ tables_1 := by unfold tables_1; exact List.mem_append_right _ (List.mem_append_right _ (List.mem_append_right _ (List.mem_append_right _ (List.mem_append_right _ (List.mem_append_right _ (List.mem_append_right _ (List.mem_append_left _ (List.mem_of_getElem? (i := 164) rfl))))))))
theorem m8_53 : Cond.methodLink "HomeSystem$Kernel" 95 ⟨"HomeSystem$Kernel", "serve", "(LHomeSystem$AnyProcess;)Z"⟩ ∈ AL := AL_8 (List.mem_of_getElem? (i := 53) rfl) rfl
theorem m8_56 : Cond.code ⟨"HomeSystem$Kernel", "serve", "(LHomeSystem$AnyProcess;)Z"⟩ prog_4_method_6_code 4 (Option.some FieldType.boolean) ∈ AL := AL_8 (List.mem_of_getElem? (i := 56) rfl) rfl
theorem ms_5_8 : Cond.selects "HomeSystem$Kernel" ⟨"HomeSystem$Kernel", "serve", "(LHomeSystem$AnyProcess;)Z"⟩ ⟨"HomeSystem$Kernel", "serve", "(LHomeSystem$AnyProcess;)Z"⟩ ∈ AL := AL_p (q := (⟨"HomeSystem$Kernel", "serve", "(LHomeSystem$AnyProcess;)Z"⟩, 10)) (by unfold lw_privs; exact List.mem_append_right _ (List.mem_append_right _ (List.mem_append_right _ (List.mem_append_right _ (List.mem_append_left _ (List.mem_of_getElem? (i := 8) rfl))))))
theorem m8_55 : Cond.instanceMethod ⟨"HomeSystem$Kernel", "serve", "(LHomeSystem$AnyProcess;)Z"⟩ ∈ AL := AL_8 (List.mem_of_getElem? (i := 55) rfl) rfl
theorem m8_168 : Cond.code ⟨"HomeSystem$RawProcess", "go", "()V"⟩ prog_8_method_3_code 2 (Option.none : Option Jvm.ClassFile.FieldType) ∈ AL := AL_8 (List.mem_of_getElem? (i := 168) rfl) rfl
theorem m8_167 : Cond.instanceMethod ⟨"HomeSystem$RawProcess", "go", "()V"⟩ ∈ AL := AL_8 (List.mem_of_getElem? (i := 167) rfl) rfl
theorem m8_166 : Cond.selects "HomeSystem$RawProcess" ⟨"HomeSystem$AnyProcess", "go", "()V"⟩ ⟨"HomeSystem$RawProcess", "go", "()V"⟩ ∈ AL := AL_8 (List.mem_of_getElem? (i := 166) rfl) rfl
abbrev b_Ker_serve : ByteArray := prog_4_method_6_code
def y_Ker_serve : MethodName := ⟨"HomeSystem$Kernel", "serve", "(LHomeSystem$AnyProcess;)Z"⟩
theorem d_Ker_serve_0 : decode b_Ker_serve 0 = .ok (.aload_n 1, 1) := by decide +kernel
theorem d_Ker_serve_1 : decode b_Ker_serve 1 = .ok (.getfield 101, 3) := by decide +kernel
theorem d_Ker_serve_4 : decode b_Ker_serve 4 = .ok (.istore_n 2, 1) := by decide +kernel
theorem d_Ker_serve_5 : decode b_Ker_serve 5 = .ok (.aload_n 0, 1) := by decide +kernel
theorem d_Ker_serve_6 : decode b_Ker_serve 6 = .ok (.aload_n 1, 1) := by decide +kernel
theorem d_Ker_serve_7 : decode b_Ker_serve 7 = .ok (.invokevirtual 104, 3) := by decide +kernel
theorem d_Ker_serve_10 : decode b_Ker_serve 10 = .ok (.istore_n 3, 1) := by decide +kernel
theorem d_Ker_serve_11 : decode b_Ker_serve 11 = .ok (.aload_n 1, 1) := by decide +kernel
theorem d_Ker_serve_12 : decode b_Ker_serve 12 = .ok (.getfield 108, 3) := by decide +kernel
theorem d_Ker_serve_15 : decode b_Ker_serve 15 = .ok (.tableswitch 148 1 9 #[49, 105, 148, 148, 64, 130, 83, 83, 94], 49) := by decide +kernel
theorem d_Ker_serve_64 : decode b_Ker_serve 64 = .ok (.aload_n 1, 1) := by decide +kernel
theorem d_Ker_serve_65 : decode b_Ker_serve 65 = .ok (.aload_n 1, 1) := by decide +kernel
theorem d_Ker_serve_66 : decode b_Ker_serve 66 = .ok (.getfield 111, 3) := by decide +kernel
theorem d_Ker_serve_69 : decode b_Ker_serve 69 = .ok (.invokevirtual 114, 3) := by decide +kernel
theorem d_Ker_serve_72 : decode b_Ker_serve 72 = .ok (.aload_n 1, 1) := by decide +kernel
theorem d_Ker_serve_73 : decode b_Ker_serve 73 = .ok (.iconst 0, 1) := by decide +kernel
theorem d_Ker_serve_74 : decode b_Ker_serve 74 = .ok (.invokevirtual 117, 3) := by decide +kernel
theorem d_Ker_serve_77 : decode b_Ker_serve 77 = .ok (.iconst 1, 1) := by decide +kernel
theorem d_Ker_serve_78 : decode b_Ker_serve 78 = .ok (.ireturn, 1) := by decide +kernel
theorem d_Ker_serve_79 : decode b_Ker_serve 79 = .ok (.aload_n 1, 1) := by decide +kernel
theorem d_Ker_serve_80 : decode b_Ker_serve 80 = .ok (.aload_n 0, 1) := by decide +kernel
theorem d_Ker_serve_81 : decode b_Ker_serve 81 = .ok (.aload_n 1, 1) := by decide +kernel
theorem d_Ker_serve_82 : decode b_Ker_serve 82 = .ok (.aload_n 1, 1) := by decide +kernel
theorem d_Ker_serve_83 : decode b_Ker_serve 83 = .ok (.getfield 111, 3) := by decide +kernel
theorem d_Ker_serve_86 : decode b_Ker_serve 86 = .ok (.aload_n 1, 1) := by decide +kernel
theorem d_Ker_serve_87 : decode b_Ker_serve 87 = .ok (.getfield 120, 3) := by decide +kernel
theorem d_Ker_serve_90 : decode b_Ker_serve 90 = .ok (.invokevirtual 123, 3) := by decide +kernel
theorem d_Ker_serve_93 : decode b_Ker_serve 93 = .ok (.invokevirtual 117, 3) := by decide +kernel
theorem d_Ker_serve_96 : decode b_Ker_serve 96 = .ok (.iconst 1, 1) := by decide +kernel
theorem d_Ker_serve_97 : decode b_Ker_serve 97 = .ok (.ireturn, 1) := by decide +kernel
theorem d_Ker_serve_98 : decode b_Ker_serve 98 = .ok (.aload_n 0, 1) := by decide +kernel
theorem d_Ker_serve_99 : decode b_Ker_serve 99 = .ok (.aload_n 1, 1) := by decide +kernel
theorem d_Ker_serve_100 : decode b_Ker_serve 100 = .ok (.aload_n 1, 1) := by decide +kernel
theorem d_Ker_serve_101 : decode b_Ker_serve 101 = .ok (.getfield 111, 3) := by decide +kernel
theorem d_Ker_serve_104 : decode b_Ker_serve 104 = .ok (.invokevirtual 127, 3) := by decide +kernel
theorem d_Ker_serve_107 : decode b_Ker_serve 107 = .ok (.iconst 1, 1) := by decide +kernel
theorem d_Ker_serve_108 : decode b_Ker_serve 108 = .ok (.ireturn, 1) := by decide +kernel
theorem d_Ker_serve_109 : decode b_Ker_serve 109 = .ok (.aload_n 1, 1) := by decide +kernel
theorem d_Ker_serve_110 : decode b_Ker_serve 110 = .ok (.iconst 1, 1) := by decide +kernel
theorem d_Ker_serve_111 : decode b_Ker_serve 111 = .ok (.aload_n 1, 1) := by decide +kernel
theorem d_Ker_serve_112 : decode b_Ker_serve 112 = .ok (.getfield 111, 3) := by decide +kernel
theorem d_Ker_serve_115 : decode b_Ker_serve 115 = .ok (.invokevirtual 74, 3) := by decide +kernel
theorem d_Ker_serve_118 : decode b_Ker_serve 118 = .ok (.iconst 1, 1) := by decide +kernel
theorem d_Ker_serve_119 : decode b_Ker_serve 119 = .ok (.ireturn, 1) := by decide +kernel
theorem d_Ker_serve_120 : decode b_Ker_serve 120 = .ok (.aload_n 0, 1) := by decide +kernel
theorem d_Ker_serve_121 : decode b_Ker_serve 121 = .ok (.aload_n 1, 1) := by decide +kernel
theorem d_Ker_serve_122 : decode b_Ker_serve 122 = .ok (.iload_n 3, 1) := by decide +kernel
theorem d_Ker_serve_123 : decode b_Ker_serve 123 = .ok (.aload_n 1, 1) := by decide +kernel
theorem d_Ker_serve_124 : decode b_Ker_serve 124 = .ok (.getfield 111, 3) := by decide +kernel
theorem d_Ker_serve_127 : decode b_Ker_serve 127 = .ok (.ifCond .ne 9, 3) := by decide +kernel
theorem d_Ker_serve_130 : decode b_Ker_serve 130 = .ok (.iconst 2, 1) := by decide +kernel
theorem d_Ker_serve_131 : decode b_Ker_serve 131 = .ok (.iload_n 2, 1) := by decide +kernel
theorem d_Ker_serve_132 : decode b_Ker_serve 132 = .ok (.imul, 1) := by decide +kernel
theorem d_Ker_serve_133 : decode b_Ker_serve 133 = .ok (.goto 8, 3) := by decide +kernel
theorem d_Ker_serve_136 : decode b_Ker_serve 136 = .ok (.iconst 2, 1) := by decide +kernel
theorem d_Ker_serve_137 : decode b_Ker_serve 137 = .ok (.iload_n 3, 1) := by decide +kernel
theorem d_Ker_serve_138 : decode b_Ker_serve 138 = .ok (.imul, 1) := by decide +kernel
theorem d_Ker_serve_139 : decode b_Ker_serve 139 = .ok (.iconst 1, 1) := by decide +kernel
theorem d_Ker_serve_140 : decode b_Ker_serve 140 = .ok (.iadd, 1) := by decide +kernel
theorem d_Ker_serve_141 : decode b_Ker_serve 141 = .ok (.invokevirtual 131, 3) := by decide +kernel
theorem d_Ker_serve_144 : decode b_Ker_serve 144 = .ok (.ireturn, 1) := by decide +kernel
theorem d_Ker_serve_145 : decode b_Ker_serve 145 = .ok (.aload_n 0, 1) := by decide +kernel
theorem d_Ker_serve_146 : decode b_Ker_serve 146 = .ok (.aload_n 1, 1) := by decide +kernel
theorem d_Ker_serve_147 : decode b_Ker_serve 147 = .ok (.aload_n 1, 1) := by decide +kernel
theorem d_Ker_serve_148 : decode b_Ker_serve 148 = .ok (.getfield 111, 3) := by decide +kernel
theorem d_Ker_serve_151 : decode b_Ker_serve 151 = .ok (.ifCond .ne 7, 3) := by decide +kernel
theorem d_Ker_serve_154 : decode b_Ker_serve 154 = .ok (.iconst (-1), 1) := by decide +kernel
theorem d_Ker_serve_155 : decode b_Ker_serve 155 = .ok (.goto 4, 3) := by decide +kernel
theorem d_Ker_serve_158 : decode b_Ker_serve 158 = .ok (.iload_n 3, 1) := by decide +kernel
theorem d_Ker_serve_159 : decode b_Ker_serve 159 = .ok (.invokevirtual 135, 3) := by decide +kernel
theorem d_Ker_serve_162 : decode b_Ker_serve 162 = .ok (.ireturn, 1) := by decide +kernel
theorem d_Ker_serve_163 : decode b_Ker_serve 163 = .ok (.aload_n 0, 1) := by decide +kernel
theorem d_Ker_serve_164 : decode b_Ker_serve 164 = .ok (.aload_n 1, 1) := by decide +kernel
theorem d_Ker_serve_165 : decode b_Ker_serve 165 = .ok (.iload_n 3, 1) := by decide +kernel
theorem d_Ker_serve_166 : decode b_Ker_serve 166 = .ok (.aload_n 1, 1) := by decide +kernel
theorem d_Ker_serve_167 : decode b_Ker_serve 167 = .ok (.getfield 111, 3) := by decide +kernel
theorem d_Ker_serve_170 : decode b_Ker_serve 170 = .ok (.ifCond .ne 11, 3) := by decide +kernel
theorem d_Ker_serve_173 : decode b_Ker_serve 173 = .ok (.iconst 2, 1) := by decide +kernel
theorem d_Ker_serve_174 : decode b_Ker_serve 174 = .ok (.iload_n 2, 1) := by decide +kernel
theorem d_Ker_serve_175 : decode b_Ker_serve 175 = .ok (.imul, 1) := by decide +kernel
theorem d_Ker_serve_176 : decode b_Ker_serve 176 = .ok (.iconst 1, 1) := by decide +kernel
theorem d_Ker_serve_177 : decode b_Ker_serve 177 = .ok (.iadd, 1) := by decide +kernel
theorem d_Ker_serve_178 : decode b_Ker_serve 178 = .ok (.goto 6, 3) := by decide +kernel
theorem d_Ker_serve_181 : decode b_Ker_serve 181 = .ok (.iconst 2, 1) := by decide +kernel
theorem d_Ker_serve_182 : decode b_Ker_serve 182 = .ok (.iload_n 3, 1) := by decide +kernel
theorem d_Ker_serve_183 : decode b_Ker_serve 183 = .ok (.imul, 1) := by decide +kernel
theorem d_Ker_serve_184 : decode b_Ker_serve 184 = .ok (.invokevirtual 139, 3) := by decide +kernel
theorem d_Ker_serve_187 : decode b_Ker_serve 187 = .ok (.ireturn, 1) := by decide +kernel
theorem q_Ker_serve : px_y y_Ker_serve 1 := by unfold px_y; decide +kernel
set_option maxHeartbeats 4000000 in
set_option maxRecDepth 100000 in
theorem c_k_serve_T (l : Launch) (D : va_G) (cs : Nat → ClassId) (hk : Nat) (kr : Nat → Nat) (pq : Nat → Option Nat) (kf : Nat → Int32) (PV : Nat → Pvs) (pz : Nat → Option Nat) (tq : Nat → Option Nat) (rq : Nat → Option Nat) (ka : Nat → Nat → Int32) (TR : Nat → Nat → Nat) (TO : Nat → Option Nat) (TF : Nat → Nat → Int32) (TA : Nat → Nat → Nat → Int32) (RR : Nat → Nat → Nat) (RM : Nat → Option Nat) (RW : Nat → Option Nat) (RF : Nat → Nat → Int32) (RA : Nat → Nat → Nat → Int32) (RC : Nat → Nat → Int32) (ip hx : Nat) (g0 : 0 ≤ (kf 8).toInt) (g1 : (kf 8).toInt ≤ 100) (g2 : (TF ip 21).toInt = 1) (hki : KnI pq PV pz tq rq TO TF TA RW RF) (hro : RoI ka) (hrm : RmI rq RM) (hip : ip < 13) (hcu : CuT pq PV tq TO ip hx) : MgI l y_Ker_serve b_Ker_serve 4 (.boolean) D cs 8 330 ((5 * ndS 13 tq + 4 * ndS 13 rq + ndS 13 RM)) ((9804 * ndS 13 tq + 342 * ndS 13 rq + 36864 * ndS 13 RM)) [.ref hk, .ref hx] [wd_Ker cs hk kr (fun _ => none) kf ka (gKe pq pz tq rq), fm 13 (fTx cs tq TR TO TF TA), fm 13 (fRw cs rq RR RM RW RF RA RC), fm 8 (fPp cs pq PV)] (fun _ => True) (fun v ps => ∃ (pz' : Nat → Option Nat) (tq' : Nat → Option Nat) (rq' : Nat → Option Nat) (ka' : Nat → Nat → Int32) (TR' : Nat → Nat → Nat) (TO' : Nat → Option Nat) (TF' : Nat → Nat → Int32) (TA' : Nat → Nat → Nat → Int32) (RR' : Nat → Nat → Nat) (RM' : Nat → Option Nat) (RW' : Nat → Option Nat) (RF' : Nat → Nat → Int32) (RA' : Nat → Nat → Nat → Int32) (RC' : Nat → Nat → Int32), (ps.1 = [wd_Ker cs hk kr (fun _ => none) kf ka' (gKe pq pz' tq' rq'), fm 13 (fTx cs tq' TR' TO' TF' TA'), fm 13 (fRw cs rq' RR' RM' RW' RF' RA' RC'), fm 8 (fPp cs pq PV)]) ∧ (v = 0 ∨ v = 1) ∧ (CuT pq PV tq' TO' ip hx) ∧ (KnI pq PV pz' tq' rq' TO' TF' TA' RW' RF') ∧ (RoI ka') ∧ (RmI rq' RM') ∧ (ps.2.1 + (5 * ndS 13 tq' + 4 * ndS 13 rq' + ndS 13 RM') ≤ 5 * ndS 13 tq + 4 * ndS 13 rq + ndS 13 RM) ∧ (ps.2.2 + (9804 * ndS 13 tq' + 342 * ndS 13 rq' + 36864 * ndS 13 RM') ≤ 9804 * ndS 13 tq + 342 * ndS 13 rq + 36864 * ndS 13 RM)) := by
  refine pg_enter (by decide) (Nat.le_of_ble_eq_true rfl) ?_
  intro p e s m below meth c A ls hAe S hr hlk hnm hA hT hX hw hl
  replace hl : lv_has ls 4 [(0, .ref hk), (1, .ref hx)] := hl
  have cstm1 : ((-1) : Int32).toInt = (-1) := rfl
  have cst0 : (0 : Int32).toInt = 0 := rfl
  have cst1 : (1 : Int32).toInt = 1 := rfl
  have cst2 : (2 : Int32).toInt = 2 := rfl
  refine lv_aload_n S.x S.b d_Ker_serve_0 rfl (lv_at hl 1 rfl) ?_
  obtain ⟨j1, hp1, hj1, hjq1, hto1, hf01⟩ := hcu.2
  have hw : pw D A s.heap _ _ [wd_Ker cs hk kr (fun _ => none) kf ka (gKe pq pz tq rq), fm 13 (fRw cs rq RR RM RW RF RA RC), fm 8 (fPp cs pq PV), fm 13 (fTx cs tq TR TO TF TA)] := hw.sub [0, 2, 3, 1] rfl rfl
  have hw : pw D A s.heap _ _ [wd_Ker cs hk kr (fun _ => none) kf ka (gKe pq pz tq rq), fm 13 (fRw cs rq RR RM RW RF RA RC), fm 8 (fPp cs pq PV), fo 13 (fTx cs tq TR TO TF TA) ip, wd_Txp cs hx (TR ip) (fun k => if k = 3 then (some hp1) else none) (TF ip) (TA ip) (fun _ _ => none)] := ftx_out (pr := [wd_Ker cs hk kr (fun _ => none) kf ka (gKe pq pz tq rq), fm 13 (fRw cs rq RR RM RW RF RA RC), fm 8 (fPp cs pq PV)]) hw hip hcu.1 hto1
  have htn2 : TxN ip (TF ip) (TA ip) := hki.2.1 ip hip _ hcu.1
  obtain ⟨lk, ⟨i2, i3⟩, ⟨i4, i5⟩, ⟨i6, i7⟩, i8, ⟨i9, i11⟩, i10, hrt⟩ := htn2.1
  have hid2 := htn2.2.1
  have hch2 := htn2.2.2
  unfold KcI at hch2
  refine px_get S k_Txp hT hw 4 0 15 (v := .int ((TF ip) 15)) rfl rfl rfl (by decide) m6_133 d_Ker_serve_1 ?_
  refine lv_istore_n (lv' := [(2, .int ((TF ip) 15)), (0, .ref hk), (1, .ref hx)]) S.x S.b d_Ker_serve_4 rfl hl (by decide) rfl (fun ls hl => ?_)
  refine lv_aload_n S.x S.b d_Ker_serve_5 rfl (lv_at hl 1 rfl) ?_
  refine lv_aload_n S.x S.b d_Ker_serve_6 rfl (lv_at hl 2 rfl) ?_
  have hw : pw D A s.heap _ _ [wd_Ker cs hk kr (fun _ => none) kf ka (gKe pq pz tq rq), fm 13 (fRw cs rq RR RM RW RF RA RC), fm 8 (fPp cs pq PV), fm 13 (fTx cs tq TR TO TF TA)] := ftx_back (pr := [wd_Ker cs hk kr (fun _ => none) kf ka (gKe pq pz tq rq), fm 13 (fRw cs rq RR RM RW RF RA RC), fm 8 (fPp cs pq PV)]) hw hip hcu.1 hto1
  have hw : pw D A s.heap _ _ [wd_Ker cs hk kr (fun _ => none) kf ka (gKe pq pz tq rq), fm 13 (fTx cs tq TR TO TF TA), fm 13 (fRw cs rq RR RM RW RF RA RC), fm 8 (fPp cs pq PV)] := hw.sub [0, 3, 1, 2] rfl rfl
  refine px_calli (pr := []) (px_runV (As := [.ref hx]) (rest := []) S (c_k_partner_T l D cs hk kr pq pz tq rq kf ka TR TO TF TA RR RM RW RF RA RC PV  ip hx hki hip hcu _) hT (pr := []) (pcs := [wd_Ker cs hk kr (fun _ => none) kf ka (gKe pq pz tq rq), fm 13 (fTx cs tq TR TO TF TA), fm 13 (fRw cs rq RR RM RW RF RA RC), fm 8 (fPp cs pq PV)]) hw px_X.tt (px_recv hT hw 0 0 rfl rfl rfl) m8_60 m8_57 m8_59 ms_5_9 m1_19 q_Ker_partner ⟨Nat.le_of_ble_eq_true rfl, Nat.le_of_ble_eq_true rfl⟩ hl.1 rfl (Nat.le_of_ble_eq_true rfl) d_Ker_serve_7 ⟨show 0 + 0 ≤ (5 * ndS 13 tq + 4 * ndS 13 rq + ndS 13 RM) from by first | with_reducible rfl | with_reducible assumption | omega, show 0 + 0 ≤ (9804 * ndS 13 tq + 342 * ndS 13 rq + 36864 * ndS 13 RM) from by first | with_reducible rfl | with_reducible assumption | omega⟩) hw hA (fun v4 p3 H locs hp3 hw => ?_)
  obtain ⟨rfl, e5, e6⟩ := hp3
  replace e5 : -1 ≤ v4.toInt := e5
  replace e6 : v4.toInt ≤ 12 := e6
  replace hw : pw D A s.heap H locs [wd_Ker cs hk kr (fun _ => none) kf ka (gKe pq pz tq rq), fm 13 (fTx cs tq TR TO TF TA), fm 13 (fRw cs rq RR RM RW RF RA RC), fm 8 (fPp cs pq PV)] := hw
  have lv4 := Int32.le_toInt v4
  have uv4 := Int32.toInt_lt v4
  refine lv_istore_n (lv' := [(3, .int v4), (2, .int ((TF ip) 15)), (0, .ref hk), (1, .ref hx)]) S.x S.b d_Ker_serve_10 rfl hl (by decide) rfl (fun ls hl => ?_)
  refine lv_aload_n S.x S.b d_Ker_serve_11 rfl (lv_at hl 3 rfl) ?_
  have hw : pw D A s.heap _ _ [wd_Ker cs hk kr (fun _ => none) kf ka (gKe pq pz tq rq), fm 13 (fRw cs rq RR RM RW RF RA RC), fm 8 (fPp cs pq PV), fm 13 (fTx cs tq TR TO TF TA)] := hw.sub [0, 2, 3, 1] rfl rfl
  have hw : pw D A s.heap _ _ [wd_Ker cs hk kr (fun _ => none) kf ka (gKe pq pz tq rq), fm 13 (fRw cs rq RR RM RW RF RA RC), fm 8 (fPp cs pq PV), fo 13 (fTx cs tq TR TO TF TA) ip, wd_Txp cs hx (TR ip) (fun k => if k = 3 then (some hp1) else none) (TF ip) (TA ip) (fun _ _ => none)] := ftx_out (pr := [wd_Ker cs hk kr (fun _ => none) kf ka (gKe pq pz tq rq), fm 13 (fRw cs rq RR RM RW RF RA RC), fm 8 (fPp cs pq PV)]) hw hip hcu.1 hto1
  have htn7 : TxN ip (TF ip) (TA ip) := hki.2.1 ip hip _ hcu.1
  obtain ⟨lk, ⟨i2, i3⟩, ⟨i4, i5⟩, ⟨i6, i7⟩, i8, ⟨i9, i11⟩, i10, hrt⟩ := htn7.1
  have hid7 := htn7.2.1
  have hch7 := htn7.2.2
  unfold KcI at hch7
  refine px_get S k_Txp hT hw 4 0 22 (v := .int ((TF ip) 22)) rfl rfl rfl (by decide) m6_158 d_Ker_serve_12 ?_
  refine px_tableK S (dt := 163) [(64, [1]), (120, [2]), (163, [3, 4]), (79, [5]), (145, [6]), (98, [7, 8]), (109, [9])] d_Ker_serve_15 (by decide +kernel) (by decide) (by decide +kernel) ?_ ?_
  ·
    refine lv_aload_n S.x S.b d_Ker_serve_163 rfl (lv_at hl 2 rfl) ?_
    refine lv_aload_n S.x S.b d_Ker_serve_164 rfl (lv_at hl 3 rfl) ?_
    refine lv_iload_n S.x S.b d_Ker_serve_165 rfl (lv_at hl 0 rfl) ?_
    refine lv_aload_n S.x S.b d_Ker_serve_166 rfl (lv_at hl 3 rfl) ?_
    refine px_get S k_Txp hT hw 4 0 23 (v := .int ((TF ip) 23)) rfl rfl rfl (by decide) m6_161 d_Ker_serve_167 ?_
    refine lv_if_ne (tgt := 181) S.x S.b d_Ker_serve_170 (by decide) (fun c8 => ?_) (fun c8 => ?_)
    · have nc8 : ¬ ((TF ip) 23).toInt = (0 : Int) := mt (i_eq (x := ((TF ip) 23)) (y := 0)).mpr c8
      refine lv_iconst (v := 2) S.x S.b d_Ker_serve_181 (by decide) ?_
      refine lv_iload_n S.x S.b d_Ker_serve_182 rfl (lv_at hl 0 rfl) ?_
      refine lv_imul S.x S.b d_Ker_serve_183 ?_
      refine lv_topi (fun z9 ez9 => ?_)
      have lz9 := Int32.le_toInt z9
      have uz9 := Int32.toInt_lt z9
      have tz9 : -2147483648 ≤ 2 * v4.toInt → 2 * v4.toInt < 2147483648 → z9.toInt = 2 * v4.toInt := by rw [ez9]; exact i_mulc 2 v4 (by decide)
      try replace tz9 : z9.toInt = 2 * v4.toInt := by omega
      have hw : pw D A s.heap _ _ [wd_Ker cs hk kr (fun _ => none) kf ka (gKe pq pz tq rq), fm 13 (fRw cs rq RR RM RW RF RA RC), fm 8 (fPp cs pq PV), fm 13 (fTx cs tq TR TO TF TA)] := ftx_back (pr := [wd_Ker cs hk kr (fun _ => none) kf ka (gKe pq pz tq rq), fm 13 (fRw cs rq RR RM RW RF RA RC), fm 8 (fPp cs pq PV)]) hw hip hcu.1 hto1
      have hw : pw D A s.heap _ _ [wd_Ker cs hk kr (fun _ => none) kf ka (gKe pq pz tq rq), fm 13 (fTx cs tq TR TO TF TA), fm 13 (fRw cs rq RR RM RW RF RA RC), fm 8 (fPp cs pq PV)] := hw.sub [0, 3, 1, 2] rfl rfl
      refine pg_calli (pr := []) (px_runV (As := [.ref hx, .int v4, .int z9]) (rest := []) S (c_k_receive_T l D cs hk kr pq kf PV pz tq rq ka TR TO TF TA RR RM RW RF RA RC v4 z9 ip hx (show v4.toInt = -1 ∨ (0 ≤ v4.toInt ∧ v4.toInt ≤ 12 ∧ 0 ≤ z9.toInt ∧ z9.toInt ≤ 25) from by first | with_reducible rfl | with_reducible assumption | omega) (show (TF ip 21).toInt = 1 from by first | exact g2 | omega) hki hro hrm hip hcu _ _) hT (pr := []) (pcs := [wd_Ker cs hk kr (fun _ => none) kf ka (gKe pq pz tq rq), fm 13 (fTx cs tq TR TO TF TA), fm 13 (fRw cs rq RR RM RW RF RA RC), fm 8 (fPp cs pq PV)]) hw (px_X.tot px_X.tt) (px_recv hT hw 0 0 rfl rfl rfl) m8_162 m8_159 m8_161 ms_6_3 m1_19 q_Ker_receive ⟨Nat.le_of_ble_eq_true rfl, Nat.le_of_ble_eq_true rfl⟩ hl.1 rfl (Nat.le_of_ble_eq_true rfl) d_Ker_serve_184 ⟨show 0 + (5 * ndS 13 tq + 4 * ndS 13 rq + ndS 13 RM) ≤ (5 * ndS 13 tq + 4 * ndS 13 rq + ndS 13 RM) from by first | with_reducible rfl | with_reducible assumption | omega, show 0 + (9804 * ndS 13 tq + 342 * ndS 13 rq + 36864 * ndS 13 RM) ≤ (9804 * ndS 13 tq + 342 * ndS 13 rq + 36864 * ndS 13 RM) from by first | with_reducible rfl | with_reducible assumption | omega⟩) hw hA (fun v39 p38 k40 n41 H locs hp38 hw => ?_)
      dsimp only at hp38
      obtain ⟨pz24, tq25, rq26, ka27, TR28, TO29, TF30, TA31, RR32, RM33, RW34, RF35, RA36, RC37, rfl, e42, e43, e44, e45, e46, e47, e48⟩ := hp38
      have e42 := z_rng e42
      replace e43 : CuT pq PV tq25 TO29 ip hx := e43
      obtain ⟨j49, hp49, hj49, hjq49, hto49, hf049⟩ := e43.2
      replace e44 : KnI pq PV pz24 tq25 rq26 TO29 TF30 TA31 RW34 RF35 := e44
      have hki := e44
      replace e45 : RoI ka27 := e45
      have hro := e45
      replace e46 : RmI rq26 RM33 := e46
      have hrm := e46
      replace e47 : k40 + (5 * ndS 13 tq25 + 4 * ndS 13 rq26 + ndS 13 RM33) ≤ 5 * ndS 13 tq + 4 * ndS 13 rq + ndS 13 RM := e47
      replace e48 : n41 + (9804 * ndS 13 tq25 + 342 * ndS 13 rq26 + 36864 * ndS 13 RM33) ≤ 9804 * ndS 13 tq + 342 * ndS 13 rq + 36864 * ndS 13 RM := e48
      replace hw : pw D A s.heap H locs [wd_Ker cs hk kr (fun _ => none) kf ka27 (gKe pq pz24 tq25 rq26), fm 13 (fTx cs tq25 TR28 TO29 TF30 TA31), fm 13 (fRw cs rq26 RR32 RM33 RW34 RF35 RA36 RC37), fm 8 (fPp cs pq PV)] := hw
      have lv39 := Int32.le_toInt v39
      have uv39 := Int32.toInt_lt v39
      exact pg_iret (v := v39) S hr (z_nar (by omega)) hlk hAe hw (show (0 + k40) ≤ (5 * ndS 13 tq + 4 * ndS 13 rq + ndS 13 RM) from by first | exact oz_c18bd8c19e e47 | omega) (show (0 + n41) ≤ (9804 * ndS 13 tq + 342 * ndS 13 rq + 36864 * ndS 13 RM) from by first | exact oz_a5e7637f35 e48 | omega) (⟨pz24, tq25, rq26, ka27, TR28, TO29, TF30, TA31, RR32, RM33, RW34, RF35, RA36, RC37, rfl, (show v39 = 0 ∨ v39 = 1 from by first | exact Or.inl rfl | exact Or.inr rfl | exact z_or (by omega)), (show CuT pq PV tq25 TO29 ip hx from e43), (show KnI pq PV pz24 tq25 rq26 TO29 TF30 TA31 RW34 RF35 from hki), (show RoI ka27 from hro), (show RmI rq26 RM33 from hrm), (show (0 + k40) + (5 * ndS 13 tq25 + 4 * ndS 13 rq26 + ndS 13 RM33) ≤ 5 * ndS 13 tq + 4 * ndS 13 rq + ndS 13 RM from by first | exact oz_83cb35c84f e47 | omega), (show (0 + n41) + (9804 * ndS 13 tq25 + 342 * ndS 13 rq26 + 36864 * ndS 13 RM33) ≤ 9804 * ndS 13 tq + 342 * ndS 13 rq + 36864 * ndS 13 RM from by first | exact oz_0878d13dda e48 | omega)⟩) d_Ker_serve_187
    · have nc8 : ((TF ip) 23).toInt = (0 : Int) := (i_eq (x := ((TF ip) 23)) (y := 0)).mp c8
      refine lv_iconst (v := 2) S.x S.b d_Ker_serve_173 (by decide) ?_
      refine lv_iload_n S.x S.b d_Ker_serve_174 rfl (lv_at hl 1 rfl) ?_
      refine lv_imul S.x S.b d_Ker_serve_175 ?_
      have lr50 := Int32.le_toInt ((TF ip) 15)
      have ur50 := Int32.toInt_lt ((TF ip) 15)
      refine lv_topi (fun z51 ez51 => ?_)
      have lz51 := Int32.le_toInt z51
      have uz51 := Int32.toInt_lt z51
      have tz51 : -2147483648 ≤ 2 * ((TF ip) 15).toInt → 2 * ((TF ip) 15).toInt < 2147483648 → z51.toInt = 2 * ((TF ip) 15).toInt := by rw [ez51]; exact i_mulc 2 ((TF ip) 15) (by decide)
      try replace tz51 : z51.toInt = 2 * ((TF ip) 15).toInt := by omega
      refine lv_iconst (v := 1) S.x S.b d_Ker_serve_176 (by decide) ?_
      refine lv_iadd S.x S.b d_Ker_serve_177 ?_
      refine lv_topi (fun z52 ez52 => ?_)
      have tz52 : z52.toInt = (z51.toInt + (1 : Int) + 2147483648) % 4294967296 - 2147483648 := by rw [ez52]; exact i_add z51 1
      have lz52 := Int32.le_toInt z52
      have uz52 := Int32.toInt_lt z52
      try replace tz52 : z52.toInt = z51.toInt + (1 : Int) := by omega
      refine lv_goto (tgt := 184) S.x S.b d_Ker_serve_178 (by decide) ?_
      have hw : pw D A s.heap _ _ [wd_Ker cs hk kr (fun _ => none) kf ka (gKe pq pz tq rq), fm 13 (fRw cs rq RR RM RW RF RA RC), fm 8 (fPp cs pq PV), fm 13 (fTx cs tq TR TO TF TA)] := ftx_back (pr := [wd_Ker cs hk kr (fun _ => none) kf ka (gKe pq pz tq rq), fm 13 (fRw cs rq RR RM RW RF RA RC), fm 8 (fPp cs pq PV)]) hw hip hcu.1 hto1
      have hw : pw D A s.heap _ _ [wd_Ker cs hk kr (fun _ => none) kf ka (gKe pq pz tq rq), fm 13 (fTx cs tq TR TO TF TA), fm 13 (fRw cs rq RR RM RW RF RA RC), fm 8 (fPp cs pq PV)] := hw.sub [0, 3, 1, 2] rfl rfl
      refine pg_calli (pr := []) (px_runV (As := [.ref hx, .int v4, .int z52]) (rest := []) S (c_k_receive_T l D cs hk kr pq kf PV pz tq rq ka TR TO TF TA RR RM RW RF RA RC v4 z52 ip hx (show v4.toInt = -1 ∨ (0 ≤ v4.toInt ∧ v4.toInt ≤ 12 ∧ 0 ≤ z52.toInt ∧ z52.toInt ≤ 25) from by first | with_reducible rfl | with_reducible assumption | omega) (show (TF ip 21).toInt = 1 from by first | exact g2 | omega) hki hro hrm hip hcu _ _) hT (pr := []) (pcs := [wd_Ker cs hk kr (fun _ => none) kf ka (gKe pq pz tq rq), fm 13 (fTx cs tq TR TO TF TA), fm 13 (fRw cs rq RR RM RW RF RA RC), fm 8 (fPp cs pq PV)]) hw (px_X.tot px_X.tt) (px_recv hT hw 0 0 rfl rfl rfl) m8_162 m8_159 m8_161 ms_6_3 m1_19 q_Ker_receive ⟨Nat.le_of_ble_eq_true rfl, Nat.le_of_ble_eq_true rfl⟩ hl.1 rfl (Nat.le_of_ble_eq_true rfl) d_Ker_serve_184 ⟨show 0 + (5 * ndS 13 tq + 4 * ndS 13 rq + ndS 13 RM) ≤ (5 * ndS 13 tq + 4 * ndS 13 rq + ndS 13 RM) from by first | with_reducible rfl | with_reducible assumption | omega, show 0 + (9804 * ndS 13 tq + 342 * ndS 13 rq + 36864 * ndS 13 RM) ≤ (9804 * ndS 13 tq + 342 * ndS 13 rq + 36864 * ndS 13 RM) from by first | with_reducible rfl | with_reducible assumption | omega⟩) hw hA (fun v82 p81 k83 n84 H locs hp81 hw => ?_)
      dsimp only at hp81
      obtain ⟨pz67, tq68, rq69, ka70, TR71, TO72, TF73, TA74, RR75, RM76, RW77, RF78, RA79, RC80, rfl, e85, e86, e87, e88, e89, e90, e91⟩ := hp81
      have e85 := z_rng e85
      replace e86 : CuT pq PV tq68 TO72 ip hx := e86
      obtain ⟨j92, hp92, hj92, hjq92, hto92, hf092⟩ := e86.2
      replace e87 : KnI pq PV pz67 tq68 rq69 TO72 TF73 TA74 RW77 RF78 := e87
      have hki := e87
      replace e88 : RoI ka70 := e88
      have hro := e88
      replace e89 : RmI rq69 RM76 := e89
      have hrm := e89
      replace e90 : k83 + (5 * ndS 13 tq68 + 4 * ndS 13 rq69 + ndS 13 RM76) ≤ 5 * ndS 13 tq + 4 * ndS 13 rq + ndS 13 RM := e90
      replace e91 : n84 + (9804 * ndS 13 tq68 + 342 * ndS 13 rq69 + 36864 * ndS 13 RM76) ≤ 9804 * ndS 13 tq + 342 * ndS 13 rq + 36864 * ndS 13 RM := e91
      replace hw : pw D A s.heap H locs [wd_Ker cs hk kr (fun _ => none) kf ka70 (gKe pq pz67 tq68 rq69), fm 13 (fTx cs tq68 TR71 TO72 TF73 TA74), fm 13 (fRw cs rq69 RR75 RM76 RW77 RF78 RA79 RC80), fm 8 (fPp cs pq PV)] := hw
      have lv82 := Int32.le_toInt v82
      have uv82 := Int32.toInt_lt v82
      exact pg_iret (v := v82) S hr (z_nar (by omega)) hlk hAe hw (show (0 + k83) ≤ (5 * ndS 13 tq + 4 * ndS 13 rq + ndS 13 RM) from by first | exact oz_c18bd8c19e e90 | omega) (show (0 + n84) ≤ (9804 * ndS 13 tq + 342 * ndS 13 rq + 36864 * ndS 13 RM) from by first | exact oz_a5e7637f35 e91 | omega) (⟨pz67, tq68, rq69, ka70, TR71, TO72, TF73, TA74, RR75, RM76, RW77, RF78, RA79, RC80, rfl, (show v82 = 0 ∨ v82 = 1 from by first | exact Or.inl rfl | exact Or.inr rfl | exact z_or (by omega)), (show CuT pq PV tq68 TO72 ip hx from e86), (show KnI pq PV pz67 tq68 rq69 TO72 TF73 TA74 RW77 RF78 from hki), (show RoI ka70 from hro), (show RmI rq69 RM76 from hrm), (show (0 + k83) + (5 * ndS 13 tq68 + 4 * ndS 13 rq69 + ndS 13 RM76) ≤ 5 * ndS 13 tq + 4 * ndS 13 rq + ndS 13 RM from by first | exact oz_83cb35c84f e90 | omega), (show (0 + n84) + (9804 * ndS 13 tq68 + 342 * ndS 13 rq69 + 36864 * ndS 13 RM76) ≤ 9804 * ndS 13 tq + 342 * ndS 13 rq + 36864 * ndS 13 RM from by first | exact oz_0878d13dda e91 | omega)⟩) d_Ker_serve_187
  · refine List.forall_mem_cons.mpr ⟨fun c93 => ?_, List.forall_mem_cons.mpr ⟨fun c93 => ?_, List.forall_mem_cons.mpr ⟨fun c93 => ?_, List.forall_mem_cons.mpr ⟨fun c93 => ?_, List.forall_mem_cons.mpr ⟨fun c93 => ?_, List.forall_mem_cons.mpr ⟨fun c93 => ?_, List.forall_mem_cons.mpr ⟨fun c93 => ?_, fun _ h => absurd h List.not_mem_nil⟩⟩⟩⟩⟩⟩⟩
    · simp only [List.mem_cons, List.not_mem_nil, or_false] at c93
      refine lv_aload_n S.x S.b d_Ker_serve_64 rfl (lv_at hl 3 rfl) ?_
      refine lv_aload_n S.x S.b d_Ker_serve_65 rfl (lv_at hl 3 rfl) ?_
      refine px_get S k_Txp hT hw 4 0 23 (v := .int ((TF ip) 23)) rfl rfl rfl (by decide) m6_161 d_Ker_serve_66 ?_
      refine px_callv (pr := [wd_Ker cs hk kr (fun _ => none) kf ka (gKe pq pz tq rq), fm 13 (fRw cs rq RR RM RW RF RA RC), fm 8 (fPp cs pq PV), fo 13 (fTx cs tq TR TO TF TA) ip]) (px_runU (As := [.int ((TF ip) 23)]) (rest := []) S (c_write_TxpK l D cs hx (TR ip) (fun _ _ => none) hp1 (TF ip) (TA ip) ((TF ip) 23)  (show 0 ≤ ((TF ip) 17).toInt from by first | with_reducible rfl | with_reducible assumption | omega) (show ((TF ip) 17).toInt ≤ 1000000 from by first | with_reducible rfl | with_reducible assumption | omega) hrt _) hT (pr := [wd_Ker cs hk kr (fun _ => none) kf ka (gKe pq pz tq rq), fm 13 (fRw cs rq RR RM RW RF RA RC), fm 8 (fPp cs pq PV), fo 13 (fTx cs tq TR TO TF TA) ip]) (pcs := [wd_Txp cs hx (TR ip) (fun k => if k = 3 then (some hp1) else none) (TF ip) (TA ip) (fun _ _ => none)]) hw px_X.tt (C := "HomeSystem$TextProcess") (x := ⟨"HomeSystem$AnyProcess", "write", "(I)V"⟩) (px_recv hT hw 4 0 rfl rfl rfl) m8_66 m8_61 m8_63 m8_62 m8_65 m1_33 rfl q_HomeSystem_AnyProcess_write ⟨Nat.le_of_ble_eq_true rfl, Nat.le_of_ble_eq_true rfl⟩ hl.1 rfl (Nat.le_of_ble_eq_true rfl) d_Ker_serve_69 ⟨show 0 + 0 ≤ (5 * ndS 13 tq + 4 * ndS 13 rq + ndS 13 RM) from by first | with_reducible rfl | with_reducible assumption | omega, show 0 + 0 ≤ (9804 * ndS 13 tq + 342 * ndS 13 rq + 36864 * ndS 13 RM) from by first | with_reducible rfl | with_reducible assumption | omega⟩) hw hA (fun p98 H locs hp98 hw => ?_)
      obtain ⟨f96, a97, rfl, e100, e101, e102, e103, e104, e105, e106, e107, e108, e109⟩ := hp98
      replace e100 : (f96 17).toInt = ((TF ip) 17).toInt + 1 := e100
      replace e101 : (f96 4).toInt = ((TF ip) 4).toInt := e101
      replace e102 : (f96 5).toInt = ((TF ip) 5).toInt := e102
      replace e103 : (f96 8).toInt = ((TF ip) 8).toInt := e103
      replace e104 : (f96 9).toInt = ((TF ip) 9).toInt := e104
      replace e105 : (f96 15).toInt = ((TF ip) 15).toInt := e105
      replace e106 : (f96 18).toInt = ((TF ip) 18).toInt := e106
      replace e107 : (f96 20).toInt = ((TF ip) 20).toInt := e107
      replace e108 : (f96 21).toInt = ((TF ip) 21).toInt := e108
      replace e109 : RtOk (a97 2) := e109
      have hrt := e109
      replace hw : pw D A s.heap H locs [wd_Ker cs hk kr (fun _ => none) kf ka (gKe pq pz tq rq), fm 13 (fRw cs rq RR RM RW RF RA RC), fm 8 (fPp cs pq PV), fo 13 (fTx cs tq TR TO TF TA) ip, wd_Txp cs hx (TR ip) (fun k => if k = 3 then (some hp1) else none) f96 a97 (fun _ _ => none)] := hw
      refine lv_aload_n S.x S.b d_Ker_serve_72 rfl (lv_at hl 3 rfl) ?_
      refine lv_iconst (v := 0) S.x S.b d_Ker_serve_73 (by decide) ?_
      refine px_callv (pr := [wd_Ker cs hk kr (fun _ => none) kf ka (gKe pq pz tq rq), fm 13 (fRw cs rq RR RM RW RF RA RC), fm 8 (fPp cs pq PV), fo 13 (fTx cs tq TR TO TF TA) ip]) (px_runA (As := [.int 0]) (rest := []) S (c_Txp_answer l D cs hx (TR ip) (fun _ _ => none) hp1 f96 a97 0  (show TxOk (f96 4) (f96 5) (f96 8) (f96 9) (f96 17) 0 (a97 2) from ⟨(by first | exact lk | exact lk_eq lk (by omega) | exact lk_mk (by omega)), ⟨by omega, by omega⟩, ⟨by omega, by omega⟩, ⟨by omega, by omega⟩, by omega, ⟨by decide, by decide⟩, (by show _ + _ + (0 : Int) ≤ 100; omega), hrt⟩) _) hT (pr := [wd_Ker cs hk kr (fun _ => none) kf ka (gKe pq pz tq rq), fm 13 (fRw cs rq RR RM RW RF RA RC), fm 8 (fPp cs pq PV), fo 13 (fTx cs tq TR TO TF TA) ip]) (pcs := [wd_Txp cs hx (TR ip) (fun k => if k = 3 then (some hp1) else none) f96 a97 (fun _ _ => none)]) hw px_X.tt (C := "HomeSystem$TextProcess") (owner := "HomeSystem$AnyProcess") (x := ⟨"HomeSystem$AnyProcess", "answer", "(I)V"⟩) (px_recv hT hw 4 0 rfl rfl rfl) m8_75 m8_67 m8_69 m8_74 m8_73 m1_35 m8_68n ⟨by decide, by decide⟩ rfl q_Txp_answer ⟨Nat.le_of_ble_eq_true rfl, Nat.le_of_ble_eq_true rfl⟩ hl.1 rfl (Nat.le_of_ble_eq_true rfl) d_Ker_serve_74 ⟨show 0 + 0 ≤ (5 * ndS 13 tq + 4 * ndS 13 rq + ndS 13 RM) from by first | with_reducible rfl | with_reducible assumption | omega, show 0 + 0 ≤ (9804 * ndS 13 tq + 342 * ndS 13 rq + 36864 * ndS 13 RM) from by first | with_reducible rfl | with_reducible assumption | omega⟩) hw hA (fun p114 H locs hp114 hw => ?_)
      obtain ⟨f112, a113, rfl, e116, e117, e118, e119, e120, e121⟩ := hp114
      replace e116 : TxOk (f112 4) (f112 5) (f112 8) (f112 9) (f112 17) (f112 21) (a113 2) := e116
      obtain ⟨lk, ⟨i2, i3⟩, ⟨i4, i5⟩, ⟨i6, i7⟩, i8, ⟨i9, i11⟩, i10, hrt⟩ := e116
      replace e117 : (f112 9).toInt = (f96 9).toInt := e117
      replace e118 : (f112 17).toInt = (f96 17).toInt := e118
      replace e119 : (f112 21).toInt = 0 := e119
      replace e120 : (f112 15).toInt = (f96 15).toInt := e120
      replace e121 : (f112 20).toInt = (f96 20).toInt := e121
      replace hw : pw D A s.heap H locs [wd_Ker cs hk kr (fun _ => none) kf ka (gKe pq pz tq rq), fm 13 (fRw cs rq RR RM RW RF RA RC), fm 8 (fPp cs pq PV), fo 13 (fTx cs tq TR TO TF TA) ip, wd_Txp cs hx (TR ip) (fun k => if k = 3 then (some hp1) else none) f112 a113 (fun _ _ => none)] := hw
      refine lv_iconst (v := 1) S.x S.b d_Ker_serve_77 (by decide) ?_
      have hw := ftx_in0 (pr := [wd_Ker cs hk kr (fun _ => none) kf ka (gKe pq pz tq rq), fm 13 (fRw cs rq RR RM RW RF RA RC), fm 8 (fPp cs pq PV)]) hw hip hcu.1 hto1
      obtain ⟨TF122, hu_TF122⟩ : ∃ y : Nat → Nat → Int32, y = va_up TF ip f112 := ⟨_, rfl⟩
      obtain ⟨TA123, hu_TA123⟩ : ∃ y : Nat → Nat → Nat → Int32, y = va_up TA ip a113 := ⟨_, rfl⟩
      have hw : pw D A s.heap _ _ [wd_Ker cs hk kr (fun _ => none) kf ka (gKe pq pz tq rq), fm 13 (fRw cs rq RR RM RW RF RA RC), fm 8 (fPp cs pq PV), fm 13 (fTx cs tq TR TO TF122 TA123)] := (by rw [hu_TF122, hu_TA123]; exact hw)
      have hki : KnI pq PV pz tq rq TO TF122 TA123 RW RF := (by rw [hu_TF122, hu_TA123]; exact hki.upT (show TxN ip f112 a113 from ⟨(show TxOk (f112 4) (f112 5) (f112 8) (f112 9) (f112 17) (f112 21) (a113 2) from ⟨(by first | exact lk | exact lk_eq lk (by omega) | exact lk_mk (by omega)), ⟨by omega, by omega⟩, ⟨by omega, by omega⟩, ⟨by omega, by omega⟩, by omega, ⟨by omega, by omega⟩, by omega, hrt⟩), (show ((f112 15).toInt) = ((ip : Nat) : Int) from by first | with_reducible rfl | with_reducible assumption | omega), (show 0 ≤ (f112 20).toInt ∧ (f112 20).toInt ≤ 3 ∧ ((f112 20).toInt = 0 ∨ 3 * ((ip : Nat) : Int) + (f112 20).toInt ≤ 12) from by first | with_reducible rfl | with_reducible assumption | omega)⟩))
      have hz21_TF122 : (TF122 ip 21).toInt = (f112 21).toInt := (by rw [hu_TF122, va_up_s]; try rfl)
      have hw : pw D A s.heap _ _ [wd_Ker cs hk kr (fun _ => none) kf ka (gKe pq pz tq rq), fm 13 (fTx cs tq TR TO TF122 TA123), fm 13 (fRw cs rq RR RM RW RF RA RC), fm 8 (fPp cs pq PV)] := hw.sub [0, 3, 1, 2] rfl rfl
      exact pg_iret (v := 1) S hr rfl hlk hAe hw (show 0 ≤ (5 * ndS 13 tq + 4 * ndS 13 rq + ndS 13 RM) from by first | exact oz_86e49526c7 | omega) (show 0 ≤ (9804 * ndS 13 tq + 342 * ndS 13 rq + 36864 * ndS 13 RM) from by first | exact oz_fc3b58e969 | omega) (⟨pz, tq, rq, ka, TR, TO, TF122, TA123, RR, RM, RW, RF, RA, RC, rfl, (show (1 : Int32) = 0 ∨ (1 : Int32) = 1 from by first | exact Or.inl rfl | exact Or.inr rfl | exact z_or (by omega)), (show CuT pq PV tq TO ip hx from hcu), (show KnI pq PV pz tq rq TO TF122 TA123 RW RF from hki), (show RoI ka from hro), (show RmI rq RM from hrm), (show 0 + (5 * ndS 13 tq + 4 * ndS 13 rq + ndS 13 RM) ≤ 5 * ndS 13 tq + 4 * ndS 13 rq + ndS 13 RM from by first | exact oz_9d19b050ad | omega), (show 0 + (9804 * ndS 13 tq + 342 * ndS 13 rq + 36864 * ndS 13 RM) ≤ 9804 * ndS 13 tq + 342 * ndS 13 rq + 36864 * ndS 13 RM from by first | exact oz_b5592d0ae7 | omega)⟩) d_Ker_serve_78
    · simp only [List.mem_cons, List.not_mem_nil, or_false] at c93
      refine lv_aload_n S.x S.b d_Ker_serve_120 rfl (lv_at hl 2 rfl) ?_
      refine lv_aload_n S.x S.b d_Ker_serve_121 rfl (lv_at hl 3 rfl) ?_
      refine lv_iload_n S.x S.b d_Ker_serve_122 rfl (lv_at hl 0 rfl) ?_
      refine lv_aload_n S.x S.b d_Ker_serve_123 rfl (lv_at hl 3 rfl) ?_
      refine px_get S k_Txp hT hw 4 0 23 (v := .int ((TF ip) 23)) rfl rfl rfl (by decide) m6_161 d_Ker_serve_124 ?_
      refine lv_if_ne (tgt := 136) S.x S.b d_Ker_serve_127 (by decide) (fun c124 => ?_) (fun c124 => ?_)
      · have nc124 : ¬ ((TF ip) 23).toInt = (0 : Int) := mt (i_eq (x := ((TF ip) 23)) (y := 0)).mpr c124
        refine lv_iconst (v := 2) S.x S.b d_Ker_serve_136 (by decide) ?_
        refine lv_iload_n S.x S.b d_Ker_serve_137 rfl (lv_at hl 0 rfl) ?_
        refine lv_imul S.x S.b d_Ker_serve_138 ?_
        refine lv_topi (fun z125 ez125 => ?_)
        have lz125 := Int32.le_toInt z125
        have uz125 := Int32.toInt_lt z125
        have tz125 : -2147483648 ≤ 2 * v4.toInt → 2 * v4.toInt < 2147483648 → z125.toInt = 2 * v4.toInt := by rw [ez125]; exact i_mulc 2 v4 (by decide)
        try replace tz125 : z125.toInt = 2 * v4.toInt := by omega
        refine lv_iconst (v := 1) S.x S.b d_Ker_serve_139 (by decide) ?_
        refine lv_iadd S.x S.b d_Ker_serve_140 ?_
        refine lv_topi (fun z126 ez126 => ?_)
        have tz126 : z126.toInt = (z125.toInt + (1 : Int) + 2147483648) % 4294967296 - 2147483648 := by rw [ez126]; exact i_add z125 1
        have lz126 := Int32.le_toInt z126
        have uz126 := Int32.toInt_lt z126
        try replace tz126 : z126.toInt = z125.toInt + (1 : Int) := by omega
        have hw : pw D A s.heap _ _ [wd_Ker cs hk kr (fun _ => none) kf ka (gKe pq pz tq rq), fm 13 (fRw cs rq RR RM RW RF RA RC), fm 8 (fPp cs pq PV), fm 13 (fTx cs tq TR TO TF TA)] := ftx_back (pr := [wd_Ker cs hk kr (fun _ => none) kf ka (gKe pq pz tq rq), fm 13 (fRw cs rq RR RM RW RF RA RC), fm 8 (fPp cs pq PV)]) hw hip hcu.1 hto1
        have hw : pw D A s.heap _ _ [wd_Ker cs hk kr (fun _ => none) kf ka (gKe pq pz tq rq), fm 13 (fTx cs tq TR TO TF TA), fm 13 (fRw cs rq RR RM RW RF RA RC), fm 8 (fPp cs pq PV)] := hw.sub [0, 3, 1, 2] rfl rfl
        refine pg_calli (pr := []) (px_runV (As := [.ref hx, .int v4, .int z126]) (rest := []) S (c_k_send_T l D cs hk kr pq kf PV pz tq rq ka TR TO TF TA RR RM RW RF RA RC v4 z126 ip hx (show v4.toInt = -1 ∨ (0 ≤ v4.toInt ∧ v4.toInt ≤ 12 ∧ 0 ≤ z126.toInt ∧ z126.toInt ≤ 25) from by first | with_reducible rfl | with_reducible assumption | omega) (show (TF ip 21).toInt = 1 from by first | exact g2 | omega) hki hro hrm hip hcu _ _) hT (pr := []) (pcs := [wd_Ker cs hk kr (fun _ => none) kf ka (gKe pq pz tq rq), fm 13 (fTx cs tq TR TO TF TA), fm 13 (fRw cs rq RR RM RW RF RA RC), fm 8 (fPp cs pq PV)]) hw (px_X.tot px_X.tt) (px_recv hT hw 0 0 rfl rfl rfl) m8_150 m8_147 m8_149 ms_6_0 m1_19 q_Ker_send ⟨Nat.le_of_ble_eq_true rfl, Nat.le_of_ble_eq_true rfl⟩ hl.1 rfl (Nat.le_of_ble_eq_true rfl) d_Ker_serve_141 ⟨show 0 + (5 * ndS 13 tq + 4 * ndS 13 rq + ndS 13 RM) ≤ (5 * ndS 13 tq + 4 * ndS 13 rq + ndS 13 RM) from by first | with_reducible rfl | with_reducible assumption | omega, show 0 + (9804 * ndS 13 tq + 342 * ndS 13 rq + 36864 * ndS 13 RM) ≤ (9804 * ndS 13 tq + 342 * ndS 13 rq + 36864 * ndS 13 RM) from by first | with_reducible rfl | with_reducible assumption | omega⟩) hw hA (fun v156 p155 k157 n158 H locs hp155 hw => ?_)
        dsimp only at hp155
        obtain ⟨pz141, tq142, rq143, ka144, TR145, TO146, TF147, TA148, RR149, RM150, RW151, RF152, RA153, RC154, rfl, e159, e160, e161, e162, e163, e164, e165⟩ := hp155
        have e159 := z_rng e159
        replace e160 : CuT pq PV tq142 TO146 ip hx := e160
        obtain ⟨j166, hp166, hj166, hjq166, hto166, hf0166⟩ := e160.2
        replace e161 : KnI pq PV pz141 tq142 rq143 TO146 TF147 TA148 RW151 RF152 := e161
        have hki := e161
        replace e162 : RoI ka144 := e162
        have hro := e162
        replace e163 : RmI rq143 RM150 := e163
        have hrm := e163
        replace e164 : k157 + (5 * ndS 13 tq142 + 4 * ndS 13 rq143 + ndS 13 RM150) ≤ 5 * ndS 13 tq + 4 * ndS 13 rq + ndS 13 RM := e164
        replace e165 : n158 + (9804 * ndS 13 tq142 + 342 * ndS 13 rq143 + 36864 * ndS 13 RM150) ≤ 9804 * ndS 13 tq + 342 * ndS 13 rq + 36864 * ndS 13 RM := e165
        replace hw : pw D A s.heap H locs [wd_Ker cs hk kr (fun _ => none) kf ka144 (gKe pq pz141 tq142 rq143), fm 13 (fTx cs tq142 TR145 TO146 TF147 TA148), fm 13 (fRw cs rq143 RR149 RM150 RW151 RF152 RA153 RC154), fm 8 (fPp cs pq PV)] := hw
        have lv156 := Int32.le_toInt v156
        have uv156 := Int32.toInt_lt v156
        exact pg_iret (v := v156) S hr (z_nar (by omega)) hlk hAe hw (show (0 + k157) ≤ (5 * ndS 13 tq + 4 * ndS 13 rq + ndS 13 RM) from by first | exact oz_c18bd8c19e e164 | omega) (show (0 + n158) ≤ (9804 * ndS 13 tq + 342 * ndS 13 rq + 36864 * ndS 13 RM) from by first | exact oz_a5e7637f35 e165 | omega) (⟨pz141, tq142, rq143, ka144, TR145, TO146, TF147, TA148, RR149, RM150, RW151, RF152, RA153, RC154, rfl, (show v156 = 0 ∨ v156 = 1 from by first | exact Or.inl rfl | exact Or.inr rfl | exact z_or (by omega)), (show CuT pq PV tq142 TO146 ip hx from e160), (show KnI pq PV pz141 tq142 rq143 TO146 TF147 TA148 RW151 RF152 from hki), (show RoI ka144 from hro), (show RmI rq143 RM150 from hrm), (show (0 + k157) + (5 * ndS 13 tq142 + 4 * ndS 13 rq143 + ndS 13 RM150) ≤ 5 * ndS 13 tq + 4 * ndS 13 rq + ndS 13 RM from by first | exact oz_83cb35c84f e164 | omega), (show (0 + n158) + (9804 * ndS 13 tq142 + 342 * ndS 13 rq143 + 36864 * ndS 13 RM150) ≤ 9804 * ndS 13 tq + 342 * ndS 13 rq + 36864 * ndS 13 RM from by first | exact oz_0878d13dda e165 | omega)⟩) d_Ker_serve_144
      · have nc124 : ((TF ip) 23).toInt = (0 : Int) := (i_eq (x := ((TF ip) 23)) (y := 0)).mp c124
        refine lv_iconst (v := 2) S.x S.b d_Ker_serve_130 (by decide) ?_
        refine lv_iload_n S.x S.b d_Ker_serve_131 rfl (lv_at hl 1 rfl) ?_
        refine lv_imul S.x S.b d_Ker_serve_132 ?_
        have lr167 := Int32.le_toInt ((TF ip) 15)
        have ur167 := Int32.toInt_lt ((TF ip) 15)
        refine lv_topi (fun z168 ez168 => ?_)
        have lz168 := Int32.le_toInt z168
        have uz168 := Int32.toInt_lt z168
        have tz168 : -2147483648 ≤ 2 * ((TF ip) 15).toInt → 2 * ((TF ip) 15).toInt < 2147483648 → z168.toInt = 2 * ((TF ip) 15).toInt := by rw [ez168]; exact i_mulc 2 ((TF ip) 15) (by decide)
        try replace tz168 : z168.toInt = 2 * ((TF ip) 15).toInt := by omega
        refine lv_goto (tgt := 141) S.x S.b d_Ker_serve_133 (by decide) ?_
        have hw : pw D A s.heap _ _ [wd_Ker cs hk kr (fun _ => none) kf ka (gKe pq pz tq rq), fm 13 (fRw cs rq RR RM RW RF RA RC), fm 8 (fPp cs pq PV), fm 13 (fTx cs tq TR TO TF TA)] := ftx_back (pr := [wd_Ker cs hk kr (fun _ => none) kf ka (gKe pq pz tq rq), fm 13 (fRw cs rq RR RM RW RF RA RC), fm 8 (fPp cs pq PV)]) hw hip hcu.1 hto1
        have hw : pw D A s.heap _ _ [wd_Ker cs hk kr (fun _ => none) kf ka (gKe pq pz tq rq), fm 13 (fTx cs tq TR TO TF TA), fm 13 (fRw cs rq RR RM RW RF RA RC), fm 8 (fPp cs pq PV)] := hw.sub [0, 3, 1, 2] rfl rfl
        refine pg_calli (pr := []) (px_runV (As := [.ref hx, .int v4, .int z168]) (rest := []) S (c_k_send_T l D cs hk kr pq kf PV pz tq rq ka TR TO TF TA RR RM RW RF RA RC v4 z168 ip hx (show v4.toInt = -1 ∨ (0 ≤ v4.toInt ∧ v4.toInt ≤ 12 ∧ 0 ≤ z168.toInt ∧ z168.toInt ≤ 25) from by first | with_reducible rfl | with_reducible assumption | omega) (show (TF ip 21).toInt = 1 from by first | exact g2 | omega) hki hro hrm hip hcu _ _) hT (pr := []) (pcs := [wd_Ker cs hk kr (fun _ => none) kf ka (gKe pq pz tq rq), fm 13 (fTx cs tq TR TO TF TA), fm 13 (fRw cs rq RR RM RW RF RA RC), fm 8 (fPp cs pq PV)]) hw (px_X.tot px_X.tt) (px_recv hT hw 0 0 rfl rfl rfl) m8_150 m8_147 m8_149 ms_6_0 m1_19 q_Ker_send ⟨Nat.le_of_ble_eq_true rfl, Nat.le_of_ble_eq_true rfl⟩ hl.1 rfl (Nat.le_of_ble_eq_true rfl) d_Ker_serve_141 ⟨show 0 + (5 * ndS 13 tq + 4 * ndS 13 rq + ndS 13 RM) ≤ (5 * ndS 13 tq + 4 * ndS 13 rq + ndS 13 RM) from by first | with_reducible rfl | with_reducible assumption | omega, show 0 + (9804 * ndS 13 tq + 342 * ndS 13 rq + 36864 * ndS 13 RM) ≤ (9804 * ndS 13 tq + 342 * ndS 13 rq + 36864 * ndS 13 RM) from by first | with_reducible rfl | with_reducible assumption | omega⟩) hw hA (fun v198 p197 k199 n200 H locs hp197 hw => ?_)
        dsimp only at hp197
        obtain ⟨pz183, tq184, rq185, ka186, TR187, TO188, TF189, TA190, RR191, RM192, RW193, RF194, RA195, RC196, rfl, e201, e202, e203, e204, e205, e206, e207⟩ := hp197
        have e201 := z_rng e201
        replace e202 : CuT pq PV tq184 TO188 ip hx := e202
        obtain ⟨j208, hp208, hj208, hjq208, hto208, hf0208⟩ := e202.2
        replace e203 : KnI pq PV pz183 tq184 rq185 TO188 TF189 TA190 RW193 RF194 := e203
        have hki := e203
        replace e204 : RoI ka186 := e204
        have hro := e204
        replace e205 : RmI rq185 RM192 := e205
        have hrm := e205
        replace e206 : k199 + (5 * ndS 13 tq184 + 4 * ndS 13 rq185 + ndS 13 RM192) ≤ 5 * ndS 13 tq + 4 * ndS 13 rq + ndS 13 RM := e206
        replace e207 : n200 + (9804 * ndS 13 tq184 + 342 * ndS 13 rq185 + 36864 * ndS 13 RM192) ≤ 9804 * ndS 13 tq + 342 * ndS 13 rq + 36864 * ndS 13 RM := e207
        replace hw : pw D A s.heap H locs [wd_Ker cs hk kr (fun _ => none) kf ka186 (gKe pq pz183 tq184 rq185), fm 13 (fTx cs tq184 TR187 TO188 TF189 TA190), fm 13 (fRw cs rq185 RR191 RM192 RW193 RF194 RA195 RC196), fm 8 (fPp cs pq PV)] := hw
        have lv198 := Int32.le_toInt v198
        have uv198 := Int32.toInt_lt v198
        exact pg_iret (v := v198) S hr (z_nar (by omega)) hlk hAe hw (show (0 + k199) ≤ (5 * ndS 13 tq + 4 * ndS 13 rq + ndS 13 RM) from by first | exact oz_c18bd8c19e e206 | omega) (show (0 + n200) ≤ (9804 * ndS 13 tq + 342 * ndS 13 rq + 36864 * ndS 13 RM) from by first | exact oz_a5e7637f35 e207 | omega) (⟨pz183, tq184, rq185, ka186, TR187, TO188, TF189, TA190, RR191, RM192, RW193, RF194, RA195, RC196, rfl, (show v198 = 0 ∨ v198 = 1 from by first | exact Or.inl rfl | exact Or.inr rfl | exact z_or (by omega)), (show CuT pq PV tq184 TO188 ip hx from e202), (show KnI pq PV pz183 tq184 rq185 TO188 TF189 TA190 RW193 RF194 from hki), (show RoI ka186 from hro), (show RmI rq185 RM192 from hrm), (show (0 + k199) + (5 * ndS 13 tq184 + 4 * ndS 13 rq185 + ndS 13 RM192) ≤ 5 * ndS 13 tq + 4 * ndS 13 rq + ndS 13 RM from by first | exact oz_83cb35c84f e206 | omega), (show (0 + n200) + (9804 * ndS 13 tq184 + 342 * ndS 13 rq185 + 36864 * ndS 13 RM192) ≤ 9804 * ndS 13 tq + 342 * ndS 13 rq + 36864 * ndS 13 RM from by first | exact oz_0878d13dda e207 | omega)⟩) d_Ker_serve_144
    · simp only [List.mem_cons, List.not_mem_nil, or_false] at c93
      refine lv_aload_n S.x S.b d_Ker_serve_163 rfl (lv_at hl 2 rfl) ?_
      refine lv_aload_n S.x S.b d_Ker_serve_164 rfl (lv_at hl 3 rfl) ?_
      refine lv_iload_n S.x S.b d_Ker_serve_165 rfl (lv_at hl 0 rfl) ?_
      refine lv_aload_n S.x S.b d_Ker_serve_166 rfl (lv_at hl 3 rfl) ?_
      refine px_get S k_Txp hT hw 4 0 23 (v := .int ((TF ip) 23)) rfl rfl rfl (by decide) m6_161 d_Ker_serve_167 ?_
      refine lv_if_ne (tgt := 181) S.x S.b d_Ker_serve_170 (by decide) (fun c209 => ?_) (fun c209 => ?_)
      · have nc209 : ¬ ((TF ip) 23).toInt = (0 : Int) := mt (i_eq (x := ((TF ip) 23)) (y := 0)).mpr c209
        refine lv_iconst (v := 2) S.x S.b d_Ker_serve_181 (by decide) ?_
        refine lv_iload_n S.x S.b d_Ker_serve_182 rfl (lv_at hl 0 rfl) ?_
        refine lv_imul S.x S.b d_Ker_serve_183 ?_
        refine lv_topi (fun z210 ez210 => ?_)
        have lz210 := Int32.le_toInt z210
        have uz210 := Int32.toInt_lt z210
        have tz210 : -2147483648 ≤ 2 * v4.toInt → 2 * v4.toInt < 2147483648 → z210.toInt = 2 * v4.toInt := by rw [ez210]; exact i_mulc 2 v4 (by decide)
        try replace tz210 : z210.toInt = 2 * v4.toInt := by omega
        have hw : pw D A s.heap _ _ [wd_Ker cs hk kr (fun _ => none) kf ka (gKe pq pz tq rq), fm 13 (fRw cs rq RR RM RW RF RA RC), fm 8 (fPp cs pq PV), fm 13 (fTx cs tq TR TO TF TA)] := ftx_back (pr := [wd_Ker cs hk kr (fun _ => none) kf ka (gKe pq pz tq rq), fm 13 (fRw cs rq RR RM RW RF RA RC), fm 8 (fPp cs pq PV)]) hw hip hcu.1 hto1
        have hw : pw D A s.heap _ _ [wd_Ker cs hk kr (fun _ => none) kf ka (gKe pq pz tq rq), fm 13 (fTx cs tq TR TO TF TA), fm 13 (fRw cs rq RR RM RW RF RA RC), fm 8 (fPp cs pq PV)] := hw.sub [0, 3, 1, 2] rfl rfl
        refine pg_calli (pr := []) (px_runV (As := [.ref hx, .int v4, .int z210]) (rest := []) S (c_k_receive_T l D cs hk kr pq kf PV pz tq rq ka TR TO TF TA RR RM RW RF RA RC v4 z210 ip hx (show v4.toInt = -1 ∨ (0 ≤ v4.toInt ∧ v4.toInt ≤ 12 ∧ 0 ≤ z210.toInt ∧ z210.toInt ≤ 25) from by first | with_reducible rfl | with_reducible assumption | omega) (show (TF ip 21).toInt = 1 from by first | exact g2 | omega) hki hro hrm hip hcu _ _) hT (pr := []) (pcs := [wd_Ker cs hk kr (fun _ => none) kf ka (gKe pq pz tq rq), fm 13 (fTx cs tq TR TO TF TA), fm 13 (fRw cs rq RR RM RW RF RA RC), fm 8 (fPp cs pq PV)]) hw (px_X.tot px_X.tt) (px_recv hT hw 0 0 rfl rfl rfl) m8_162 m8_159 m8_161 ms_6_3 m1_19 q_Ker_receive ⟨Nat.le_of_ble_eq_true rfl, Nat.le_of_ble_eq_true rfl⟩ hl.1 rfl (Nat.le_of_ble_eq_true rfl) d_Ker_serve_184 ⟨show 0 + (5 * ndS 13 tq + 4 * ndS 13 rq + ndS 13 RM) ≤ (5 * ndS 13 tq + 4 * ndS 13 rq + ndS 13 RM) from by first | with_reducible rfl | with_reducible assumption | omega, show 0 + (9804 * ndS 13 tq + 342 * ndS 13 rq + 36864 * ndS 13 RM) ≤ (9804 * ndS 13 tq + 342 * ndS 13 rq + 36864 * ndS 13 RM) from by first | with_reducible rfl | with_reducible assumption | omega⟩) hw hA (fun v240 p239 k241 n242 H locs hp239 hw => ?_)
        dsimp only at hp239
        obtain ⟨pz225, tq226, rq227, ka228, TR229, TO230, TF231, TA232, RR233, RM234, RW235, RF236, RA237, RC238, rfl, e243, e244, e245, e246, e247, e248, e249⟩ := hp239
        have e243 := z_rng e243
        replace e244 : CuT pq PV tq226 TO230 ip hx := e244
        obtain ⟨j250, hp250, hj250, hjq250, hto250, hf0250⟩ := e244.2
        replace e245 : KnI pq PV pz225 tq226 rq227 TO230 TF231 TA232 RW235 RF236 := e245
        have hki := e245
        replace e246 : RoI ka228 := e246
        have hro := e246
        replace e247 : RmI rq227 RM234 := e247
        have hrm := e247
        replace e248 : k241 + (5 * ndS 13 tq226 + 4 * ndS 13 rq227 + ndS 13 RM234) ≤ 5 * ndS 13 tq + 4 * ndS 13 rq + ndS 13 RM := e248
        replace e249 : n242 + (9804 * ndS 13 tq226 + 342 * ndS 13 rq227 + 36864 * ndS 13 RM234) ≤ 9804 * ndS 13 tq + 342 * ndS 13 rq + 36864 * ndS 13 RM := e249
        replace hw : pw D A s.heap H locs [wd_Ker cs hk kr (fun _ => none) kf ka228 (gKe pq pz225 tq226 rq227), fm 13 (fTx cs tq226 TR229 TO230 TF231 TA232), fm 13 (fRw cs rq227 RR233 RM234 RW235 RF236 RA237 RC238), fm 8 (fPp cs pq PV)] := hw
        have lv240 := Int32.le_toInt v240
        have uv240 := Int32.toInt_lt v240
        exact pg_iret (v := v240) S hr (z_nar (by omega)) hlk hAe hw (show (0 + k241) ≤ (5 * ndS 13 tq + 4 * ndS 13 rq + ndS 13 RM) from by first | exact oz_c18bd8c19e e248 | omega) (show (0 + n242) ≤ (9804 * ndS 13 tq + 342 * ndS 13 rq + 36864 * ndS 13 RM) from by first | exact oz_a5e7637f35 e249 | omega) (⟨pz225, tq226, rq227, ka228, TR229, TO230, TF231, TA232, RR233, RM234, RW235, RF236, RA237, RC238, rfl, (show v240 = 0 ∨ v240 = 1 from by first | exact Or.inl rfl | exact Or.inr rfl | exact z_or (by omega)), (show CuT pq PV tq226 TO230 ip hx from e244), (show KnI pq PV pz225 tq226 rq227 TO230 TF231 TA232 RW235 RF236 from hki), (show RoI ka228 from hro), (show RmI rq227 RM234 from hrm), (show (0 + k241) + (5 * ndS 13 tq226 + 4 * ndS 13 rq227 + ndS 13 RM234) ≤ 5 * ndS 13 tq + 4 * ndS 13 rq + ndS 13 RM from by first | exact oz_83cb35c84f e248 | omega), (show (0 + n242) + (9804 * ndS 13 tq226 + 342 * ndS 13 rq227 + 36864 * ndS 13 RM234) ≤ 9804 * ndS 13 tq + 342 * ndS 13 rq + 36864 * ndS 13 RM from by first | exact oz_0878d13dda e249 | omega)⟩) d_Ker_serve_187
      · have nc209 : ((TF ip) 23).toInt = (0 : Int) := (i_eq (x := ((TF ip) 23)) (y := 0)).mp c209
        refine lv_iconst (v := 2) S.x S.b d_Ker_serve_173 (by decide) ?_
        refine lv_iload_n S.x S.b d_Ker_serve_174 rfl (lv_at hl 1 rfl) ?_
        refine lv_imul S.x S.b d_Ker_serve_175 ?_
        have lr251 := Int32.le_toInt ((TF ip) 15)
        have ur251 := Int32.toInt_lt ((TF ip) 15)
        refine lv_topi (fun z252 ez252 => ?_)
        have lz252 := Int32.le_toInt z252
        have uz252 := Int32.toInt_lt z252
        have tz252 : -2147483648 ≤ 2 * ((TF ip) 15).toInt → 2 * ((TF ip) 15).toInt < 2147483648 → z252.toInt = 2 * ((TF ip) 15).toInt := by rw [ez252]; exact i_mulc 2 ((TF ip) 15) (by decide)
        try replace tz252 : z252.toInt = 2 * ((TF ip) 15).toInt := by omega
        refine lv_iconst (v := 1) S.x S.b d_Ker_serve_176 (by decide) ?_
        refine lv_iadd S.x S.b d_Ker_serve_177 ?_
        refine lv_topi (fun z253 ez253 => ?_)
        have tz253 : z253.toInt = (z252.toInt + (1 : Int) + 2147483648) % 4294967296 - 2147483648 := by rw [ez253]; exact i_add z252 1
        have lz253 := Int32.le_toInt z253
        have uz253 := Int32.toInt_lt z253
        try replace tz253 : z253.toInt = z252.toInt + (1 : Int) := by omega
        refine lv_goto (tgt := 184) S.x S.b d_Ker_serve_178 (by decide) ?_
        have hw : pw D A s.heap _ _ [wd_Ker cs hk kr (fun _ => none) kf ka (gKe pq pz tq rq), fm 13 (fRw cs rq RR RM RW RF RA RC), fm 8 (fPp cs pq PV), fm 13 (fTx cs tq TR TO TF TA)] := ftx_back (pr := [wd_Ker cs hk kr (fun _ => none) kf ka (gKe pq pz tq rq), fm 13 (fRw cs rq RR RM RW RF RA RC), fm 8 (fPp cs pq PV)]) hw hip hcu.1 hto1
        have hw : pw D A s.heap _ _ [wd_Ker cs hk kr (fun _ => none) kf ka (gKe pq pz tq rq), fm 13 (fTx cs tq TR TO TF TA), fm 13 (fRw cs rq RR RM RW RF RA RC), fm 8 (fPp cs pq PV)] := hw.sub [0, 3, 1, 2] rfl rfl
        refine pg_calli (pr := []) (px_runV (As := [.ref hx, .int v4, .int z253]) (rest := []) S (c_k_receive_T l D cs hk kr pq kf PV pz tq rq ka TR TO TF TA RR RM RW RF RA RC v4 z253 ip hx (show v4.toInt = -1 ∨ (0 ≤ v4.toInt ∧ v4.toInt ≤ 12 ∧ 0 ≤ z253.toInt ∧ z253.toInt ≤ 25) from by first | with_reducible rfl | with_reducible assumption | omega) (show (TF ip 21).toInt = 1 from by first | exact g2 | omega) hki hro hrm hip hcu _ _) hT (pr := []) (pcs := [wd_Ker cs hk kr (fun _ => none) kf ka (gKe pq pz tq rq), fm 13 (fTx cs tq TR TO TF TA), fm 13 (fRw cs rq RR RM RW RF RA RC), fm 8 (fPp cs pq PV)]) hw (px_X.tot px_X.tt) (px_recv hT hw 0 0 rfl rfl rfl) m8_162 m8_159 m8_161 ms_6_3 m1_19 q_Ker_receive ⟨Nat.le_of_ble_eq_true rfl, Nat.le_of_ble_eq_true rfl⟩ hl.1 rfl (Nat.le_of_ble_eq_true rfl) d_Ker_serve_184 ⟨show 0 + (5 * ndS 13 tq + 4 * ndS 13 rq + ndS 13 RM) ≤ (5 * ndS 13 tq + 4 * ndS 13 rq + ndS 13 RM) from by first | with_reducible rfl | with_reducible assumption | omega, show 0 + (9804 * ndS 13 tq + 342 * ndS 13 rq + 36864 * ndS 13 RM) ≤ (9804 * ndS 13 tq + 342 * ndS 13 rq + 36864 * ndS 13 RM) from by first | with_reducible rfl | with_reducible assumption | omega⟩) hw hA (fun v283 p282 k284 n285 H locs hp282 hw => ?_)
        dsimp only at hp282
        obtain ⟨pz268, tq269, rq270, ka271, TR272, TO273, TF274, TA275, RR276, RM277, RW278, RF279, RA280, RC281, rfl, e286, e287, e288, e289, e290, e291, e292⟩ := hp282
        have e286 := z_rng e286
        replace e287 : CuT pq PV tq269 TO273 ip hx := e287
        obtain ⟨j293, hp293, hj293, hjq293, hto293, hf0293⟩ := e287.2
        replace e288 : KnI pq PV pz268 tq269 rq270 TO273 TF274 TA275 RW278 RF279 := e288
        have hki := e288
        replace e289 : RoI ka271 := e289
        have hro := e289
        replace e290 : RmI rq270 RM277 := e290
        have hrm := e290
        replace e291 : k284 + (5 * ndS 13 tq269 + 4 * ndS 13 rq270 + ndS 13 RM277) ≤ 5 * ndS 13 tq + 4 * ndS 13 rq + ndS 13 RM := e291
        replace e292 : n285 + (9804 * ndS 13 tq269 + 342 * ndS 13 rq270 + 36864 * ndS 13 RM277) ≤ 9804 * ndS 13 tq + 342 * ndS 13 rq + 36864 * ndS 13 RM := e292
        replace hw : pw D A s.heap H locs [wd_Ker cs hk kr (fun _ => none) kf ka271 (gKe pq pz268 tq269 rq270), fm 13 (fTx cs tq269 TR272 TO273 TF274 TA275), fm 13 (fRw cs rq270 RR276 RM277 RW278 RF279 RA280 RC281), fm 8 (fPp cs pq PV)] := hw
        have lv283 := Int32.le_toInt v283
        have uv283 := Int32.toInt_lt v283
        exact pg_iret (v := v283) S hr (z_nar (by omega)) hlk hAe hw (show (0 + k284) ≤ (5 * ndS 13 tq + 4 * ndS 13 rq + ndS 13 RM) from by first | exact oz_c18bd8c19e e291 | omega) (show (0 + n285) ≤ (9804 * ndS 13 tq + 342 * ndS 13 rq + 36864 * ndS 13 RM) from by first | exact oz_a5e7637f35 e292 | omega) (⟨pz268, tq269, rq270, ka271, TR272, TO273, TF274, TA275, RR276, RM277, RW278, RF279, RA280, RC281, rfl, (show v283 = 0 ∨ v283 = 1 from by first | exact Or.inl rfl | exact Or.inr rfl | exact z_or (by omega)), (show CuT pq PV tq269 TO273 ip hx from e287), (show KnI pq PV pz268 tq269 rq270 TO273 TF274 TA275 RW278 RF279 from hki), (show RoI ka271 from hro), (show RmI rq270 RM277 from hrm), (show (0 + k284) + (5 * ndS 13 tq269 + 4 * ndS 13 rq270 + ndS 13 RM277) ≤ 5 * ndS 13 tq + 4 * ndS 13 rq + ndS 13 RM from by first | exact oz_83cb35c84f e291 | omega), (show (0 + n285) + (9804 * ndS 13 tq269 + 342 * ndS 13 rq270 + 36864 * ndS 13 RM277) ≤ 9804 * ndS 13 tq + 342 * ndS 13 rq + 36864 * ndS 13 RM from by first | exact oz_0878d13dda e292 | omega)⟩) d_Ker_serve_187
    · simp only [List.mem_cons, List.not_mem_nil, or_false] at c93
      refine lv_aload_n S.x S.b d_Ker_serve_79 rfl (lv_at hl 3 rfl) ?_
      refine lv_aload_n S.x S.b d_Ker_serve_80 rfl (lv_at hl 2 rfl) ?_
      refine lv_aload_n S.x S.b d_Ker_serve_81 rfl (lv_at hl 3 rfl) ?_
      refine lv_aload_n S.x S.b d_Ker_serve_82 rfl (lv_at hl 3 rfl) ?_
      refine px_get S k_Txp hT hw 4 0 23 (v := .int ((TF ip) 23)) rfl rfl rfl (by decide) m6_161 d_Ker_serve_83 ?_
      refine lv_aload_n S.x S.b d_Ker_serve_86 rfl (lv_at hl 3 rfl) ?_
      refine px_get S k_Txp hT hw 4 0 24 (v := .int ((TF ip) 24)) rfl rfl rfl (by decide) m6_166 d_Ker_serve_87 ?_
      have hw : pw D A s.heap _ _ [wd_Ker cs hk kr (fun _ => none) kf ka (gKe pq pz tq rq), fm 13 (fRw cs rq RR RM RW RF RA RC), fm 8 (fPp cs pq PV), fm 13 (fTx cs tq TR TO TF TA)] := ftx_back (pr := [wd_Ker cs hk kr (fun _ => none) kf ka (gKe pq pz tq rq), fm 13 (fRw cs rq RR RM RW RF RA RC), fm 8 (fPp cs pq PV)]) hw hip hcu.1 hto1
      have hw : pw D A s.heap _ _ [wd_Ker cs hk kr (fun _ => none) kf ka (gKe pq pz tq rq), fm 13 (fTx cs tq TR TO TF TA), fm 13 (fRw cs rq RR RM RW RF RA RC), fm 8 (fPp cs pq PV)] := hw.sub [0, 3, 1, 2] rfl rfl
      refine pg_calli (pr := []) (px_runV (As := [.ref hx, .int ((TF ip) 23), .int ((TF ip) 24)]) (rest := [.ref hx]) S (c_k_spawn_T l D cs hk kr pq kf PV pz tq rq ka TR TO TF TA RR RM RW RF RA RC ((TF ip) 23) ((TF ip) 24) ip hx (show 0 ≤ (kf 8).toInt from by first | exact g0 | omega) (show (kf 8).toInt ≤ 100 from by first | exact g1 | omega) hki hro hrm hip hcu _ _) hT (pr := []) (pcs := [wd_Ker cs hk kr (fun _ => none) kf ka (gKe pq pz tq rq), fm 13 (fTx cs tq TR TO TF TA), fm 13 (fRw cs rq RR RM RW RF RA RC), fm 8 (fPp cs pq PV)]) hw (px_X.tot px_X.tt) (px_recv hT hw 0 0 rfl rfl rfl) m8_79 m8_76 m8_78 ms_5_10 m1_19 q_Ker_spawn ⟨Nat.le_of_ble_eq_true rfl, Nat.le_of_ble_eq_true rfl⟩ hl.1 rfl (Nat.le_of_ble_eq_true rfl) d_Ker_serve_90 ⟨show 0 + (5 * ndS 13 tq + 4 * ndS 13 rq + ndS 13 RM) ≤ (5 * ndS 13 tq + 4 * ndS 13 rq + ndS 13 RM) from by first | with_reducible rfl | with_reducible assumption | omega, show 0 + (9804 * ndS 13 tq + 342 * ndS 13 rq + 36864 * ndS 13 RM) ≤ (9804 * ndS 13 tq + 342 * ndS 13 rq + 36864 * ndS 13 RM) from by first | with_reducible rfl | with_reducible assumption | omega⟩) hw hA (fun v323 p322 k324 n325 H locs hp322 hw => ?_)
      dsimp only at hp322
      obtain ⟨pz308, tq309, rq310, ka311, TR312, TO313, TF314, TA315, RR316, RM317, RW318, RF319, RA320, RC321, rfl, e326, e327, e328, e329, e330, e331⟩ := hp322
      replace e326 : CuT pq PV tq309 TO313 ip hx := e326
      obtain ⟨j332, hp332, hj332, hjq332, hto332, hf0332⟩ := e326.2
      replace e327 : KnI pq PV pz308 tq309 rq310 TO313 TF314 TA315 RW318 RF319 := e327
      have hki := e327
      replace e328 : RoI ka311 := e328
      have hro := e328
      replace e329 : RmI rq310 RM317 := e329
      have hrm := e329
      replace e330 : k324 + (5 * ndS 13 tq309 + 4 * ndS 13 rq310 + ndS 13 RM317) ≤ 5 * ndS 13 tq + 4 * ndS 13 rq + ndS 13 RM := e330
      replace e331 : n325 + (9804 * ndS 13 tq309 + 342 * ndS 13 rq310 + 36864 * ndS 13 RM317) ≤ 9804 * ndS 13 tq + 342 * ndS 13 rq + 36864 * ndS 13 RM := e331
      replace hw : pw D A s.heap H locs [wd_Ker cs hk kr (fun _ => none) kf ka311 (gKe pq pz308 tq309 rq310), fm 13 (fTx cs tq309 TR312 TO313 TF314 TA315), fm 13 (fRw cs rq310 RR316 RM317 RW318 RF319 RA320 RC321), fm 8 (fPp cs pq PV)] := hw
      have lv323 := Int32.le_toInt v323
      have uv323 := Int32.toInt_lt v323
      have hw : pw D A s.heap _ _ [wd_Ker cs hk kr (fun _ => none) kf ka311 (gKe pq pz308 tq309 rq310), fm 13 (fRw cs rq310 RR316 RM317 RW318 RF319 RA320 RC321), fm 8 (fPp cs pq PV), fm 13 (fTx cs tq309 TR312 TO313 TF314 TA315)] := hw.sub [0, 2, 3, 1] rfl rfl
      have hw : pw D A s.heap _ _ [wd_Ker cs hk kr (fun _ => none) kf ka311 (gKe pq pz308 tq309 rq310), fm 13 (fRw cs rq310 RR316 RM317 RW318 RF319 RA320 RC321), fm 8 (fPp cs pq PV), fo 13 (fTx cs tq309 TR312 TO313 TF314 TA315) ip, wd_Txp cs hx (TR312 ip) (fun k => if k = 3 then (some hp332) else none) (TF314 ip) (TA315 ip) (fun _ _ => none)] := ftx_out (pr := [wd_Ker cs hk kr (fun _ => none) kf ka311 (gKe pq pz308 tq309 rq310), fm 13 (fRw cs rq310 RR316 RM317 RW318 RF319 RA320 RC321), fm 8 (fPp cs pq PV)]) hw hip e326.1 hto332
      have htn333 : TxN ip (TF314 ip) (TA315 ip) := hki.2.1 ip hip _ e326.1
      obtain ⟨lk, ⟨i2, i3⟩, ⟨i4, i5⟩, ⟨i6, i7⟩, i8, ⟨i9, i11⟩, i10, hrt⟩ := htn333.1
      have hid333 := htn333.2.1
      have hch333 := htn333.2.2
      unfold KcI at hch333
      refine px_callv (pr := [wd_Ker cs hk kr (fun _ => none) kf ka311 (gKe pq pz308 tq309 rq310), fm 13 (fRw cs rq310 RR316 RM317 RW318 RF319 RA320 RC321), fm 8 (fPp cs pq PV), fo 13 (fTx cs tq309 TR312 TO313 TF314 TA315) ip]) (px_runA (As := [.int v323]) (rest := []) S (c_Txp_answer l D cs hx (TR312 ip) (fun _ _ => none) hp332 (TF314 ip) (TA315 ip) v323  (show TxOk ((TF314 ip) 4) ((TF314 ip) 5) ((TF314 ip) 8) ((TF314 ip) 9) ((TF314 ip) 17) 0 ((TA315 ip) 2) from ⟨(by first | exact lk | exact lk_eq lk (by omega) | exact lk_mk (by omega)), ⟨by omega, by omega⟩, ⟨by omega, by omega⟩, ⟨by omega, by omega⟩, by omega, ⟨by decide, by decide⟩, (by show _ + _ + (0 : Int) ≤ 100; omega), hrt⟩) _) hT (pr := [wd_Ker cs hk kr (fun _ => none) kf ka311 (gKe pq pz308 tq309 rq310), fm 13 (fRw cs rq310 RR316 RM317 RW318 RF319 RA320 RC321), fm 8 (fPp cs pq PV), fo 13 (fTx cs tq309 TR312 TO313 TF314 TA315) ip]) (pcs := [wd_Txp cs hx (TR312 ip) (fun k => if k = 3 then (some hp332) else none) (TF314 ip) (TA315 ip) (fun _ _ => none)]) hw px_X.tt (C := "HomeSystem$TextProcess") (owner := "HomeSystem$AnyProcess") (x := ⟨"HomeSystem$AnyProcess", "answer", "(I)V"⟩) (px_recv hT hw 4 0 rfl rfl rfl) m8_75 m8_67 m8_69 m8_74 m8_73 m1_35 m8_68n ⟨by decide, by decide⟩ rfl q_Txp_answer ⟨Nat.le_of_ble_eq_true rfl, Nat.le_of_ble_eq_true rfl⟩ hl.1 rfl (Nat.le_of_ble_eq_true rfl) d_Ker_serve_93 ⟨show (0 + k324) + 0 ≤ (5 * ndS 13 tq + 4 * ndS 13 rq + ndS 13 RM) from by first | with_reducible rfl | with_reducible assumption | omega, show (0 + n325) + 0 ≤ (9804 * ndS 13 tq + 342 * ndS 13 rq + 36864 * ndS 13 RM) from by first | with_reducible rfl | with_reducible assumption | omega⟩) hw hA (fun p338 H locs hp338 hw => ?_)
      obtain ⟨f336, a337, rfl, e340, e341, e342, e343, e344, e345⟩ := hp338
      replace e340 : TxOk (f336 4) (f336 5) (f336 8) (f336 9) (f336 17) (f336 21) (a337 2) := e340
      obtain ⟨lk, ⟨i2, i3⟩, ⟨i4, i5⟩, ⟨i6, i7⟩, i8, ⟨i9, i11⟩, i10, hrt⟩ := e340
      replace e341 : (f336 9).toInt = ((TF314 ip) 9).toInt := e341
      replace e342 : (f336 17).toInt = ((TF314 ip) 17).toInt := e342
      replace e343 : (f336 21).toInt = 0 := e343
      replace e344 : (f336 15).toInt = ((TF314 ip) 15).toInt := e344
      replace e345 : (f336 20).toInt = ((TF314 ip) 20).toInt := e345
      replace hw : pw D A s.heap H locs [wd_Ker cs hk kr (fun _ => none) kf ka311 (gKe pq pz308 tq309 rq310), fm 13 (fRw cs rq310 RR316 RM317 RW318 RF319 RA320 RC321), fm 8 (fPp cs pq PV), fo 13 (fTx cs tq309 TR312 TO313 TF314 TA315) ip, wd_Txp cs hx (TR312 ip) (fun k => if k = 3 then (some hp332) else none) f336 a337 (fun _ _ => none)] := hw
      refine lv_iconst (v := 1) S.x S.b d_Ker_serve_96 (by decide) ?_
      have hw := ftx_in0 (pr := [wd_Ker cs hk kr (fun _ => none) kf ka311 (gKe pq pz308 tq309 rq310), fm 13 (fRw cs rq310 RR316 RM317 RW318 RF319 RA320 RC321), fm 8 (fPp cs pq PV)]) hw hip e326.1 hto332
      obtain ⟨TF346, hu_TF346⟩ : ∃ y : Nat → Nat → Int32, y = va_up TF314 ip f336 := ⟨_, rfl⟩
      obtain ⟨TA347, hu_TA347⟩ : ∃ y : Nat → Nat → Nat → Int32, y = va_up TA315 ip a337 := ⟨_, rfl⟩
      have hw : pw D A s.heap _ _ [wd_Ker cs hk kr (fun _ => none) kf ka311 (gKe pq pz308 tq309 rq310), fm 13 (fRw cs rq310 RR316 RM317 RW318 RF319 RA320 RC321), fm 8 (fPp cs pq PV), fm 13 (fTx cs tq309 TR312 TO313 TF346 TA347)] := (by rw [hu_TF346, hu_TA347]; exact hw)
      have hki : KnI pq PV pz308 tq309 rq310 TO313 TF346 TA347 RW318 RF319 := (by rw [hu_TF346, hu_TA347]; exact hki.upT (show TxN ip f336 a337 from ⟨(show TxOk (f336 4) (f336 5) (f336 8) (f336 9) (f336 17) (f336 21) (a337 2) from ⟨(by first | exact lk | exact lk_eq lk (by omega) | exact lk_mk (by omega)), ⟨by omega, by omega⟩, ⟨by omega, by omega⟩, ⟨by omega, by omega⟩, by omega, ⟨by omega, by omega⟩, by omega, hrt⟩), (show ((f336 15).toInt) = ((ip : Nat) : Int) from by first | with_reducible rfl | with_reducible assumption | omega), (show 0 ≤ (f336 20).toInt ∧ (f336 20).toInt ≤ 3 ∧ ((f336 20).toInt = 0 ∨ 3 * ((ip : Nat) : Int) + (f336 20).toInt ≤ 12) from by first | with_reducible rfl | with_reducible assumption | omega)⟩))
      have hz21_TF346 : (TF346 ip 21).toInt = (f336 21).toInt := (by rw [hu_TF346, va_up_s]; try rfl)
      have hw : pw D A s.heap _ _ [wd_Ker cs hk kr (fun _ => none) kf ka311 (gKe pq pz308 tq309 rq310), fm 13 (fTx cs tq309 TR312 TO313 TF346 TA347), fm 13 (fRw cs rq310 RR316 RM317 RW318 RF319 RA320 RC321), fm 8 (fPp cs pq PV)] := hw.sub [0, 3, 1, 2] rfl rfl
      exact pg_iret (v := 1) S hr rfl hlk hAe hw (show (0 + k324) ≤ (5 * ndS 13 tq + 4 * ndS 13 rq + ndS 13 RM) from by first | exact oz_c18bd8c19e e330 | omega) (show (0 + n325) ≤ (9804 * ndS 13 tq + 342 * ndS 13 rq + 36864 * ndS 13 RM) from by first | exact oz_a5e7637f35 e331 | omega) (⟨pz308, tq309, rq310, ka311, TR312, TO313, TF346, TA347, RR316, RM317, RW318, RF319, RA320, RC321, rfl, (show (1 : Int32) = 0 ∨ (1 : Int32) = 1 from by first | exact Or.inl rfl | exact Or.inr rfl | exact z_or (by omega)), (show CuT pq PV tq309 TO313 ip hx from e326), (show KnI pq PV pz308 tq309 rq310 TO313 TF346 TA347 RW318 RF319 from hki), (show RoI ka311 from hro), (show RmI rq310 RM317 from hrm), (show (0 + k324) + (5 * ndS 13 tq309 + 4 * ndS 13 rq310 + ndS 13 RM317) ≤ 5 * ndS 13 tq + 4 * ndS 13 rq + ndS 13 RM from by first | exact oz_83cb35c84f e330 | omega), (show (0 + n325) + (9804 * ndS 13 tq309 + 342 * ndS 13 rq310 + 36864 * ndS 13 RM317) ≤ 9804 * ndS 13 tq + 342 * ndS 13 rq + 36864 * ndS 13 RM from by first | exact oz_0878d13dda e331 | omega)⟩) d_Ker_serve_97
    · simp only [List.mem_cons, List.not_mem_nil, or_false] at c93
      refine lv_aload_n S.x S.b d_Ker_serve_145 rfl (lv_at hl 2 rfl) ?_
      refine lv_aload_n S.x S.b d_Ker_serve_146 rfl (lv_at hl 3 rfl) ?_
      refine lv_aload_n S.x S.b d_Ker_serve_147 rfl (lv_at hl 3 rfl) ?_
      refine px_get S k_Txp hT hw 4 0 23 (v := .int ((TF ip) 23)) rfl rfl rfl (by decide) m6_161 d_Ker_serve_148 ?_
      refine lv_if_ne (tgt := 158) S.x S.b d_Ker_serve_151 (by decide) (fun c348 => ?_) (fun c348 => ?_)
      · have nc348 : ¬ ((TF ip) 23).toInt = (0 : Int) := mt (i_eq (x := ((TF ip) 23)) (y := 0)).mpr c348
        refine lv_iload_n S.x S.b d_Ker_serve_158 rfl (lv_at hl 0 rfl) ?_
        have hw : pw D A s.heap _ _ [wd_Ker cs hk kr (fun _ => none) kf ka (gKe pq pz tq rq), fm 13 (fRw cs rq RR RM RW RF RA RC), fm 8 (fPp cs pq PV), fm 13 (fTx cs tq TR TO TF TA)] := ftx_back (pr := [wd_Ker cs hk kr (fun _ => none) kf ka (gKe pq pz tq rq), fm 13 (fRw cs rq RR RM RW RF RA RC), fm 8 (fPp cs pq PV)]) hw hip hcu.1 hto1
        have hw : pw D A s.heap _ _ [wd_Ker cs hk kr (fun _ => none) kf ka (gKe pq pz tq rq), fm 13 (fTx cs tq TR TO TF TA), fm 13 (fRw cs rq RR RM RW RF RA RC), fm 8 (fPp cs pq PV)] := hw.sub [0, 3, 1, 2] rfl rfl
        refine pg_calli (pr := []) (px_runV (As := [.ref hx, .int v4]) (rest := []) S (c_k_await_T l D cs hk kr pq kf PV pz tq rq ka TR TO TF TA RR RM RW RF RA RC v4 ip hx (show v4.toInt = -1 ∨ (0 ≤ v4.toInt ∧ v4.toInt ≤ 12) from by first | with_reducible rfl | with_reducible assumption | omega) (show (TF ip 21).toInt = 1 from by first | exact g2 | omega) hki hro hrm hip hcu _ _) hT (pr := []) (pcs := [wd_Ker cs hk kr (fun _ => none) kf ka (gKe pq pz tq rq), fm 13 (fTx cs tq TR TO TF TA), fm 13 (fRw cs rq RR RM RW RF RA RC), fm 8 (fPp cs pq PV)]) hw (px_X.tot px_X.tt) (px_recv hT hw 0 0 rfl rfl rfl) m8_158 m8_155 m8_157 ms_6_2 m1_19 q_Ker_await ⟨Nat.le_of_ble_eq_true rfl, Nat.le_of_ble_eq_true rfl⟩ hl.1 rfl (Nat.le_of_ble_eq_true rfl) d_Ker_serve_159 ⟨show 0 + (5 * ndS 13 tq + 4 * ndS 13 rq + ndS 13 RM) ≤ (5 * ndS 13 tq + 4 * ndS 13 rq + ndS 13 RM) from by first | with_reducible rfl | with_reducible assumption | omega, show 0 + (9804 * ndS 13 tq + 342 * ndS 13 rq + 36864 * ndS 13 RM) ≤ (9804 * ndS 13 tq + 342 * ndS 13 rq + 36864 * ndS 13 RM) from by first | with_reducible rfl | with_reducible assumption | omega⟩) hw hA (fun v378 p377 k379 n380 H locs hp377 hw => ?_)
        dsimp only at hp377
        obtain ⟨pz363, tq364, rq365, ka366, TR367, TO368, TF369, TA370, RR371, RM372, RW373, RF374, RA375, RC376, rfl, e381, e382, e383, e384, e385, e386, e387⟩ := hp377
        have e381 := z_rng e381
        replace e382 : CuT pq PV tq364 TO368 ip hx := e382
        obtain ⟨j388, hp388, hj388, hjq388, hto388, hf0388⟩ := e382.2
        replace e383 : KnI pq PV pz363 tq364 rq365 TO368 TF369 TA370 RW373 RF374 := e383
        have hki := e383
        replace e384 : RoI ka366 := e384
        have hro := e384
        replace e385 : RmI rq365 RM372 := e385
        have hrm := e385
        replace e386 : k379 + (5 * ndS 13 tq364 + 4 * ndS 13 rq365 + ndS 13 RM372) ≤ 5 * ndS 13 tq + 4 * ndS 13 rq + ndS 13 RM := e386
        replace e387 : n380 + (9804 * ndS 13 tq364 + 342 * ndS 13 rq365 + 36864 * ndS 13 RM372) ≤ 9804 * ndS 13 tq + 342 * ndS 13 rq + 36864 * ndS 13 RM := e387
        replace hw : pw D A s.heap H locs [wd_Ker cs hk kr (fun _ => none) kf ka366 (gKe pq pz363 tq364 rq365), fm 13 (fTx cs tq364 TR367 TO368 TF369 TA370), fm 13 (fRw cs rq365 RR371 RM372 RW373 RF374 RA375 RC376), fm 8 (fPp cs pq PV)] := hw
        have lv378 := Int32.le_toInt v378
        have uv378 := Int32.toInt_lt v378
        exact pg_iret (v := v378) S hr (z_nar (by omega)) hlk hAe hw (show (0 + k379) ≤ (5 * ndS 13 tq + 4 * ndS 13 rq + ndS 13 RM) from by first | exact oz_c18bd8c19e e386 | omega) (show (0 + n380) ≤ (9804 * ndS 13 tq + 342 * ndS 13 rq + 36864 * ndS 13 RM) from by first | exact oz_a5e7637f35 e387 | omega) (⟨pz363, tq364, rq365, ka366, TR367, TO368, TF369, TA370, RR371, RM372, RW373, RF374, RA375, RC376, rfl, (show v378 = 0 ∨ v378 = 1 from by first | exact Or.inl rfl | exact Or.inr rfl | exact z_or (by omega)), (show CuT pq PV tq364 TO368 ip hx from e382), (show KnI pq PV pz363 tq364 rq365 TO368 TF369 TA370 RW373 RF374 from hki), (show RoI ka366 from hro), (show RmI rq365 RM372 from hrm), (show (0 + k379) + (5 * ndS 13 tq364 + 4 * ndS 13 rq365 + ndS 13 RM372) ≤ 5 * ndS 13 tq + 4 * ndS 13 rq + ndS 13 RM from by first | exact oz_83cb35c84f e386 | omega), (show (0 + n380) + (9804 * ndS 13 tq364 + 342 * ndS 13 rq365 + 36864 * ndS 13 RM372) ≤ 9804 * ndS 13 tq + 342 * ndS 13 rq + 36864 * ndS 13 RM from by first | exact oz_0878d13dda e387 | omega)⟩) d_Ker_serve_162
      · have nc348 : ((TF ip) 23).toInt = (0 : Int) := (i_eq (x := ((TF ip) 23)) (y := 0)).mp c348
        refine lv_iconst (v := (-1)) S.x S.b d_Ker_serve_154 (by decide) ?_
        refine lv_goto (tgt := 159) S.x S.b d_Ker_serve_155 (by decide) ?_
        have hw : pw D A s.heap _ _ [wd_Ker cs hk kr (fun _ => none) kf ka (gKe pq pz tq rq), fm 13 (fRw cs rq RR RM RW RF RA RC), fm 8 (fPp cs pq PV), fm 13 (fTx cs tq TR TO TF TA)] := ftx_back (pr := [wd_Ker cs hk kr (fun _ => none) kf ka (gKe pq pz tq rq), fm 13 (fRw cs rq RR RM RW RF RA RC), fm 8 (fPp cs pq PV)]) hw hip hcu.1 hto1
        have hw : pw D A s.heap _ _ [wd_Ker cs hk kr (fun _ => none) kf ka (gKe pq pz tq rq), fm 13 (fTx cs tq TR TO TF TA), fm 13 (fRw cs rq RR RM RW RF RA RC), fm 8 (fPp cs pq PV)] := hw.sub [0, 3, 1, 2] rfl rfl
        refine pg_calli (pr := []) (px_runV (As := [.ref hx, .int (-1)]) (rest := []) S (c_k_await_T l D cs hk kr pq kf PV pz tq rq ka TR TO TF TA RR RM RW RF RA RC (-1) ip hx (show (-1 : Int) = -1 ∨ (0 ≤ (-1 : Int) ∧ (-1 : Int) ≤ 12) from by first | with_reducible rfl | with_reducible assumption | omega) (show (TF ip 21).toInt = 1 from by first | exact g2 | omega) hki hro hrm hip hcu _ _) hT (pr := []) (pcs := [wd_Ker cs hk kr (fun _ => none) kf ka (gKe pq pz tq rq), fm 13 (fTx cs tq TR TO TF TA), fm 13 (fRw cs rq RR RM RW RF RA RC), fm 8 (fPp cs pq PV)]) hw (px_X.tot px_X.tt) (px_recv hT hw 0 0 rfl rfl rfl) m8_158 m8_155 m8_157 ms_6_2 m1_19 q_Ker_await ⟨Nat.le_of_ble_eq_true rfl, Nat.le_of_ble_eq_true rfl⟩ hl.1 rfl (Nat.le_of_ble_eq_true rfl) d_Ker_serve_159 ⟨show 0 + (5 * ndS 13 tq + 4 * ndS 13 rq + ndS 13 RM) ≤ (5 * ndS 13 tq + 4 * ndS 13 rq + ndS 13 RM) from by first | with_reducible rfl | with_reducible assumption | omega, show 0 + (9804 * ndS 13 tq + 342 * ndS 13 rq + 36864 * ndS 13 RM) ≤ (9804 * ndS 13 tq + 342 * ndS 13 rq + 36864 * ndS 13 RM) from by first | with_reducible rfl | with_reducible assumption | omega⟩) hw hA (fun v418 p417 k419 n420 H locs hp417 hw => ?_)
        dsimp only at hp417
        obtain ⟨pz403, tq404, rq405, ka406, TR407, TO408, TF409, TA410, RR411, RM412, RW413, RF414, RA415, RC416, rfl, e421, e422, e423, e424, e425, e426, e427⟩ := hp417
        have e421 := z_rng e421
        replace e422 : CuT pq PV tq404 TO408 ip hx := e422
        obtain ⟨j428, hp428, hj428, hjq428, hto428, hf0428⟩ := e422.2
        replace e423 : KnI pq PV pz403 tq404 rq405 TO408 TF409 TA410 RW413 RF414 := e423
        have hki := e423
        replace e424 : RoI ka406 := e424
        have hro := e424
        replace e425 : RmI rq405 RM412 := e425
        have hrm := e425
        replace e426 : k419 + (5 * ndS 13 tq404 + 4 * ndS 13 rq405 + ndS 13 RM412) ≤ 5 * ndS 13 tq + 4 * ndS 13 rq + ndS 13 RM := e426
        replace e427 : n420 + (9804 * ndS 13 tq404 + 342 * ndS 13 rq405 + 36864 * ndS 13 RM412) ≤ 9804 * ndS 13 tq + 342 * ndS 13 rq + 36864 * ndS 13 RM := e427
        replace hw : pw D A s.heap H locs [wd_Ker cs hk kr (fun _ => none) kf ka406 (gKe pq pz403 tq404 rq405), fm 13 (fTx cs tq404 TR407 TO408 TF409 TA410), fm 13 (fRw cs rq405 RR411 RM412 RW413 RF414 RA415 RC416), fm 8 (fPp cs pq PV)] := hw
        have lv418 := Int32.le_toInt v418
        have uv418 := Int32.toInt_lt v418
        exact pg_iret (v := v418) S hr (z_nar (by omega)) hlk hAe hw (show (0 + k419) ≤ (5 * ndS 13 tq + 4 * ndS 13 rq + ndS 13 RM) from by first | exact oz_c18bd8c19e e426 | omega) (show (0 + n420) ≤ (9804 * ndS 13 tq + 342 * ndS 13 rq + 36864 * ndS 13 RM) from by first | exact oz_a5e7637f35 e427 | omega) (⟨pz403, tq404, rq405, ka406, TR407, TO408, TF409, TA410, RR411, RM412, RW413, RF414, RA415, RC416, rfl, (show v418 = 0 ∨ v418 = 1 from by first | exact Or.inl rfl | exact Or.inr rfl | exact z_or (by omega)), (show CuT pq PV tq404 TO408 ip hx from e422), (show KnI pq PV pz403 tq404 rq405 TO408 TF409 TA410 RW413 RF414 from hki), (show RoI ka406 from hro), (show RmI rq405 RM412 from hrm), (show (0 + k419) + (5 * ndS 13 tq404 + 4 * ndS 13 rq405 + ndS 13 RM412) ≤ 5 * ndS 13 tq + 4 * ndS 13 rq + ndS 13 RM from by first | exact oz_83cb35c84f e426 | omega), (show (0 + n420) + (9804 * ndS 13 tq404 + 342 * ndS 13 rq405 + 36864 * ndS 13 RM412) ≤ 9804 * ndS 13 tq + 342 * ndS 13 rq + 36864 * ndS 13 RM from by first | exact oz_0878d13dda e427 | omega)⟩) d_Ker_serve_162
    · simp only [List.mem_cons, List.not_mem_nil, or_false] at c93
      refine lv_aload_n S.x S.b d_Ker_serve_98 rfl (lv_at hl 2 rfl) ?_
      refine lv_aload_n S.x S.b d_Ker_serve_99 rfl (lv_at hl 3 rfl) ?_
      refine lv_aload_n S.x S.b d_Ker_serve_100 rfl (lv_at hl 3 rfl) ?_
      refine px_get S k_Txp hT hw 4 0 23 (v := .int ((TF ip) 23)) rfl rfl rfl (by decide) m6_161 d_Ker_serve_101 ?_
      have hw : pw D A s.heap _ _ [wd_Ker cs hk kr (fun _ => none) kf ka (gKe pq pz tq rq), fm 13 (fRw cs rq RR RM RW RF RA RC), fm 8 (fPp cs pq PV), fm 13 (fTx cs tq TR TO TF TA)] := ftx_back (pr := [wd_Ker cs hk kr (fun _ => none) kf ka (gKe pq pz tq rq), fm 13 (fRw cs rq RR RM RW RF RA RC), fm 8 (fPp cs pq PV)]) hw hip hcu.1 hto1
      have hw : pw D A s.heap _ _ [wd_Ker cs hk kr (fun _ => none) kf ka (gKe pq pz tq rq), fm 13 (fTx cs tq TR TO TF TA), fm 13 (fRw cs rq RR RM RW RF RA RC), fm 8 (fPp cs pq PV)] := hw.sub [0, 3, 1, 2] rfl rfl
      refine pg_callv (pr := []) (px_runV (As := [.ref hx, .int ((TF ip) 23)]) (rest := []) S (c_k_move_T l D cs hk kr pq kf PV pz tq rq ka TR TO TF TA RR RM RW RF RA RC ((TF ip) 23) ip hx (show (TF ip 21).toInt = 1 from by first | exact g2 | omega) hki hro hrm hip hcu _ _) hT (pr := []) (pcs := [wd_Ker cs hk kr (fun _ => none) kf ka (gKe pq pz tq rq), fm 13 (fTx cs tq TR TO TF TA), fm 13 (fRw cs rq RR RM RW RF RA RC), fm 8 (fPp cs pq PV)]) hw (px_X.tot px_X.tt) (px_recv hT hw 0 0 rfl rfl rfl) m8_83 m8_80 m8_82 ms_5_11 m1_19 q_Ker_move ⟨Nat.le_of_ble_eq_true rfl, Nat.le_of_ble_eq_true rfl⟩ hl.1 rfl (Nat.le_of_ble_eq_true rfl) d_Ker_serve_104 ⟨show 0 + (5 * ndS 13 tq + 4 * ndS 13 rq + ndS 13 RM) ≤ (5 * ndS 13 tq + 4 * ndS 13 rq + ndS 13 RM) from by first | with_reducible rfl | with_reducible assumption | omega, show 0 + (9804 * ndS 13 tq + 342 * ndS 13 rq + 36864 * ndS 13 RM) ≤ (9804 * ndS 13 tq + 342 * ndS 13 rq + 36864 * ndS 13 RM) from by first | with_reducible rfl | with_reducible assumption | omega⟩) hw hA (fun p457 k459 n460 H locs hp457 hw => ?_)
      dsimp only at hp457
      obtain ⟨pz443, tq444, rq445, ka446, TR447, TO448, TF449, TA450, RR451, RM452, RW453, RF454, RA455, RC456, rfl, e461, e462, e463, e464, e465, e466⟩ := hp457
      replace e461 : CuT pq PV tq444 TO448 ip hx := e461
      obtain ⟨j467, hp467, hj467, hjq467, hto467, hf0467⟩ := e461.2
      replace e462 : KnI pq PV pz443 tq444 rq445 TO448 TF449 TA450 RW453 RF454 := e462
      have hki := e462
      replace e463 : RoI ka446 := e463
      have hro := e463
      replace e464 : RmI rq445 RM452 := e464
      have hrm := e464
      replace e465 : k459 + (5 * ndS 13 tq444 + 4 * ndS 13 rq445 + ndS 13 RM452) ≤ 5 * ndS 13 tq + 4 * ndS 13 rq + ndS 13 RM := e465
      replace e466 : n460 + (9804 * ndS 13 tq444 + 342 * ndS 13 rq445 + 36864 * ndS 13 RM452) ≤ 9804 * ndS 13 tq + 342 * ndS 13 rq + 36864 * ndS 13 RM := e466
      replace hw : pw D A s.heap H locs [wd_Ker cs hk kr (fun _ => none) kf ka446 (gKe pq pz443 tq444 rq445), fm 13 (fTx cs tq444 TR447 TO448 TF449 TA450), fm 13 (fRw cs rq445 RR451 RM452 RW453 RF454 RA455 RC456), fm 8 (fPp cs pq PV)] := hw
      refine lv_iconst (v := 1) S.x S.b d_Ker_serve_107 (by decide) ?_
      exact pg_iret (v := 1) S hr rfl hlk hAe hw (show (0 + k459) ≤ (5 * ndS 13 tq + 4 * ndS 13 rq + ndS 13 RM) from by first | exact oz_c18bd8c19e e465 | omega) (show (0 + n460) ≤ (9804 * ndS 13 tq + 342 * ndS 13 rq + 36864 * ndS 13 RM) from by first | exact oz_a5e7637f35 e466 | omega) (⟨pz443, tq444, rq445, ka446, TR447, TO448, TF449, TA450, RR451, RM452, RW453, RF454, RA455, RC456, rfl, (show (1 : Int32) = 0 ∨ (1 : Int32) = 1 from by first | exact Or.inl rfl | exact Or.inr rfl | exact z_or (by omega)), (show CuT pq PV tq444 TO448 ip hx from e461), (show KnI pq PV pz443 tq444 rq445 TO448 TF449 TA450 RW453 RF454 from hki), (show RoI ka446 from hro), (show RmI rq445 RM452 from hrm), (show (0 + k459) + (5 * ndS 13 tq444 + 4 * ndS 13 rq445 + ndS 13 RM452) ≤ 5 * ndS 13 tq + 4 * ndS 13 rq + ndS 13 RM from by first | exact oz_83cb35c84f e465 | omega), (show (0 + n460) + (9804 * ndS 13 tq444 + 342 * ndS 13 rq445 + 36864 * ndS 13 RM452) ≤ 9804 * ndS 13 tq + 342 * ndS 13 rq + 36864 * ndS 13 RM from by first | exact oz_0878d13dda e466 | omega)⟩) d_Ker_serve_108
    · simp only [List.mem_cons, List.not_mem_nil, or_false] at c93
      refine lv_aload_n S.x S.b d_Ker_serve_109 rfl (lv_at hl 3 rfl) ?_
      refine lv_iconst (v := 1) S.x S.b d_Ker_serve_110 (by decide) ?_
      refine lv_aload_n S.x S.b d_Ker_serve_111 rfl (lv_at hl 3 rfl) ?_
      refine px_get S k_Txp hT hw 4 0 23 (v := .int ((TF ip) 23)) rfl rfl rfl (by decide) m6_161 d_Ker_serve_112 ?_
      refine px_callv (pr := [wd_Ker cs hk kr (fun _ => none) kf ka (gKe pq pz tq rq), fm 13 (fRw cs rq RR RM RW RF RA RC), fm 8 (fPp cs pq PV), fo 13 (fTx cs tq TR TO TF TA) ip]) (px_runU (As := [.int 1, .int ((TF ip) 23)]) (rest := []) S (c_finish_Txp l D cs hx (TR ip) (fun _ _ => none) hp1 (TF ip) (TA ip) 1 ((TF ip) 23)  (show TxOk ((TF ip) 4) ((TF ip) 5) ((TF ip) 8) ((TF ip) 9) ((TF ip) 17) ((TF ip) 21) ((TA ip) 2) from ⟨(by first | exact lk | exact lk_eq lk (by omega) | exact lk_mk (by omega)), ⟨by omega, by omega⟩, ⟨by omega, by omega⟩, ⟨by omega, by omega⟩, by omega, ⟨by first | exact oz_1b364b1c5f g2 | omega, by first | exact oz_02032f9386 g2 | omega⟩, by omega, hrt⟩) _) hT (pr := [wd_Ker cs hk kr (fun _ => none) kf ka (gKe pq pz tq rq), fm 13 (fRw cs rq RR RM RW RF RA RC), fm 8 (fPp cs pq PV), fo 13 (fTx cs tq TR TO TF TA) ip]) (pcs := [wd_Txp cs hx (TR ip) (fun k => if k = 3 then (some hp1) else none) (TF ip) (TA ip) (fun _ _ => none)]) hw px_X.tt (C := "HomeSystem$TextProcess") (x := ⟨"HomeSystem$AnyProcess", "finish", "(II)V"⟩) (px_recv hT hw 4 0 rfl rfl rfl) m8_89 m8_84 m8_86 m8_85 m8_88 m1_33 rfl q_HomeSystem_AnyProcess_finish ⟨Nat.le_of_ble_eq_true rfl, Nat.le_of_ble_eq_true rfl⟩ hl.1 rfl (Nat.le_of_ble_eq_true rfl) d_Ker_serve_115 ⟨show 0 + 0 ≤ (5 * ndS 13 tq + 4 * ndS 13 rq + ndS 13 RM) from by first | with_reducible rfl | with_reducible assumption | omega, show 0 + 0 ≤ (9804 * ndS 13 tq + 342 * ndS 13 rq + 36864 * ndS 13 RM) from by first | with_reducible rfl | with_reducible assumption | omega⟩) hw hA (fun p470 H locs hp470 hw => ?_)
      obtain ⟨f468, a469, rfl, h477, e472, e473, e474, e475, e476⟩ := hp470
      obtain ⟨lk, ⟨i2, i3⟩, ⟨i4, i5⟩, ⟨i6, i7⟩, i8, ⟨i9, i11⟩, i10, hrt⟩ := h477
      replace e472 : (f468 9).toInt = ((TF ip) 9).toInt := e472
      replace e473 : (f468 17).toInt = ((TF ip) 17).toInt := e473
      replace e474 : (f468 21).toInt = 0 := e474
      replace e475 : (f468 15).toInt = ((TF ip) 15).toInt := e475
      replace e476 : (f468 20).toInt = ((TF ip) 20).toInt := e476
      replace hw : pw D A s.heap H locs [wd_Ker cs hk kr (fun _ => none) kf ka (gKe pq pz tq rq), fm 13 (fRw cs rq RR RM RW RF RA RC), fm 8 (fPp cs pq PV), fo 13 (fTx cs tq TR TO TF TA) ip, wd_Txp cs hx (TR ip) (fun k => if k = 3 then (some hp1) else none) f468 a469 (fun _ _ => none)] := hw
      refine lv_iconst (v := 1) S.x S.b d_Ker_serve_118 (by decide) ?_
      have hw := ftx_in0 (pr := [wd_Ker cs hk kr (fun _ => none) kf ka (gKe pq pz tq rq), fm 13 (fRw cs rq RR RM RW RF RA RC), fm 8 (fPp cs pq PV)]) hw hip hcu.1 hto1
      obtain ⟨TF478, hu_TF478⟩ : ∃ y : Nat → Nat → Int32, y = va_up TF ip f468 := ⟨_, rfl⟩
      obtain ⟨TA479, hu_TA479⟩ : ∃ y : Nat → Nat → Nat → Int32, y = va_up TA ip a469 := ⟨_, rfl⟩
      have hw : pw D A s.heap _ _ [wd_Ker cs hk kr (fun _ => none) kf ka (gKe pq pz tq rq), fm 13 (fRw cs rq RR RM RW RF RA RC), fm 8 (fPp cs pq PV), fm 13 (fTx cs tq TR TO TF478 TA479)] := (by rw [hu_TF478, hu_TA479]; exact hw)
      have hki : KnI pq PV pz tq rq TO TF478 TA479 RW RF := (by rw [hu_TF478, hu_TA479]; exact hki.upT (show TxN ip f468 a469 from ⟨(show TxOk (f468 4) (f468 5) (f468 8) (f468 9) (f468 17) (f468 21) (a469 2) from ⟨(by first | exact lk | exact lk_eq lk (by omega) | exact lk_mk (by omega)), ⟨by omega, by omega⟩, ⟨by omega, by omega⟩, ⟨by omega, by omega⟩, by omega, ⟨by omega, by omega⟩, by omega, hrt⟩), (show ((f468 15).toInt) = ((ip : Nat) : Int) from by first | with_reducible rfl | with_reducible assumption | omega), (show 0 ≤ (f468 20).toInt ∧ (f468 20).toInt ≤ 3 ∧ ((f468 20).toInt = 0 ∨ 3 * ((ip : Nat) : Int) + (f468 20).toInt ≤ 12) from by first | with_reducible rfl | with_reducible assumption | omega)⟩))
      have hz21_TF478 : (TF478 ip 21).toInt = (f468 21).toInt := (by rw [hu_TF478, va_up_s]; try rfl)
      have hw : pw D A s.heap _ _ [wd_Ker cs hk kr (fun _ => none) kf ka (gKe pq pz tq rq), fm 13 (fTx cs tq TR TO TF478 TA479), fm 13 (fRw cs rq RR RM RW RF RA RC), fm 8 (fPp cs pq PV)] := hw.sub [0, 3, 1, 2] rfl rfl
      exact pg_iret (v := 1) S hr rfl hlk hAe hw (show 0 ≤ (5 * ndS 13 tq + 4 * ndS 13 rq + ndS 13 RM) from by first | exact oz_86e49526c7 | omega) (show 0 ≤ (9804 * ndS 13 tq + 342 * ndS 13 rq + 36864 * ndS 13 RM) from by first | exact oz_fc3b58e969 | omega) (⟨pz, tq, rq, ka, TR, TO, TF478, TA479, RR, RM, RW, RF, RA, RC, rfl, (show (1 : Int32) = 0 ∨ (1 : Int32) = 1 from by first | exact Or.inl rfl | exact Or.inr rfl | exact z_or (by omega)), (show CuT pq PV tq TO ip hx from hcu), (show KnI pq PV pz tq rq TO TF478 TA479 RW RF from hki), (show RoI ka from hro), (show RmI rq RM from hrm), (show 0 + (5 * ndS 13 tq + 4 * ndS 13 rq + ndS 13 RM) ≤ 5 * ndS 13 tq + 4 * ndS 13 rq + ndS 13 RM from by first | exact oz_9d19b050ad | omega), (show 0 + (9804 * ndS 13 tq + 342 * ndS 13 rq + 36864 * ndS 13 RM) ≤ 9804 * ndS 13 tq + 342 * ndS 13 rq + 36864 * ndS 13 RM from by first | exact oz_b5592d0ae7 | omega)⟩) d_Ker_serve_119
set_option maxHeartbeats 4000000 in
set_option maxRecDepth 100000 in
theorem c_k_serve_R (l : Launch) (D : va_G) (cs : Nat → ClassId) (hk : Nat) (kr : Nat → Nat) (pq : Nat → Option Nat) (kf : Nat → Int32) (PV : Nat → Pvs) (pz : Nat → Option Nat) (tq : Nat → Option Nat) (rq : Nat → Option Nat) (ka : Nat → Nat → Int32) (TR : Nat → Nat → Nat) (TO : Nat → Option Nat) (TF : Nat → Nat → Int32) (TA : Nat → Nat → Nat → Int32) (RR : Nat → Nat → Nat) (RM : Nat → Option Nat) (RW : Nat → Option Nat) (RF : Nat → Nat → Int32) (RA : Nat → Nat → Nat → Int32) (RC : Nat → Nat → Int32) (ip hx : Nat) (g0 : 0 ≤ (kf 8).toInt) (g1 : (kf 8).toInt ≤ 100) (g2 : (RF ip 14).toInt = 1) (hki : KnI pq PV pz tq rq TO TF TA RW RF) (hro : RoI ka) (hrm : RmI rq RM) (hip : ip < 13) (hcu : CuR pq PV rq RW ip hx) : MgI l y_Ker_serve b_Ker_serve 4 (.boolean) D cs 8 330 ((5 * ndS 13 tq + 4 * ndS 13 rq + ndS 13 RM)) ((9804 * ndS 13 tq + 342 * ndS 13 rq + 36864 * ndS 13 RM)) [.ref hk, .ref hx] [wd_Ker cs hk kr (fun _ => none) kf ka (gKe pq pz tq rq), fm 13 (fTx cs tq TR TO TF TA), fm 13 (fRw cs rq RR RM RW RF RA RC), fm 8 (fPp cs pq PV)] (fun _ => True) (fun v ps => ∃ (pz' : Nat → Option Nat) (tq' : Nat → Option Nat) (rq' : Nat → Option Nat) (ka' : Nat → Nat → Int32) (TR' : Nat → Nat → Nat) (TO' : Nat → Option Nat) (TF' : Nat → Nat → Int32) (TA' : Nat → Nat → Nat → Int32) (RR' : Nat → Nat → Nat) (RM' : Nat → Option Nat) (RW' : Nat → Option Nat) (RF' : Nat → Nat → Int32) (RA' : Nat → Nat → Nat → Int32) (RC' : Nat → Nat → Int32), (ps.1 = [wd_Ker cs hk kr (fun _ => none) kf ka' (gKe pq pz' tq' rq'), fm 13 (fTx cs tq' TR' TO' TF' TA'), fm 13 (fRw cs rq' RR' RM' RW' RF' RA' RC'), fm 8 (fPp cs pq PV)]) ∧ (v = 0 ∨ v = 1) ∧ (CuR pq PV rq' RW' ip hx) ∧ (KnI pq PV pz' tq' rq' TO' TF' TA' RW' RF') ∧ (RoI ka') ∧ (RmI rq' RM') ∧ (ps.2.1 + (5 * ndS 13 tq' + 4 * ndS 13 rq' + ndS 13 RM') ≤ 5 * ndS 13 tq + 4 * ndS 13 rq + ndS 13 RM) ∧ (ps.2.2 + (9804 * ndS 13 tq' + 342 * ndS 13 rq' + 36864 * ndS 13 RM') ≤ 9804 * ndS 13 tq + 342 * ndS 13 rq + 36864 * ndS 13 RM)) := by
  refine pg_enter (by decide) (Nat.le_of_ble_eq_true rfl) ?_
  intro p e s m below meth c A ls hAe S hr hlk hnm hA hT hX hw hl
  replace hl : lv_has ls 4 [(0, .ref hk), (1, .ref hx)] := hl
  have cstm1 : ((-1) : Int32).toInt = (-1) := rfl
  have cst0 : (0 : Int32).toInt = 0 := rfl
  have cst1 : (1 : Int32).toInt = 1 := rfl
  have cst2 : (2 : Int32).toInt = 2 := rfl
  refine lv_aload_n S.x S.b d_Ker_serve_0 rfl (lv_at hl 1 rfl) ?_
  obtain ⟨j1, hp1, hj1, hjq1, hto1⟩ := hcu.2
  have hw : pw D A s.heap _ _ [wd_Ker cs hk kr (fun _ => none) kf ka (gKe pq pz tq rq), fm 13 (fTx cs tq TR TO TF TA), fm 8 (fPp cs pq PV), fm 13 (fRw cs rq RR RM RW RF RA RC)] := hw.sub [0, 1, 3, 2] rfl rfl
  have hw : pw D A s.heap _ _ [wd_Ker cs hk kr (fun _ => none) kf ka (gKe pq pz tq rq), fm 13 (fTx cs tq TR TO TF TA), fm 8 (fPp cs pq PV), fo 13 (fRw cs rq RR RM RW RF RA RC) ip, wd_Raw cs hx (RR ip) (fun k => if k = 2 then (RM ip) else if k = 4 then (some ((PV j1).r 1)) else none) (RF ip) (RA ip) (fun _ _ => none), nA cs (RM ip) 36864 (RC ip)] := frw_out (pr := [wd_Ker cs hk kr (fun _ => none) kf ka (gKe pq pz tq rq), fm 13 (fTx cs tq TR TO TF TA), fm 8 (fPp cs pq PV)]) hw hip hcu.1 hto1
  have hng2 := ndS_ge 13 RM ip hip
  have hrn2 : RwN ip (RF ip) := hki.2.2.1 ip hip _ hcu.1
  have hro2 := hrn2.1
  unfold RwO at hro2
  have hid2 := hrn2.2.1
  have hch2 := hrn2.2.2
  unfold KcI at hch2
  refine px_get S k_Raw hT hw 4 0 8 (v := .int ((RF ip) 8)) rfl rfl rfl (by decide) m6_133 d_Ker_serve_1 ?_
  refine lv_istore_n (lv' := [(2, .int ((RF ip) 8)), (0, .ref hk), (1, .ref hx)]) S.x S.b d_Ker_serve_4 rfl hl (by decide) rfl (fun ls hl => ?_)
  refine lv_aload_n S.x S.b d_Ker_serve_5 rfl (lv_at hl 1 rfl) ?_
  refine lv_aload_n S.x S.b d_Ker_serve_6 rfl (lv_at hl 2 rfl) ?_
  have hw : pw D A s.heap _ _ [wd_Ker cs hk kr (fun _ => none) kf ka (gKe pq pz tq rq), fm 13 (fTx cs tq TR TO TF TA), fm 8 (fPp cs pq PV), fm 13 (fRw cs rq RR RM RW RF RA RC)] := frw_back (pr := [wd_Ker cs hk kr (fun _ => none) kf ka (gKe pq pz tq rq), fm 13 (fTx cs tq TR TO TF TA), fm 8 (fPp cs pq PV)]) hw hip hcu.1 hto1
  have hw : pw D A s.heap _ _ [wd_Ker cs hk kr (fun _ => none) kf ka (gKe pq pz tq rq), fm 13 (fTx cs tq TR TO TF TA), fm 13 (fRw cs rq RR RM RW RF RA RC), fm 8 (fPp cs pq PV)] := hw.sub [0, 1, 3, 2] rfl rfl
  refine px_calli (pr := []) (px_runV (As := [.ref hx]) (rest := []) S (c_k_partner_R l D cs hk kr pq pz tq rq kf ka TR TO TF TA RR RM RW RF RA RC PV  ip hx hki hip hcu _) hT (pr := []) (pcs := [wd_Ker cs hk kr (fun _ => none) kf ka (gKe pq pz tq rq), fm 13 (fTx cs tq TR TO TF TA), fm 13 (fRw cs rq RR RM RW RF RA RC), fm 8 (fPp cs pq PV)]) hw px_X.tt (px_recv hT hw 0 0 rfl rfl rfl) m8_60 m8_57 m8_59 ms_5_9 m1_19 q_Ker_partner ⟨Nat.le_of_ble_eq_true rfl, Nat.le_of_ble_eq_true rfl⟩ hl.1 rfl (Nat.le_of_ble_eq_true rfl) d_Ker_serve_7 ⟨show 0 + 0 ≤ (5 * ndS 13 tq + 4 * ndS 13 rq + ndS 13 RM) from by first | with_reducible rfl | with_reducible assumption | omega, show 0 + 0 ≤ (9804 * ndS 13 tq + 342 * ndS 13 rq + 36864 * ndS 13 RM) from by first | with_reducible rfl | with_reducible assumption | omega⟩) hw hA (fun v4 p3 H locs hp3 hw => ?_)
  obtain ⟨rfl, e5, e6⟩ := hp3
  replace e5 : -1 ≤ v4.toInt := e5
  replace e6 : v4.toInt ≤ 12 := e6
  replace hw : pw D A s.heap H locs [wd_Ker cs hk kr (fun _ => none) kf ka (gKe pq pz tq rq), fm 13 (fTx cs tq TR TO TF TA), fm 13 (fRw cs rq RR RM RW RF RA RC), fm 8 (fPp cs pq PV)] := hw
  have lv4 := Int32.le_toInt v4
  have uv4 := Int32.toInt_lt v4
  refine lv_istore_n (lv' := [(3, .int v4), (2, .int ((RF ip) 8)), (0, .ref hk), (1, .ref hx)]) S.x S.b d_Ker_serve_10 rfl hl (by decide) rfl (fun ls hl => ?_)
  refine lv_aload_n S.x S.b d_Ker_serve_11 rfl (lv_at hl 3 rfl) ?_
  have hw : pw D A s.heap _ _ [wd_Ker cs hk kr (fun _ => none) kf ka (gKe pq pz tq rq), fm 13 (fTx cs tq TR TO TF TA), fm 8 (fPp cs pq PV), fm 13 (fRw cs rq RR RM RW RF RA RC)] := hw.sub [0, 1, 3, 2] rfl rfl
  have hw : pw D A s.heap _ _ [wd_Ker cs hk kr (fun _ => none) kf ka (gKe pq pz tq rq), fm 13 (fTx cs tq TR TO TF TA), fm 8 (fPp cs pq PV), fo 13 (fRw cs rq RR RM RW RF RA RC) ip, wd_Raw cs hx (RR ip) (fun k => if k = 2 then (RM ip) else if k = 4 then (some ((PV j1).r 1)) else none) (RF ip) (RA ip) (fun _ _ => none), nA cs (RM ip) 36864 (RC ip)] := frw_out (pr := [wd_Ker cs hk kr (fun _ => none) kf ka (gKe pq pz tq rq), fm 13 (fTx cs tq TR TO TF TA), fm 8 (fPp cs pq PV)]) hw hip hcu.1 hto1
  have hng7 := ndS_ge 13 RM ip hip
  have hrn7 : RwN ip (RF ip) := hki.2.2.1 ip hip _ hcu.1
  have hro7 := hrn7.1
  unfold RwO at hro7
  have hid7 := hrn7.2.1
  have hch7 := hrn7.2.2
  unfold KcI at hch7
  refine px_get S k_Raw hT hw 4 0 15 (v := .int ((RF ip) 15)) rfl rfl rfl (by decide) m6_158 d_Ker_serve_12 ?_
  refine px_tableK S (dt := 163) [(64, [1]), (120, [2]), (163, [3, 4]), (79, [5]), (145, [6]), (98, [7, 8]), (109, [9])] d_Ker_serve_15 (by decide +kernel) (by decide) (by decide +kernel) ?_ ?_
  ·
    refine lv_aload_n S.x S.b d_Ker_serve_163 rfl (lv_at hl 2 rfl) ?_
    refine lv_aload_n S.x S.b d_Ker_serve_164 rfl (lv_at hl 3 rfl) ?_
    refine lv_iload_n S.x S.b d_Ker_serve_165 rfl (lv_at hl 0 rfl) ?_
    refine lv_aload_n S.x S.b d_Ker_serve_166 rfl (lv_at hl 3 rfl) ?_
    refine px_get S k_Raw hT hw 4 0 16 (v := .int ((RF ip) 16)) rfl rfl rfl (by decide) m6_161 d_Ker_serve_167 ?_
    refine lv_if_ne (tgt := 181) S.x S.b d_Ker_serve_170 (by decide) (fun c8 => ?_) (fun c8 => ?_)
    · have nc8 : ¬ ((RF ip) 16).toInt = (0 : Int) := mt (i_eq (x := ((RF ip) 16)) (y := 0)).mpr c8
      refine lv_iconst (v := 2) S.x S.b d_Ker_serve_181 (by decide) ?_
      refine lv_iload_n S.x S.b d_Ker_serve_182 rfl (lv_at hl 0 rfl) ?_
      refine lv_imul S.x S.b d_Ker_serve_183 ?_
      refine lv_topi (fun z9 ez9 => ?_)
      have lz9 := Int32.le_toInt z9
      have uz9 := Int32.toInt_lt z9
      have tz9 : -2147483648 ≤ 2 * v4.toInt → 2 * v4.toInt < 2147483648 → z9.toInt = 2 * v4.toInt := by rw [ez9]; exact i_mulc 2 v4 (by decide)
      try replace tz9 : z9.toInt = 2 * v4.toInt := by omega
      have hw : pw D A s.heap _ _ [wd_Ker cs hk kr (fun _ => none) kf ka (gKe pq pz tq rq), fm 13 (fTx cs tq TR TO TF TA), fm 8 (fPp cs pq PV), fm 13 (fRw cs rq RR RM RW RF RA RC)] := frw_back (pr := [wd_Ker cs hk kr (fun _ => none) kf ka (gKe pq pz tq rq), fm 13 (fTx cs tq TR TO TF TA), fm 8 (fPp cs pq PV)]) hw hip hcu.1 hto1
      have hw : pw D A s.heap _ _ [wd_Ker cs hk kr (fun _ => none) kf ka (gKe pq pz tq rq), fm 13 (fTx cs tq TR TO TF TA), fm 13 (fRw cs rq RR RM RW RF RA RC), fm 8 (fPp cs pq PV)] := hw.sub [0, 1, 3, 2] rfl rfl
      refine pg_calli (pr := []) (px_runV (As := [.ref hx, .int v4, .int z9]) (rest := []) S (c_k_receive_R l D cs hk kr pq kf PV pz tq rq ka TR TO TF TA RR RM RW RF RA RC v4 z9 ip hx (show v4.toInt = -1 ∨ (0 ≤ v4.toInt ∧ v4.toInt ≤ 12 ∧ 0 ≤ z9.toInt ∧ z9.toInt ≤ 25) from by first | with_reducible rfl | with_reducible assumption | omega) (show (RF ip 14).toInt = 1 from by first | exact g2 | omega) hki hro hrm hip hcu _ _) hT (pr := []) (pcs := [wd_Ker cs hk kr (fun _ => none) kf ka (gKe pq pz tq rq), fm 13 (fTx cs tq TR TO TF TA), fm 13 (fRw cs rq RR RM RW RF RA RC), fm 8 (fPp cs pq PV)]) hw (px_X.tot px_X.tt) (px_recv hT hw 0 0 rfl rfl rfl) m8_162 m8_159 m8_161 ms_6_3 m1_19 q_Ker_receive ⟨Nat.le_of_ble_eq_true rfl, Nat.le_of_ble_eq_true rfl⟩ hl.1 rfl (Nat.le_of_ble_eq_true rfl) d_Ker_serve_184 ⟨show 0 + (5 * ndS 13 tq + 4 * ndS 13 rq + ndS 13 RM) ≤ (5 * ndS 13 tq + 4 * ndS 13 rq + ndS 13 RM) from by first | with_reducible rfl | with_reducible assumption | omega, show 0 + (9804 * ndS 13 tq + 342 * ndS 13 rq + 36864 * ndS 13 RM) ≤ (9804 * ndS 13 tq + 342 * ndS 13 rq + 36864 * ndS 13 RM) from by first | with_reducible rfl | with_reducible assumption | omega⟩) hw hA (fun v39 p38 k40 n41 H locs hp38 hw => ?_)
      dsimp only at hp38
      obtain ⟨pz24, tq25, rq26, ka27, TR28, TO29, TF30, TA31, RR32, RM33, RW34, RF35, RA36, RC37, rfl, e42, e43, e44, e45, e46, e47, e48⟩ := hp38
      have e42 := z_rng e42
      replace e43 : CuR pq PV rq26 RW34 ip hx := e43
      obtain ⟨j49, hp49, hj49, hjq49, hto49⟩ := e43.2
      replace e44 : KnI pq PV pz24 tq25 rq26 TO29 TF30 TA31 RW34 RF35 := e44
      have hki := e44
      replace e45 : RoI ka27 := e45
      have hro := e45
      replace e46 : RmI rq26 RM33 := e46
      have hrm := e46
      replace e47 : k40 + (5 * ndS 13 tq25 + 4 * ndS 13 rq26 + ndS 13 RM33) ≤ 5 * ndS 13 tq + 4 * ndS 13 rq + ndS 13 RM := e47
      replace e48 : n41 + (9804 * ndS 13 tq25 + 342 * ndS 13 rq26 + 36864 * ndS 13 RM33) ≤ 9804 * ndS 13 tq + 342 * ndS 13 rq + 36864 * ndS 13 RM := e48
      replace hw : pw D A s.heap H locs [wd_Ker cs hk kr (fun _ => none) kf ka27 (gKe pq pz24 tq25 rq26), fm 13 (fTx cs tq25 TR28 TO29 TF30 TA31), fm 13 (fRw cs rq26 RR32 RM33 RW34 RF35 RA36 RC37), fm 8 (fPp cs pq PV)] := hw
      have lv39 := Int32.le_toInt v39
      have uv39 := Int32.toInt_lt v39
      exact pg_iret (v := v39) S hr (z_nar (by omega)) hlk hAe hw (show (0 + k40) ≤ (5 * ndS 13 tq + 4 * ndS 13 rq + ndS 13 RM) from by first | exact oz_c18bd8c19e e47 | omega) (show (0 + n41) ≤ (9804 * ndS 13 tq + 342 * ndS 13 rq + 36864 * ndS 13 RM) from by first | exact oz_a5e7637f35 e48 | omega) (⟨pz24, tq25, rq26, ka27, TR28, TO29, TF30, TA31, RR32, RM33, RW34, RF35, RA36, RC37, rfl, (show v39 = 0 ∨ v39 = 1 from by first | exact Or.inl rfl | exact Or.inr rfl | exact z_or (by omega)), (show CuR pq PV rq26 RW34 ip hx from e43), (show KnI pq PV pz24 tq25 rq26 TO29 TF30 TA31 RW34 RF35 from hki), (show RoI ka27 from hro), (show RmI rq26 RM33 from hrm), (show (0 + k40) + (5 * ndS 13 tq25 + 4 * ndS 13 rq26 + ndS 13 RM33) ≤ 5 * ndS 13 tq + 4 * ndS 13 rq + ndS 13 RM from by first | exact oz_83cb35c84f e47 | omega), (show (0 + n41) + (9804 * ndS 13 tq25 + 342 * ndS 13 rq26 + 36864 * ndS 13 RM33) ≤ 9804 * ndS 13 tq + 342 * ndS 13 rq + 36864 * ndS 13 RM from by first | exact oz_0878d13dda e48 | omega)⟩) d_Ker_serve_187
    · have nc8 : ((RF ip) 16).toInt = (0 : Int) := (i_eq (x := ((RF ip) 16)) (y := 0)).mp c8
      refine lv_iconst (v := 2) S.x S.b d_Ker_serve_173 (by decide) ?_
      refine lv_iload_n S.x S.b d_Ker_serve_174 rfl (lv_at hl 1 rfl) ?_
      refine lv_imul S.x S.b d_Ker_serve_175 ?_
      have lr50 := Int32.le_toInt ((RF ip) 8)
      have ur50 := Int32.toInt_lt ((RF ip) 8)
      refine lv_topi (fun z51 ez51 => ?_)
      have lz51 := Int32.le_toInt z51
      have uz51 := Int32.toInt_lt z51
      have tz51 : -2147483648 ≤ 2 * ((RF ip) 8).toInt → 2 * ((RF ip) 8).toInt < 2147483648 → z51.toInt = 2 * ((RF ip) 8).toInt := by rw [ez51]; exact i_mulc 2 ((RF ip) 8) (by decide)
      try replace tz51 : z51.toInt = 2 * ((RF ip) 8).toInt := by omega
      refine lv_iconst (v := 1) S.x S.b d_Ker_serve_176 (by decide) ?_
      refine lv_iadd S.x S.b d_Ker_serve_177 ?_
      refine lv_topi (fun z52 ez52 => ?_)
      have tz52 : z52.toInt = (z51.toInt + (1 : Int) + 2147483648) % 4294967296 - 2147483648 := by rw [ez52]; exact i_add z51 1
      have lz52 := Int32.le_toInt z52
      have uz52 := Int32.toInt_lt z52
      try replace tz52 : z52.toInt = z51.toInt + (1 : Int) := by omega
      refine lv_goto (tgt := 184) S.x S.b d_Ker_serve_178 (by decide) ?_
      have hw : pw D A s.heap _ _ [wd_Ker cs hk kr (fun _ => none) kf ka (gKe pq pz tq rq), fm 13 (fTx cs tq TR TO TF TA), fm 8 (fPp cs pq PV), fm 13 (fRw cs rq RR RM RW RF RA RC)] := frw_back (pr := [wd_Ker cs hk kr (fun _ => none) kf ka (gKe pq pz tq rq), fm 13 (fTx cs tq TR TO TF TA), fm 8 (fPp cs pq PV)]) hw hip hcu.1 hto1
      have hw : pw D A s.heap _ _ [wd_Ker cs hk kr (fun _ => none) kf ka (gKe pq pz tq rq), fm 13 (fTx cs tq TR TO TF TA), fm 13 (fRw cs rq RR RM RW RF RA RC), fm 8 (fPp cs pq PV)] := hw.sub [0, 1, 3, 2] rfl rfl
      refine pg_calli (pr := []) (px_runV (As := [.ref hx, .int v4, .int z52]) (rest := []) S (c_k_receive_R l D cs hk kr pq kf PV pz tq rq ka TR TO TF TA RR RM RW RF RA RC v4 z52 ip hx (show v4.toInt = -1 ∨ (0 ≤ v4.toInt ∧ v4.toInt ≤ 12 ∧ 0 ≤ z52.toInt ∧ z52.toInt ≤ 25) from by first | with_reducible rfl | with_reducible assumption | omega) (show (RF ip 14).toInt = 1 from by first | exact g2 | omega) hki hro hrm hip hcu _ _) hT (pr := []) (pcs := [wd_Ker cs hk kr (fun _ => none) kf ka (gKe pq pz tq rq), fm 13 (fTx cs tq TR TO TF TA), fm 13 (fRw cs rq RR RM RW RF RA RC), fm 8 (fPp cs pq PV)]) hw (px_X.tot px_X.tt) (px_recv hT hw 0 0 rfl rfl rfl) m8_162 m8_159 m8_161 ms_6_3 m1_19 q_Ker_receive ⟨Nat.le_of_ble_eq_true rfl, Nat.le_of_ble_eq_true rfl⟩ hl.1 rfl (Nat.le_of_ble_eq_true rfl) d_Ker_serve_184 ⟨show 0 + (5 * ndS 13 tq + 4 * ndS 13 rq + ndS 13 RM) ≤ (5 * ndS 13 tq + 4 * ndS 13 rq + ndS 13 RM) from by first | with_reducible rfl | with_reducible assumption | omega, show 0 + (9804 * ndS 13 tq + 342 * ndS 13 rq + 36864 * ndS 13 RM) ≤ (9804 * ndS 13 tq + 342 * ndS 13 rq + 36864 * ndS 13 RM) from by first | with_reducible rfl | with_reducible assumption | omega⟩) hw hA (fun v82 p81 k83 n84 H locs hp81 hw => ?_)
      dsimp only at hp81
      obtain ⟨pz67, tq68, rq69, ka70, TR71, TO72, TF73, TA74, RR75, RM76, RW77, RF78, RA79, RC80, rfl, e85, e86, e87, e88, e89, e90, e91⟩ := hp81
      have e85 := z_rng e85
      replace e86 : CuR pq PV rq69 RW77 ip hx := e86
      obtain ⟨j92, hp92, hj92, hjq92, hto92⟩ := e86.2
      replace e87 : KnI pq PV pz67 tq68 rq69 TO72 TF73 TA74 RW77 RF78 := e87
      have hki := e87
      replace e88 : RoI ka70 := e88
      have hro := e88
      replace e89 : RmI rq69 RM76 := e89
      have hrm := e89
      replace e90 : k83 + (5 * ndS 13 tq68 + 4 * ndS 13 rq69 + ndS 13 RM76) ≤ 5 * ndS 13 tq + 4 * ndS 13 rq + ndS 13 RM := e90
      replace e91 : n84 + (9804 * ndS 13 tq68 + 342 * ndS 13 rq69 + 36864 * ndS 13 RM76) ≤ 9804 * ndS 13 tq + 342 * ndS 13 rq + 36864 * ndS 13 RM := e91
      replace hw : pw D A s.heap H locs [wd_Ker cs hk kr (fun _ => none) kf ka70 (gKe pq pz67 tq68 rq69), fm 13 (fTx cs tq68 TR71 TO72 TF73 TA74), fm 13 (fRw cs rq69 RR75 RM76 RW77 RF78 RA79 RC80), fm 8 (fPp cs pq PV)] := hw
      have lv82 := Int32.le_toInt v82
      have uv82 := Int32.toInt_lt v82
      exact pg_iret (v := v82) S hr (z_nar (by omega)) hlk hAe hw (show (0 + k83) ≤ (5 * ndS 13 tq + 4 * ndS 13 rq + ndS 13 RM) from by first | exact oz_c18bd8c19e e90 | omega) (show (0 + n84) ≤ (9804 * ndS 13 tq + 342 * ndS 13 rq + 36864 * ndS 13 RM) from by first | exact oz_a5e7637f35 e91 | omega) (⟨pz67, tq68, rq69, ka70, TR71, TO72, TF73, TA74, RR75, RM76, RW77, RF78, RA79, RC80, rfl, (show v82 = 0 ∨ v82 = 1 from by first | exact Or.inl rfl | exact Or.inr rfl | exact z_or (by omega)), (show CuR pq PV rq69 RW77 ip hx from e86), (show KnI pq PV pz67 tq68 rq69 TO72 TF73 TA74 RW77 RF78 from hki), (show RoI ka70 from hro), (show RmI rq69 RM76 from hrm), (show (0 + k83) + (5 * ndS 13 tq68 + 4 * ndS 13 rq69 + ndS 13 RM76) ≤ 5 * ndS 13 tq + 4 * ndS 13 rq + ndS 13 RM from by first | exact oz_83cb35c84f e90 | omega), (show (0 + n84) + (9804 * ndS 13 tq68 + 342 * ndS 13 rq69 + 36864 * ndS 13 RM76) ≤ 9804 * ndS 13 tq + 342 * ndS 13 rq + 36864 * ndS 13 RM from by first | exact oz_0878d13dda e91 | omega)⟩) d_Ker_serve_187
  · refine List.forall_mem_cons.mpr ⟨fun c93 => ?_, List.forall_mem_cons.mpr ⟨fun c93 => ?_, List.forall_mem_cons.mpr ⟨fun c93 => ?_, List.forall_mem_cons.mpr ⟨fun c93 => ?_, List.forall_mem_cons.mpr ⟨fun c93 => ?_, List.forall_mem_cons.mpr ⟨fun c93 => ?_, List.forall_mem_cons.mpr ⟨fun c93 => ?_, fun _ h => absurd h List.not_mem_nil⟩⟩⟩⟩⟩⟩⟩
    · simp only [List.mem_cons, List.not_mem_nil, or_false] at c93
      refine lv_aload_n S.x S.b d_Ker_serve_64 rfl (lv_at hl 3 rfl) ?_
      refine lv_aload_n S.x S.b d_Ker_serve_65 rfl (lv_at hl 3 rfl) ?_
      refine px_get S k_Raw hT hw 4 0 16 (v := .int ((RF ip) 16)) rfl rfl rfl (by decide) m6_161 d_Ker_serve_66 ?_
      have hw : pw D A s.heap _ _ [wd_Ker cs hk kr (fun _ => none) kf ka (gKe pq pz tq rq), fm 13 (fTx cs tq TR TO TF TA), fm 8 (fPp cs pq PV), fo 13 (fRw cs rq RR RM RW RF RA RC) ip, nA cs (RM ip) 36864 (RC ip), wd_Raw cs hx (RR ip) (fun k => if k = 2 then (RM ip) else if k = 4 then (some ((PV j1).r 1)) else none) (RF ip) (RA ip) (fun _ _ => none)] := hw.sub [0, 1, 2, 3, 5, 4] rfl rfl
      refine px_callv (pr := [wd_Ker cs hk kr (fun _ => none) kf ka (gKe pq pz tq rq), fm 13 (fTx cs tq TR TO TF TA), fm 8 (fPp cs pq PV), fo 13 (fRw cs rq RR RM RW RF RA RC) ip, nA cs (RM ip) 36864 (RC ip)]) (px_runU (As := [.int ((RF ip) 16)]) (rest := []) S (c_write_Raw l D cs hx (RR ip) (fun _ _ => none) (RM ip) (some ((PV j1).r 1)) (RF ip) (RA ip) ((RF ip) 16)  (show 0 ≤ ((RF ip) 10).toInt from by first | with_reducible rfl | with_reducible assumption | omega) (show ((RF ip) 10).toInt ≤ 1000000 from by first | with_reducible rfl | with_reducible assumption | omega) _) hT (pr := [wd_Ker cs hk kr (fun _ => none) kf ka (gKe pq pz tq rq), fm 13 (fTx cs tq TR TO TF TA), fm 8 (fPp cs pq PV), fo 13 (fRw cs rq RR RM RW RF RA RC) ip, nA cs (RM ip) 36864 (RC ip)]) (pcs := [wd_Raw cs hx (RR ip) (fun k => if k = 2 then (RM ip) else if k = 4 then (some ((PV j1).r 1)) else none) (RF ip) (RA ip) (fun _ _ => none)]) hw px_X.tt (C := "HomeSystem$RawProcess") (x := ⟨"HomeSystem$AnyProcess", "write", "(I)V"⟩) (px_recv hT hw 5 0 rfl rfl rfl) m8_66 m8_61 m8_63 m8_62 m8_64 m1_33 rfl q_HomeSystem_AnyProcess_write ⟨Nat.le_of_ble_eq_true rfl, Nat.le_of_ble_eq_true rfl⟩ hl.1 rfl (Nat.le_of_ble_eq_true rfl) d_Ker_serve_69 ⟨show 0 + 0 ≤ (5 * ndS 13 tq + 4 * ndS 13 rq + ndS 13 RM) from by first | with_reducible rfl | with_reducible assumption | omega, show 0 + 0 ≤ (9804 * ndS 13 tq + 342 * ndS 13 rq + 36864 * ndS 13 RM) from by first | with_reducible rfl | with_reducible assumption | omega⟩) hw hA (fun p96 H locs hp96 hw => ?_)
      obtain ⟨f94, a95, rfl, e98, e99, e100, e101, e102, e103, e104⟩ := hp96
      replace e98 : (f94 3).toInt = ((RF ip) 3).toInt := e98
      replace e99 : (f94 7).toInt = ((RF ip) 7).toInt := e99
      replace e100 : (f94 8).toInt = ((RF ip) 8).toInt := e100
      replace e101 : (f94 10).toInt = ((RF ip) 10).toInt + 1 := e101
      replace e102 : (f94 13).toInt = ((RF ip) 13).toInt := e102
      replace e103 : (f94 14).toInt = ((RF ip) 14).toInt := e103
      replace e104 : (f94 11).toInt = ((RF ip) 11).toInt := e104
      replace hw : pw D A s.heap H locs [wd_Ker cs hk kr (fun _ => none) kf ka (gKe pq pz tq rq), fm 13 (fTx cs tq TR TO TF TA), fm 8 (fPp cs pq PV), fo 13 (fRw cs rq RR RM RW RF RA RC) ip, nA cs (RM ip) 36864 (RC ip), wd_Raw cs hx (RR ip) (fun k => if k = 2 then (RM ip) else if k = 4 then (some ((PV j1).r 1)) else none) f94 a95 (fun _ _ => none)] := hw
      refine lv_aload_n S.x S.b d_Ker_serve_72 rfl (lv_at hl 3 rfl) ?_
      refine lv_iconst (v := 0) S.x S.b d_Ker_serve_73 (by decide) ?_
      refine px_callv (pr := [wd_Ker cs hk kr (fun _ => none) kf ka (gKe pq pz tq rq), fm 13 (fTx cs tq TR TO TF TA), fm 8 (fPp cs pq PV), fo 13 (fRw cs rq RR RM RW RF RA RC) ip, nA cs (RM ip) 36864 (RC ip)]) (px_runA (As := [.int 0]) (rest := []) S (c_Raw_answer l D cs hx (RR ip) (fun _ _ => none) (RM ip) (some ((PV j1).r 1)) f94 a95 0  (show 1 ≤ (f94 7).toInt from by first | with_reducible rfl | with_reducible assumption | omega) _) hT (pr := [wd_Ker cs hk kr (fun _ => none) kf ka (gKe pq pz tq rq), fm 13 (fTx cs tq TR TO TF TA), fm 8 (fPp cs pq PV), fo 13 (fRw cs rq RR RM RW RF RA RC) ip, nA cs (RM ip) 36864 (RC ip)]) (pcs := [wd_Raw cs hx (RR ip) (fun k => if k = 2 then (RM ip) else if k = 4 then (some ((PV j1).r 1)) else none) f94 a95 (fun _ _ => none)]) hw px_X.tt (C := "HomeSystem$RawProcess") (owner := "HomeSystem$AnyProcess") (x := ⟨"HomeSystem$AnyProcess", "answer", "(I)V"⟩) (px_recv hT hw 5 0 rfl rfl rfl) m8_72 m8_67 m8_69 m8_71 m8_70 m1_34 m8_68n ⟨by decide, by decide⟩ rfl q_Raw_answer ⟨Nat.le_of_ble_eq_true rfl, Nat.le_of_ble_eq_true rfl⟩ hl.1 rfl (Nat.le_of_ble_eq_true rfl) d_Ker_serve_74 ⟨show 0 + 0 ≤ (5 * ndS 13 tq + 4 * ndS 13 rq + ndS 13 RM) from by first | with_reducible rfl | with_reducible assumption | omega, show 0 + 0 ≤ (9804 * ndS 13 tq + 342 * ndS 13 rq + 36864 * ndS 13 RM) from by first | with_reducible rfl | with_reducible assumption | omega⟩) hw hA (fun p107 H locs hp107 hw => ?_)
      obtain ⟨f105, a106, rfl, e109, e110, e111, e112, e113, e114⟩ := hp107
      replace e109 : (f105 7).toInt = (f94 7).toInt - 1 := e109
      replace e110 : (f105 8).toInt = (f94 8).toInt := e110
      replace e111 : (f105 10).toInt = (f94 10).toInt := e111
      replace e112 : (f105 13).toInt = (f94 13).toInt := e112
      replace e113 : (f105 14).toInt = 0 := e113
      replace e114 : (f105 11).toInt = (f94 11).toInt := e114
      replace hw : pw D A s.heap H locs [wd_Ker cs hk kr (fun _ => none) kf ka (gKe pq pz tq rq), fm 13 (fTx cs tq TR TO TF TA), fm 8 (fPp cs pq PV), fo 13 (fRw cs rq RR RM RW RF RA RC) ip, nA cs (RM ip) 36864 (RC ip), wd_Raw cs hx (RR ip) (fun k => if k = 2 then (RM ip) else if k = 4 then (some ((PV j1).r 1)) else none) f105 a106 (fun _ _ => none)] := hw
      refine lv_iconst (v := 1) S.x S.b d_Ker_serve_77 (by decide) ?_
      have hw : pw D A s.heap _ _ [wd_Ker cs hk kr (fun _ => none) kf ka (gKe pq pz tq rq), fm 13 (fTx cs tq TR TO TF TA), fm 8 (fPp cs pq PV), fo 13 (fRw cs rq RR RM RW RF RA RC) ip, wd_Raw cs hx (RR ip) (fun k => if k = 2 then (RM ip) else if k = 4 then (some ((PV j1).r 1)) else none) f105 a106 (fun _ _ => none), nA cs (RM ip) 36864 (RC ip)] := hw.sub [0, 1, 2, 3, 5, 4] rfl rfl
      have hw := frw_in0 (pr := [wd_Ker cs hk kr (fun _ => none) kf ka (gKe pq pz tq rq), fm 13 (fTx cs tq TR TO TF TA), fm 8 (fPp cs pq PV)]) hw hip hcu.1 hto1
      obtain ⟨RM115, hu_RM115⟩ : ∃ y : Nat → Option Nat, y = va_up RM ip (RM ip) := ⟨_, rfl⟩
      obtain ⟨RF116, hu_RF116⟩ : ∃ y : Nat → Nat → Int32, y = va_up RF ip f105 := ⟨_, rfl⟩
      obtain ⟨RA117, hu_RA117⟩ : ∃ y : Nat → Nat → Nat → Int32, y = va_up RA ip a106 := ⟨_, rfl⟩
      obtain ⟨RC118, hu_RC118⟩ : ∃ y : Nat → Nat → Int32, y = va_up RC ip (RC ip) := ⟨_, rfl⟩
      have hw : pw D A s.heap _ _ [wd_Ker cs hk kr (fun _ => none) kf ka (gKe pq pz tq rq), fm 13 (fTx cs tq TR TO TF TA), fm 8 (fPp cs pq PV), fm 13 (fRw cs rq RR RM115 RW RF116 RA117 RC118)] := (by rw [hu_RM115, hu_RF116, hu_RA117, hu_RC118]; exact hw)
      have hki : KnI pq PV pz tq rq TO TF TA RW RF116 := (by rw [hu_RF116]; exact hki.upR (show RwN ip f105 from ⟨(show (0 ≤ (f105 7).toInt ∧ (f105 7).toInt ≤ 1600) ∧ (0 ≤ (f105 10).toInt ∧ (f105 10).toInt + (f105 7).toInt ≤ 1600) ∧ ((f105 14).toInt = 0 ∨ (f105 14).toInt = 1) ∧ ((f105 14).toInt = 1 → 1 ≤ (f105 7).toInt) from by first | with_reducible rfl | with_reducible assumption | omega), (show ((f105 8).toInt) = ((ip : Nat) : Int) from by first | with_reducible rfl | with_reducible assumption | omega), (show 0 ≤ (f105 13).toInt ∧ (f105 13).toInt ≤ 3 ∧ ((f105 13).toInt = 0 ∨ 3 * ((ip : Nat) : Int) + (f105 13).toInt ≤ 12) from by first | with_reducible rfl | with_reducible assumption | omega)⟩))
      have hrm : RmI rq RM115 := (by rw [hu_RM115]; exact hrm.up hcu.1)
      have hnd_RM115 := ndS_up 13 RM ip (RM ip) hip; rw [← hu_RM115] at hnd_RM115
      have hz14_RF116 : (RF116 ip 14).toInt = (f105 14).toInt := (by rw [hu_RF116, va_up_s]; try rfl)
      have hw : pw D A s.heap _ _ [wd_Ker cs hk kr (fun _ => none) kf ka (gKe pq pz tq rq), fm 13 (fTx cs tq TR TO TF TA), fm 13 (fRw cs rq RR RM115 RW RF116 RA117 RC118), fm 8 (fPp cs pq PV)] := hw.sub [0, 1, 3, 2] rfl rfl
      exact pg_iret (v := 1) S hr rfl hlk hAe hw (show 0 ≤ (5 * ndS 13 tq + 4 * ndS 13 rq + ndS 13 RM) from by first | exact oz_86e49526c7 | omega) (show 0 ≤ (9804 * ndS 13 tq + 342 * ndS 13 rq + 36864 * ndS 13 RM) from by first | exact oz_fc3b58e969 | omega) (⟨pz, tq, rq, ka, TR, TO, TF, TA, RR, RM115, RW, RF116, RA117, RC118, rfl, (show (1 : Int32) = 0 ∨ (1 : Int32) = 1 from by first | exact Or.inl rfl | exact Or.inr rfl | exact z_or (by omega)), (show CuR pq PV rq RW ip hx from hcu), (show KnI pq PV pz tq rq TO TF TA RW RF116 from hki), (show RoI ka from hro), (show RmI rq RM115 from hrm), (show 0 + (5 * ndS 13 tq + 4 * ndS 13 rq + ndS 13 RM115) ≤ 5 * ndS 13 tq + 4 * ndS 13 rq + ndS 13 RM from by first | with_reducible rfl | with_reducible assumption | omega), (show 0 + (9804 * ndS 13 tq + 342 * ndS 13 rq + 36864 * ndS 13 RM115) ≤ 9804 * ndS 13 tq + 342 * ndS 13 rq + 36864 * ndS 13 RM from by first | with_reducible rfl | with_reducible assumption | omega)⟩) d_Ker_serve_78
    · simp only [List.mem_cons, List.not_mem_nil, or_false] at c93
      refine lv_aload_n S.x S.b d_Ker_serve_120 rfl (lv_at hl 2 rfl) ?_
      refine lv_aload_n S.x S.b d_Ker_serve_121 rfl (lv_at hl 3 rfl) ?_
      refine lv_iload_n S.x S.b d_Ker_serve_122 rfl (lv_at hl 0 rfl) ?_
      refine lv_aload_n S.x S.b d_Ker_serve_123 rfl (lv_at hl 3 rfl) ?_
      refine px_get S k_Raw hT hw 4 0 16 (v := .int ((RF ip) 16)) rfl rfl rfl (by decide) m6_161 d_Ker_serve_124 ?_
      refine lv_if_ne (tgt := 136) S.x S.b d_Ker_serve_127 (by decide) (fun c119 => ?_) (fun c119 => ?_)
      · have nc119 : ¬ ((RF ip) 16).toInt = (0 : Int) := mt (i_eq (x := ((RF ip) 16)) (y := 0)).mpr c119
        refine lv_iconst (v := 2) S.x S.b d_Ker_serve_136 (by decide) ?_
        refine lv_iload_n S.x S.b d_Ker_serve_137 rfl (lv_at hl 0 rfl) ?_
        refine lv_imul S.x S.b d_Ker_serve_138 ?_
        refine lv_topi (fun z120 ez120 => ?_)
        have lz120 := Int32.le_toInt z120
        have uz120 := Int32.toInt_lt z120
        have tz120 : -2147483648 ≤ 2 * v4.toInt → 2 * v4.toInt < 2147483648 → z120.toInt = 2 * v4.toInt := by rw [ez120]; exact i_mulc 2 v4 (by decide)
        try replace tz120 : z120.toInt = 2 * v4.toInt := by omega
        refine lv_iconst (v := 1) S.x S.b d_Ker_serve_139 (by decide) ?_
        refine lv_iadd S.x S.b d_Ker_serve_140 ?_
        refine lv_topi (fun z121 ez121 => ?_)
        have tz121 : z121.toInt = (z120.toInt + (1 : Int) + 2147483648) % 4294967296 - 2147483648 := by rw [ez121]; exact i_add z120 1
        have lz121 := Int32.le_toInt z121
        have uz121 := Int32.toInt_lt z121
        try replace tz121 : z121.toInt = z120.toInt + (1 : Int) := by omega
        have hw : pw D A s.heap _ _ [wd_Ker cs hk kr (fun _ => none) kf ka (gKe pq pz tq rq), fm 13 (fTx cs tq TR TO TF TA), fm 8 (fPp cs pq PV), fm 13 (fRw cs rq RR RM RW RF RA RC)] := frw_back (pr := [wd_Ker cs hk kr (fun _ => none) kf ka (gKe pq pz tq rq), fm 13 (fTx cs tq TR TO TF TA), fm 8 (fPp cs pq PV)]) hw hip hcu.1 hto1
        have hw : pw D A s.heap _ _ [wd_Ker cs hk kr (fun _ => none) kf ka (gKe pq pz tq rq), fm 13 (fTx cs tq TR TO TF TA), fm 13 (fRw cs rq RR RM RW RF RA RC), fm 8 (fPp cs pq PV)] := hw.sub [0, 1, 3, 2] rfl rfl
        refine pg_calli (pr := []) (px_runV (As := [.ref hx, .int v4, .int z121]) (rest := []) S (c_k_send_R l D cs hk kr pq kf PV pz tq rq ka TR TO TF TA RR RM RW RF RA RC v4 z121 ip hx (show v4.toInt = -1 ∨ (0 ≤ v4.toInt ∧ v4.toInt ≤ 12 ∧ 0 ≤ z121.toInt ∧ z121.toInt ≤ 25) from by first | with_reducible rfl | with_reducible assumption | omega) (show (RF ip 14).toInt = 1 from by first | exact g2 | omega) hki hro hrm hip hcu _ _) hT (pr := []) (pcs := [wd_Ker cs hk kr (fun _ => none) kf ka (gKe pq pz tq rq), fm 13 (fTx cs tq TR TO TF TA), fm 13 (fRw cs rq RR RM RW RF RA RC), fm 8 (fPp cs pq PV)]) hw (px_X.tot px_X.tt) (px_recv hT hw 0 0 rfl rfl rfl) m8_150 m8_147 m8_149 ms_6_0 m1_19 q_Ker_send ⟨Nat.le_of_ble_eq_true rfl, Nat.le_of_ble_eq_true rfl⟩ hl.1 rfl (Nat.le_of_ble_eq_true rfl) d_Ker_serve_141 ⟨show 0 + (5 * ndS 13 tq + 4 * ndS 13 rq + ndS 13 RM) ≤ (5 * ndS 13 tq + 4 * ndS 13 rq + ndS 13 RM) from by first | with_reducible rfl | with_reducible assumption | omega, show 0 + (9804 * ndS 13 tq + 342 * ndS 13 rq + 36864 * ndS 13 RM) ≤ (9804 * ndS 13 tq + 342 * ndS 13 rq + 36864 * ndS 13 RM) from by first | with_reducible rfl | with_reducible assumption | omega⟩) hw hA (fun v151 p150 k152 n153 H locs hp150 hw => ?_)
        dsimp only at hp150
        obtain ⟨pz136, tq137, rq138, ka139, TR140, TO141, TF142, TA143, RR144, RM145, RW146, RF147, RA148, RC149, rfl, e154, e155, e156, e157, e158, e159, e160⟩ := hp150
        have e154 := z_rng e154
        replace e155 : CuR pq PV rq138 RW146 ip hx := e155
        obtain ⟨j161, hp161, hj161, hjq161, hto161⟩ := e155.2
        replace e156 : KnI pq PV pz136 tq137 rq138 TO141 TF142 TA143 RW146 RF147 := e156
        have hki := e156
        replace e157 : RoI ka139 := e157
        have hro := e157
        replace e158 : RmI rq138 RM145 := e158
        have hrm := e158
        replace e159 : k152 + (5 * ndS 13 tq137 + 4 * ndS 13 rq138 + ndS 13 RM145) ≤ 5 * ndS 13 tq + 4 * ndS 13 rq + ndS 13 RM := e159
        replace e160 : n153 + (9804 * ndS 13 tq137 + 342 * ndS 13 rq138 + 36864 * ndS 13 RM145) ≤ 9804 * ndS 13 tq + 342 * ndS 13 rq + 36864 * ndS 13 RM := e160
        replace hw : pw D A s.heap H locs [wd_Ker cs hk kr (fun _ => none) kf ka139 (gKe pq pz136 tq137 rq138), fm 13 (fTx cs tq137 TR140 TO141 TF142 TA143), fm 13 (fRw cs rq138 RR144 RM145 RW146 RF147 RA148 RC149), fm 8 (fPp cs pq PV)] := hw
        have lv151 := Int32.le_toInt v151
        have uv151 := Int32.toInt_lt v151
        exact pg_iret (v := v151) S hr (z_nar (by omega)) hlk hAe hw (show (0 + k152) ≤ (5 * ndS 13 tq + 4 * ndS 13 rq + ndS 13 RM) from by first | exact oz_c18bd8c19e e159 | omega) (show (0 + n153) ≤ (9804 * ndS 13 tq + 342 * ndS 13 rq + 36864 * ndS 13 RM) from by first | exact oz_a5e7637f35 e160 | omega) (⟨pz136, tq137, rq138, ka139, TR140, TO141, TF142, TA143, RR144, RM145, RW146, RF147, RA148, RC149, rfl, (show v151 = 0 ∨ v151 = 1 from by first | exact Or.inl rfl | exact Or.inr rfl | exact z_or (by omega)), (show CuR pq PV rq138 RW146 ip hx from e155), (show KnI pq PV pz136 tq137 rq138 TO141 TF142 TA143 RW146 RF147 from hki), (show RoI ka139 from hro), (show RmI rq138 RM145 from hrm), (show (0 + k152) + (5 * ndS 13 tq137 + 4 * ndS 13 rq138 + ndS 13 RM145) ≤ 5 * ndS 13 tq + 4 * ndS 13 rq + ndS 13 RM from by first | exact oz_83cb35c84f e159 | omega), (show (0 + n153) + (9804 * ndS 13 tq137 + 342 * ndS 13 rq138 + 36864 * ndS 13 RM145) ≤ 9804 * ndS 13 tq + 342 * ndS 13 rq + 36864 * ndS 13 RM from by first | exact oz_0878d13dda e160 | omega)⟩) d_Ker_serve_144
      · have nc119 : ((RF ip) 16).toInt = (0 : Int) := (i_eq (x := ((RF ip) 16)) (y := 0)).mp c119
        refine lv_iconst (v := 2) S.x S.b d_Ker_serve_130 (by decide) ?_
        refine lv_iload_n S.x S.b d_Ker_serve_131 rfl (lv_at hl 1 rfl) ?_
        refine lv_imul S.x S.b d_Ker_serve_132 ?_
        have lr162 := Int32.le_toInt ((RF ip) 8)
        have ur162 := Int32.toInt_lt ((RF ip) 8)
        refine lv_topi (fun z163 ez163 => ?_)
        have lz163 := Int32.le_toInt z163
        have uz163 := Int32.toInt_lt z163
        have tz163 : -2147483648 ≤ 2 * ((RF ip) 8).toInt → 2 * ((RF ip) 8).toInt < 2147483648 → z163.toInt = 2 * ((RF ip) 8).toInt := by rw [ez163]; exact i_mulc 2 ((RF ip) 8) (by decide)
        try replace tz163 : z163.toInt = 2 * ((RF ip) 8).toInt := by omega
        refine lv_goto (tgt := 141) S.x S.b d_Ker_serve_133 (by decide) ?_
        have hw : pw D A s.heap _ _ [wd_Ker cs hk kr (fun _ => none) kf ka (gKe pq pz tq rq), fm 13 (fTx cs tq TR TO TF TA), fm 8 (fPp cs pq PV), fm 13 (fRw cs rq RR RM RW RF RA RC)] := frw_back (pr := [wd_Ker cs hk kr (fun _ => none) kf ka (gKe pq pz tq rq), fm 13 (fTx cs tq TR TO TF TA), fm 8 (fPp cs pq PV)]) hw hip hcu.1 hto1
        have hw : pw D A s.heap _ _ [wd_Ker cs hk kr (fun _ => none) kf ka (gKe pq pz tq rq), fm 13 (fTx cs tq TR TO TF TA), fm 13 (fRw cs rq RR RM RW RF RA RC), fm 8 (fPp cs pq PV)] := hw.sub [0, 1, 3, 2] rfl rfl
        refine pg_calli (pr := []) (px_runV (As := [.ref hx, .int v4, .int z163]) (rest := []) S (c_k_send_R l D cs hk kr pq kf PV pz tq rq ka TR TO TF TA RR RM RW RF RA RC v4 z163 ip hx (show v4.toInt = -1 ∨ (0 ≤ v4.toInt ∧ v4.toInt ≤ 12 ∧ 0 ≤ z163.toInt ∧ z163.toInt ≤ 25) from by first | with_reducible rfl | with_reducible assumption | omega) (show (RF ip 14).toInt = 1 from by first | exact g2 | omega) hki hro hrm hip hcu _ _) hT (pr := []) (pcs := [wd_Ker cs hk kr (fun _ => none) kf ka (gKe pq pz tq rq), fm 13 (fTx cs tq TR TO TF TA), fm 13 (fRw cs rq RR RM RW RF RA RC), fm 8 (fPp cs pq PV)]) hw (px_X.tot px_X.tt) (px_recv hT hw 0 0 rfl rfl rfl) m8_150 m8_147 m8_149 ms_6_0 m1_19 q_Ker_send ⟨Nat.le_of_ble_eq_true rfl, Nat.le_of_ble_eq_true rfl⟩ hl.1 rfl (Nat.le_of_ble_eq_true rfl) d_Ker_serve_141 ⟨show 0 + (5 * ndS 13 tq + 4 * ndS 13 rq + ndS 13 RM) ≤ (5 * ndS 13 tq + 4 * ndS 13 rq + ndS 13 RM) from by first | with_reducible rfl | with_reducible assumption | omega, show 0 + (9804 * ndS 13 tq + 342 * ndS 13 rq + 36864 * ndS 13 RM) ≤ (9804 * ndS 13 tq + 342 * ndS 13 rq + 36864 * ndS 13 RM) from by first | with_reducible rfl | with_reducible assumption | omega⟩) hw hA (fun v193 p192 k194 n195 H locs hp192 hw => ?_)
        dsimp only at hp192
        obtain ⟨pz178, tq179, rq180, ka181, TR182, TO183, TF184, TA185, RR186, RM187, RW188, RF189, RA190, RC191, rfl, e196, e197, e198, e199, e200, e201, e202⟩ := hp192
        have e196 := z_rng e196
        replace e197 : CuR pq PV rq180 RW188 ip hx := e197
        obtain ⟨j203, hp203, hj203, hjq203, hto203⟩ := e197.2
        replace e198 : KnI pq PV pz178 tq179 rq180 TO183 TF184 TA185 RW188 RF189 := e198
        have hki := e198
        replace e199 : RoI ka181 := e199
        have hro := e199
        replace e200 : RmI rq180 RM187 := e200
        have hrm := e200
        replace e201 : k194 + (5 * ndS 13 tq179 + 4 * ndS 13 rq180 + ndS 13 RM187) ≤ 5 * ndS 13 tq + 4 * ndS 13 rq + ndS 13 RM := e201
        replace e202 : n195 + (9804 * ndS 13 tq179 + 342 * ndS 13 rq180 + 36864 * ndS 13 RM187) ≤ 9804 * ndS 13 tq + 342 * ndS 13 rq + 36864 * ndS 13 RM := e202
        replace hw : pw D A s.heap H locs [wd_Ker cs hk kr (fun _ => none) kf ka181 (gKe pq pz178 tq179 rq180), fm 13 (fTx cs tq179 TR182 TO183 TF184 TA185), fm 13 (fRw cs rq180 RR186 RM187 RW188 RF189 RA190 RC191), fm 8 (fPp cs pq PV)] := hw
        have lv193 := Int32.le_toInt v193
        have uv193 := Int32.toInt_lt v193
        exact pg_iret (v := v193) S hr (z_nar (by omega)) hlk hAe hw (show (0 + k194) ≤ (5 * ndS 13 tq + 4 * ndS 13 rq + ndS 13 RM) from by first | exact oz_c18bd8c19e e201 | omega) (show (0 + n195) ≤ (9804 * ndS 13 tq + 342 * ndS 13 rq + 36864 * ndS 13 RM) from by first | exact oz_a5e7637f35 e202 | omega) (⟨pz178, tq179, rq180, ka181, TR182, TO183, TF184, TA185, RR186, RM187, RW188, RF189, RA190, RC191, rfl, (show v193 = 0 ∨ v193 = 1 from by first | exact Or.inl rfl | exact Or.inr rfl | exact z_or (by omega)), (show CuR pq PV rq180 RW188 ip hx from e197), (show KnI pq PV pz178 tq179 rq180 TO183 TF184 TA185 RW188 RF189 from hki), (show RoI ka181 from hro), (show RmI rq180 RM187 from hrm), (show (0 + k194) + (5 * ndS 13 tq179 + 4 * ndS 13 rq180 + ndS 13 RM187) ≤ 5 * ndS 13 tq + 4 * ndS 13 rq + ndS 13 RM from by first | exact oz_83cb35c84f e201 | omega), (show (0 + n195) + (9804 * ndS 13 tq179 + 342 * ndS 13 rq180 + 36864 * ndS 13 RM187) ≤ 9804 * ndS 13 tq + 342 * ndS 13 rq + 36864 * ndS 13 RM from by first | exact oz_0878d13dda e202 | omega)⟩) d_Ker_serve_144
    · simp only [List.mem_cons, List.not_mem_nil, or_false] at c93
      refine lv_aload_n S.x S.b d_Ker_serve_163 rfl (lv_at hl 2 rfl) ?_
      refine lv_aload_n S.x S.b d_Ker_serve_164 rfl (lv_at hl 3 rfl) ?_
      refine lv_iload_n S.x S.b d_Ker_serve_165 rfl (lv_at hl 0 rfl) ?_
      refine lv_aload_n S.x S.b d_Ker_serve_166 rfl (lv_at hl 3 rfl) ?_
      refine px_get S k_Raw hT hw 4 0 16 (v := .int ((RF ip) 16)) rfl rfl rfl (by decide) m6_161 d_Ker_serve_167 ?_
      refine lv_if_ne (tgt := 181) S.x S.b d_Ker_serve_170 (by decide) (fun c204 => ?_) (fun c204 => ?_)
      · have nc204 : ¬ ((RF ip) 16).toInt = (0 : Int) := mt (i_eq (x := ((RF ip) 16)) (y := 0)).mpr c204
        refine lv_iconst (v := 2) S.x S.b d_Ker_serve_181 (by decide) ?_
        refine lv_iload_n S.x S.b d_Ker_serve_182 rfl (lv_at hl 0 rfl) ?_
        refine lv_imul S.x S.b d_Ker_serve_183 ?_
        refine lv_topi (fun z205 ez205 => ?_)
        have lz205 := Int32.le_toInt z205
        have uz205 := Int32.toInt_lt z205
        have tz205 : -2147483648 ≤ 2 * v4.toInt → 2 * v4.toInt < 2147483648 → z205.toInt = 2 * v4.toInt := by rw [ez205]; exact i_mulc 2 v4 (by decide)
        try replace tz205 : z205.toInt = 2 * v4.toInt := by omega
        have hw : pw D A s.heap _ _ [wd_Ker cs hk kr (fun _ => none) kf ka (gKe pq pz tq rq), fm 13 (fTx cs tq TR TO TF TA), fm 8 (fPp cs pq PV), fm 13 (fRw cs rq RR RM RW RF RA RC)] := frw_back (pr := [wd_Ker cs hk kr (fun _ => none) kf ka (gKe pq pz tq rq), fm 13 (fTx cs tq TR TO TF TA), fm 8 (fPp cs pq PV)]) hw hip hcu.1 hto1
        have hw : pw D A s.heap _ _ [wd_Ker cs hk kr (fun _ => none) kf ka (gKe pq pz tq rq), fm 13 (fTx cs tq TR TO TF TA), fm 13 (fRw cs rq RR RM RW RF RA RC), fm 8 (fPp cs pq PV)] := hw.sub [0, 1, 3, 2] rfl rfl
        refine pg_calli (pr := []) (px_runV (As := [.ref hx, .int v4, .int z205]) (rest := []) S (c_k_receive_R l D cs hk kr pq kf PV pz tq rq ka TR TO TF TA RR RM RW RF RA RC v4 z205 ip hx (show v4.toInt = -1 ∨ (0 ≤ v4.toInt ∧ v4.toInt ≤ 12 ∧ 0 ≤ z205.toInt ∧ z205.toInt ≤ 25) from by first | with_reducible rfl | with_reducible assumption | omega) (show (RF ip 14).toInt = 1 from by first | exact g2 | omega) hki hro hrm hip hcu _ _) hT (pr := []) (pcs := [wd_Ker cs hk kr (fun _ => none) kf ka (gKe pq pz tq rq), fm 13 (fTx cs tq TR TO TF TA), fm 13 (fRw cs rq RR RM RW RF RA RC), fm 8 (fPp cs pq PV)]) hw (px_X.tot px_X.tt) (px_recv hT hw 0 0 rfl rfl rfl) m8_162 m8_159 m8_161 ms_6_3 m1_19 q_Ker_receive ⟨Nat.le_of_ble_eq_true rfl, Nat.le_of_ble_eq_true rfl⟩ hl.1 rfl (Nat.le_of_ble_eq_true rfl) d_Ker_serve_184 ⟨show 0 + (5 * ndS 13 tq + 4 * ndS 13 rq + ndS 13 RM) ≤ (5 * ndS 13 tq + 4 * ndS 13 rq + ndS 13 RM) from by first | with_reducible rfl | with_reducible assumption | omega, show 0 + (9804 * ndS 13 tq + 342 * ndS 13 rq + 36864 * ndS 13 RM) ≤ (9804 * ndS 13 tq + 342 * ndS 13 rq + 36864 * ndS 13 RM) from by first | with_reducible rfl | with_reducible assumption | omega⟩) hw hA (fun v235 p234 k236 n237 H locs hp234 hw => ?_)
        dsimp only at hp234
        obtain ⟨pz220, tq221, rq222, ka223, TR224, TO225, TF226, TA227, RR228, RM229, RW230, RF231, RA232, RC233, rfl, e238, e239, e240, e241, e242, e243, e244⟩ := hp234
        have e238 := z_rng e238
        replace e239 : CuR pq PV rq222 RW230 ip hx := e239
        obtain ⟨j245, hp245, hj245, hjq245, hto245⟩ := e239.2
        replace e240 : KnI pq PV pz220 tq221 rq222 TO225 TF226 TA227 RW230 RF231 := e240
        have hki := e240
        replace e241 : RoI ka223 := e241
        have hro := e241
        replace e242 : RmI rq222 RM229 := e242
        have hrm := e242
        replace e243 : k236 + (5 * ndS 13 tq221 + 4 * ndS 13 rq222 + ndS 13 RM229) ≤ 5 * ndS 13 tq + 4 * ndS 13 rq + ndS 13 RM := e243
        replace e244 : n237 + (9804 * ndS 13 tq221 + 342 * ndS 13 rq222 + 36864 * ndS 13 RM229) ≤ 9804 * ndS 13 tq + 342 * ndS 13 rq + 36864 * ndS 13 RM := e244
        replace hw : pw D A s.heap H locs [wd_Ker cs hk kr (fun _ => none) kf ka223 (gKe pq pz220 tq221 rq222), fm 13 (fTx cs tq221 TR224 TO225 TF226 TA227), fm 13 (fRw cs rq222 RR228 RM229 RW230 RF231 RA232 RC233), fm 8 (fPp cs pq PV)] := hw
        have lv235 := Int32.le_toInt v235
        have uv235 := Int32.toInt_lt v235
        exact pg_iret (v := v235) S hr (z_nar (by omega)) hlk hAe hw (show (0 + k236) ≤ (5 * ndS 13 tq + 4 * ndS 13 rq + ndS 13 RM) from by first | exact oz_c18bd8c19e e243 | omega) (show (0 + n237) ≤ (9804 * ndS 13 tq + 342 * ndS 13 rq + 36864 * ndS 13 RM) from by first | exact oz_a5e7637f35 e244 | omega) (⟨pz220, tq221, rq222, ka223, TR224, TO225, TF226, TA227, RR228, RM229, RW230, RF231, RA232, RC233, rfl, (show v235 = 0 ∨ v235 = 1 from by first | exact Or.inl rfl | exact Or.inr rfl | exact z_or (by omega)), (show CuR pq PV rq222 RW230 ip hx from e239), (show KnI pq PV pz220 tq221 rq222 TO225 TF226 TA227 RW230 RF231 from hki), (show RoI ka223 from hro), (show RmI rq222 RM229 from hrm), (show (0 + k236) + (5 * ndS 13 tq221 + 4 * ndS 13 rq222 + ndS 13 RM229) ≤ 5 * ndS 13 tq + 4 * ndS 13 rq + ndS 13 RM from by first | exact oz_83cb35c84f e243 | omega), (show (0 + n237) + (9804 * ndS 13 tq221 + 342 * ndS 13 rq222 + 36864 * ndS 13 RM229) ≤ 9804 * ndS 13 tq + 342 * ndS 13 rq + 36864 * ndS 13 RM from by first | exact oz_0878d13dda e244 | omega)⟩) d_Ker_serve_187
      · have nc204 : ((RF ip) 16).toInt = (0 : Int) := (i_eq (x := ((RF ip) 16)) (y := 0)).mp c204
        refine lv_iconst (v := 2) S.x S.b d_Ker_serve_173 (by decide) ?_
        refine lv_iload_n S.x S.b d_Ker_serve_174 rfl (lv_at hl 1 rfl) ?_
        refine lv_imul S.x S.b d_Ker_serve_175 ?_
        have lr246 := Int32.le_toInt ((RF ip) 8)
        have ur246 := Int32.toInt_lt ((RF ip) 8)
        refine lv_topi (fun z247 ez247 => ?_)
        have lz247 := Int32.le_toInt z247
        have uz247 := Int32.toInt_lt z247
        have tz247 : -2147483648 ≤ 2 * ((RF ip) 8).toInt → 2 * ((RF ip) 8).toInt < 2147483648 → z247.toInt = 2 * ((RF ip) 8).toInt := by rw [ez247]; exact i_mulc 2 ((RF ip) 8) (by decide)
        try replace tz247 : z247.toInt = 2 * ((RF ip) 8).toInt := by omega
        refine lv_iconst (v := 1) S.x S.b d_Ker_serve_176 (by decide) ?_
        refine lv_iadd S.x S.b d_Ker_serve_177 ?_
        refine lv_topi (fun z248 ez248 => ?_)
        have tz248 : z248.toInt = (z247.toInt + (1 : Int) + 2147483648) % 4294967296 - 2147483648 := by rw [ez248]; exact i_add z247 1
        have lz248 := Int32.le_toInt z248
        have uz248 := Int32.toInt_lt z248
        try replace tz248 : z248.toInt = z247.toInt + (1 : Int) := by omega
        refine lv_goto (tgt := 184) S.x S.b d_Ker_serve_178 (by decide) ?_
        have hw : pw D A s.heap _ _ [wd_Ker cs hk kr (fun _ => none) kf ka (gKe pq pz tq rq), fm 13 (fTx cs tq TR TO TF TA), fm 8 (fPp cs pq PV), fm 13 (fRw cs rq RR RM RW RF RA RC)] := frw_back (pr := [wd_Ker cs hk kr (fun _ => none) kf ka (gKe pq pz tq rq), fm 13 (fTx cs tq TR TO TF TA), fm 8 (fPp cs pq PV)]) hw hip hcu.1 hto1
        have hw : pw D A s.heap _ _ [wd_Ker cs hk kr (fun _ => none) kf ka (gKe pq pz tq rq), fm 13 (fTx cs tq TR TO TF TA), fm 13 (fRw cs rq RR RM RW RF RA RC), fm 8 (fPp cs pq PV)] := hw.sub [0, 1, 3, 2] rfl rfl
        refine pg_calli (pr := []) (px_runV (As := [.ref hx, .int v4, .int z248]) (rest := []) S (c_k_receive_R l D cs hk kr pq kf PV pz tq rq ka TR TO TF TA RR RM RW RF RA RC v4 z248 ip hx (show v4.toInt = -1 ∨ (0 ≤ v4.toInt ∧ v4.toInt ≤ 12 ∧ 0 ≤ z248.toInt ∧ z248.toInt ≤ 25) from by first | with_reducible rfl | with_reducible assumption | omega) (show (RF ip 14).toInt = 1 from by first | exact g2 | omega) hki hro hrm hip hcu _ _) hT (pr := []) (pcs := [wd_Ker cs hk kr (fun _ => none) kf ka (gKe pq pz tq rq), fm 13 (fTx cs tq TR TO TF TA), fm 13 (fRw cs rq RR RM RW RF RA RC), fm 8 (fPp cs pq PV)]) hw (px_X.tot px_X.tt) (px_recv hT hw 0 0 rfl rfl rfl) m8_162 m8_159 m8_161 ms_6_3 m1_19 q_Ker_receive ⟨Nat.le_of_ble_eq_true rfl, Nat.le_of_ble_eq_true rfl⟩ hl.1 rfl (Nat.le_of_ble_eq_true rfl) d_Ker_serve_184 ⟨show 0 + (5 * ndS 13 tq + 4 * ndS 13 rq + ndS 13 RM) ≤ (5 * ndS 13 tq + 4 * ndS 13 rq + ndS 13 RM) from by first | with_reducible rfl | with_reducible assumption | omega, show 0 + (9804 * ndS 13 tq + 342 * ndS 13 rq + 36864 * ndS 13 RM) ≤ (9804 * ndS 13 tq + 342 * ndS 13 rq + 36864 * ndS 13 RM) from by first | with_reducible rfl | with_reducible assumption | omega⟩) hw hA (fun v278 p277 k279 n280 H locs hp277 hw => ?_)
        dsimp only at hp277
        obtain ⟨pz263, tq264, rq265, ka266, TR267, TO268, TF269, TA270, RR271, RM272, RW273, RF274, RA275, RC276, rfl, e281, e282, e283, e284, e285, e286, e287⟩ := hp277
        have e281 := z_rng e281
        replace e282 : CuR pq PV rq265 RW273 ip hx := e282
        obtain ⟨j288, hp288, hj288, hjq288, hto288⟩ := e282.2
        replace e283 : KnI pq PV pz263 tq264 rq265 TO268 TF269 TA270 RW273 RF274 := e283
        have hki := e283
        replace e284 : RoI ka266 := e284
        have hro := e284
        replace e285 : RmI rq265 RM272 := e285
        have hrm := e285
        replace e286 : k279 + (5 * ndS 13 tq264 + 4 * ndS 13 rq265 + ndS 13 RM272) ≤ 5 * ndS 13 tq + 4 * ndS 13 rq + ndS 13 RM := e286
        replace e287 : n280 + (9804 * ndS 13 tq264 + 342 * ndS 13 rq265 + 36864 * ndS 13 RM272) ≤ 9804 * ndS 13 tq + 342 * ndS 13 rq + 36864 * ndS 13 RM := e287
        replace hw : pw D A s.heap H locs [wd_Ker cs hk kr (fun _ => none) kf ka266 (gKe pq pz263 tq264 rq265), fm 13 (fTx cs tq264 TR267 TO268 TF269 TA270), fm 13 (fRw cs rq265 RR271 RM272 RW273 RF274 RA275 RC276), fm 8 (fPp cs pq PV)] := hw
        have lv278 := Int32.le_toInt v278
        have uv278 := Int32.toInt_lt v278
        exact pg_iret (v := v278) S hr (z_nar (by omega)) hlk hAe hw (show (0 + k279) ≤ (5 * ndS 13 tq + 4 * ndS 13 rq + ndS 13 RM) from by first | exact oz_c18bd8c19e e286 | omega) (show (0 + n280) ≤ (9804 * ndS 13 tq + 342 * ndS 13 rq + 36864 * ndS 13 RM) from by first | exact oz_a5e7637f35 e287 | omega) (⟨pz263, tq264, rq265, ka266, TR267, TO268, TF269, TA270, RR271, RM272, RW273, RF274, RA275, RC276, rfl, (show v278 = 0 ∨ v278 = 1 from by first | exact Or.inl rfl | exact Or.inr rfl | exact z_or (by omega)), (show CuR pq PV rq265 RW273 ip hx from e282), (show KnI pq PV pz263 tq264 rq265 TO268 TF269 TA270 RW273 RF274 from hki), (show RoI ka266 from hro), (show RmI rq265 RM272 from hrm), (show (0 + k279) + (5 * ndS 13 tq264 + 4 * ndS 13 rq265 + ndS 13 RM272) ≤ 5 * ndS 13 tq + 4 * ndS 13 rq + ndS 13 RM from by first | exact oz_83cb35c84f e286 | omega), (show (0 + n280) + (9804 * ndS 13 tq264 + 342 * ndS 13 rq265 + 36864 * ndS 13 RM272) ≤ 9804 * ndS 13 tq + 342 * ndS 13 rq + 36864 * ndS 13 RM from by first | exact oz_0878d13dda e287 | omega)⟩) d_Ker_serve_187
    · simp only [List.mem_cons, List.not_mem_nil, or_false] at c93
      refine lv_aload_n S.x S.b d_Ker_serve_79 rfl (lv_at hl 3 rfl) ?_
      refine lv_aload_n S.x S.b d_Ker_serve_80 rfl (lv_at hl 2 rfl) ?_
      refine lv_aload_n S.x S.b d_Ker_serve_81 rfl (lv_at hl 3 rfl) ?_
      refine lv_aload_n S.x S.b d_Ker_serve_82 rfl (lv_at hl 3 rfl) ?_
      refine px_get S k_Raw hT hw 4 0 16 (v := .int ((RF ip) 16)) rfl rfl rfl (by decide) m6_161 d_Ker_serve_83 ?_
      refine lv_aload_n S.x S.b d_Ker_serve_86 rfl (lv_at hl 3 rfl) ?_
      refine px_get S k_Raw hT hw 4 0 17 (v := .int ((RF ip) 17)) rfl rfl rfl (by decide) m6_166 d_Ker_serve_87 ?_
      have hw : pw D A s.heap _ _ [wd_Ker cs hk kr (fun _ => none) kf ka (gKe pq pz tq rq), fm 13 (fTx cs tq TR TO TF TA), fm 8 (fPp cs pq PV), fm 13 (fRw cs rq RR RM RW RF RA RC)] := frw_back (pr := [wd_Ker cs hk kr (fun _ => none) kf ka (gKe pq pz tq rq), fm 13 (fTx cs tq TR TO TF TA), fm 8 (fPp cs pq PV)]) hw hip hcu.1 hto1
      have hw : pw D A s.heap _ _ [wd_Ker cs hk kr (fun _ => none) kf ka (gKe pq pz tq rq), fm 13 (fTx cs tq TR TO TF TA), fm 13 (fRw cs rq RR RM RW RF RA RC), fm 8 (fPp cs pq PV)] := hw.sub [0, 1, 3, 2] rfl rfl
      refine pg_calli (pr := []) (px_runV (As := [.ref hx, .int ((RF ip) 16), .int ((RF ip) 17)]) (rest := [.ref hx]) S (c_k_spawn_R l D cs hk kr pq kf PV pz tq rq ka TR TO TF TA RR RM RW RF RA RC ((RF ip) 16) ((RF ip) 17) ip hx (show 0 ≤ (kf 8).toInt from by first | exact g0 | omega) (show (kf 8).toInt ≤ 100 from by first | exact g1 | omega) hki hro hrm hip hcu _ _) hT (pr := []) (pcs := [wd_Ker cs hk kr (fun _ => none) kf ka (gKe pq pz tq rq), fm 13 (fTx cs tq TR TO TF TA), fm 13 (fRw cs rq RR RM RW RF RA RC), fm 8 (fPp cs pq PV)]) hw (px_X.tot px_X.tt) (px_recv hT hw 0 0 rfl rfl rfl) m8_79 m8_76 m8_78 ms_5_10 m1_19 q_Ker_spawn ⟨Nat.le_of_ble_eq_true rfl, Nat.le_of_ble_eq_true rfl⟩ hl.1 rfl (Nat.le_of_ble_eq_true rfl) d_Ker_serve_90 ⟨show 0 + (5 * ndS 13 tq + 4 * ndS 13 rq + ndS 13 RM) ≤ (5 * ndS 13 tq + 4 * ndS 13 rq + ndS 13 RM) from by first | with_reducible rfl | with_reducible assumption | omega, show 0 + (9804 * ndS 13 tq + 342 * ndS 13 rq + 36864 * ndS 13 RM) ≤ (9804 * ndS 13 tq + 342 * ndS 13 rq + 36864 * ndS 13 RM) from by first | with_reducible rfl | with_reducible assumption | omega⟩) hw hA (fun v318 p317 k319 n320 H locs hp317 hw => ?_)
      dsimp only at hp317
      obtain ⟨pz303, tq304, rq305, ka306, TR307, TO308, TF309, TA310, RR311, RM312, RW313, RF314, RA315, RC316, rfl, e321, e322, e323, e324, e325, e326, e327⟩ := hp317
      replace e321 : CuR pq PV rq305 RW313 ip hx := e321
      obtain ⟨j328, hp328, hj328, hjq328, hto328⟩ := e321.2
      replace e322 : (RF314 ip 14).toInt = (RF ip 14).toInt := e322
      replace e323 : KnI pq PV pz303 tq304 rq305 TO308 TF309 TA310 RW313 RF314 := e323
      have hki := e323
      replace e324 : RoI ka306 := e324
      have hro := e324
      replace e325 : RmI rq305 RM312 := e325
      have hrm := e325
      replace e326 : k319 + (5 * ndS 13 tq304 + 4 * ndS 13 rq305 + ndS 13 RM312) ≤ 5 * ndS 13 tq + 4 * ndS 13 rq + ndS 13 RM := e326
      replace e327 : n320 + (9804 * ndS 13 tq304 + 342 * ndS 13 rq305 + 36864 * ndS 13 RM312) ≤ 9804 * ndS 13 tq + 342 * ndS 13 rq + 36864 * ndS 13 RM := e327
      replace hw : pw D A s.heap H locs [wd_Ker cs hk kr (fun _ => none) kf ka306 (gKe pq pz303 tq304 rq305), fm 13 (fTx cs tq304 TR307 TO308 TF309 TA310), fm 13 (fRw cs rq305 RR311 RM312 RW313 RF314 RA315 RC316), fm 8 (fPp cs pq PV)] := hw
      have lv318 := Int32.le_toInt v318
      have uv318 := Int32.toInt_lt v318
      have hw : pw D A s.heap _ _ [wd_Ker cs hk kr (fun _ => none) kf ka306 (gKe pq pz303 tq304 rq305), fm 13 (fTx cs tq304 TR307 TO308 TF309 TA310), fm 8 (fPp cs pq PV), fm 13 (fRw cs rq305 RR311 RM312 RW313 RF314 RA315 RC316)] := hw.sub [0, 1, 3, 2] rfl rfl
      have hw : pw D A s.heap _ _ [wd_Ker cs hk kr (fun _ => none) kf ka306 (gKe pq pz303 tq304 rq305), fm 13 (fTx cs tq304 TR307 TO308 TF309 TA310), fm 8 (fPp cs pq PV), fo 13 (fRw cs rq305 RR311 RM312 RW313 RF314 RA315 RC316) ip, wd_Raw cs hx (RR311 ip) (fun k => if k = 2 then (RM312 ip) else if k = 4 then (some ((PV j328).r 1)) else none) (RF314 ip) (RA315 ip) (fun _ _ => none), nA cs (RM312 ip) 36864 (RC316 ip)] := frw_out (pr := [wd_Ker cs hk kr (fun _ => none) kf ka306 (gKe pq pz303 tq304 rq305), fm 13 (fTx cs tq304 TR307 TO308 TF309 TA310), fm 8 (fPp cs pq PV)]) hw hip e321.1 hto328
      have hng329 := ndS_ge 13 RM312 ip hip
      have hrn329 : RwN ip (RF314 ip) := hki.2.2.1 ip hip _ e321.1
      have hro329 := hrn329.1
      unfold RwO at hro329
      have hid329 := hrn329.2.1
      have hch329 := hrn329.2.2
      unfold KcI at hch329
      have hw : pw D A s.heap _ _ [wd_Ker cs hk kr (fun _ => none) kf ka306 (gKe pq pz303 tq304 rq305), fm 13 (fTx cs tq304 TR307 TO308 TF309 TA310), fm 8 (fPp cs pq PV), fo 13 (fRw cs rq305 RR311 RM312 RW313 RF314 RA315 RC316) ip, nA cs (RM312 ip) 36864 (RC316 ip), wd_Raw cs hx (RR311 ip) (fun k => if k = 2 then (RM312 ip) else if k = 4 then (some ((PV j328).r 1)) else none) (RF314 ip) (RA315 ip) (fun _ _ => none)] := hw.sub [0, 1, 2, 3, 5, 4] rfl rfl
      refine px_callv (pr := [wd_Ker cs hk kr (fun _ => none) kf ka306 (gKe pq pz303 tq304 rq305), fm 13 (fTx cs tq304 TR307 TO308 TF309 TA310), fm 8 (fPp cs pq PV), fo 13 (fRw cs rq305 RR311 RM312 RW313 RF314 RA315 RC316) ip, nA cs (RM312 ip) 36864 (RC316 ip)]) (px_runA (As := [.int v318]) (rest := []) S (c_Raw_answer l D cs hx (RR311 ip) (fun _ _ => none) (RM312 ip) (some ((PV j328).r 1)) (RF314 ip) (RA315 ip) v318  (show 1 ≤ ((RF314 ip) 7).toInt from by first | with_reducible rfl | with_reducible assumption | omega) _) hT (pr := [wd_Ker cs hk kr (fun _ => none) kf ka306 (gKe pq pz303 tq304 rq305), fm 13 (fTx cs tq304 TR307 TO308 TF309 TA310), fm 8 (fPp cs pq PV), fo 13 (fRw cs rq305 RR311 RM312 RW313 RF314 RA315 RC316) ip, nA cs (RM312 ip) 36864 (RC316 ip)]) (pcs := [wd_Raw cs hx (RR311 ip) (fun k => if k = 2 then (RM312 ip) else if k = 4 then (some ((PV j328).r 1)) else none) (RF314 ip) (RA315 ip) (fun _ _ => none)]) hw px_X.tt (C := "HomeSystem$RawProcess") (owner := "HomeSystem$AnyProcess") (x := ⟨"HomeSystem$AnyProcess", "answer", "(I)V"⟩) (px_recv hT hw 5 0 rfl rfl rfl) m8_72 m8_67 m8_69 m8_71 m8_70 m1_34 m8_68n ⟨by decide, by decide⟩ rfl q_Raw_answer ⟨Nat.le_of_ble_eq_true rfl, Nat.le_of_ble_eq_true rfl⟩ hl.1 rfl (Nat.le_of_ble_eq_true rfl) d_Ker_serve_93 ⟨show (0 + k319) + 0 ≤ (5 * ndS 13 tq + 4 * ndS 13 rq + ndS 13 RM) from by first | with_reducible rfl | with_reducible assumption | omega, show (0 + n320) + 0 ≤ (9804 * ndS 13 tq + 342 * ndS 13 rq + 36864 * ndS 13 RM) from by first | with_reducible rfl | with_reducible assumption | omega⟩) hw hA (fun p332 H locs hp332 hw => ?_)
      obtain ⟨f330, a331, rfl, e334, e335, e336, e337, e338, e339⟩ := hp332
      replace e334 : (f330 7).toInt = ((RF314 ip) 7).toInt - 1 := e334
      replace e335 : (f330 8).toInt = ((RF314 ip) 8).toInt := e335
      replace e336 : (f330 10).toInt = ((RF314 ip) 10).toInt := e336
      replace e337 : (f330 13).toInt = ((RF314 ip) 13).toInt := e337
      replace e338 : (f330 14).toInt = 0 := e338
      replace e339 : (f330 11).toInt = ((RF314 ip) 11).toInt := e339
      replace hw : pw D A s.heap H locs [wd_Ker cs hk kr (fun _ => none) kf ka306 (gKe pq pz303 tq304 rq305), fm 13 (fTx cs tq304 TR307 TO308 TF309 TA310), fm 8 (fPp cs pq PV), fo 13 (fRw cs rq305 RR311 RM312 RW313 RF314 RA315 RC316) ip, nA cs (RM312 ip) 36864 (RC316 ip), wd_Raw cs hx (RR311 ip) (fun k => if k = 2 then (RM312 ip) else if k = 4 then (some ((PV j328).r 1)) else none) f330 a331 (fun _ _ => none)] := hw
      refine lv_iconst (v := 1) S.x S.b d_Ker_serve_96 (by decide) ?_
      have hw : pw D A s.heap _ _ [wd_Ker cs hk kr (fun _ => none) kf ka306 (gKe pq pz303 tq304 rq305), fm 13 (fTx cs tq304 TR307 TO308 TF309 TA310), fm 8 (fPp cs pq PV), fo 13 (fRw cs rq305 RR311 RM312 RW313 RF314 RA315 RC316) ip, wd_Raw cs hx (RR311 ip) (fun k => if k = 2 then (RM312 ip) else if k = 4 then (some ((PV j328).r 1)) else none) f330 a331 (fun _ _ => none), nA cs (RM312 ip) 36864 (RC316 ip)] := hw.sub [0, 1, 2, 3, 5, 4] rfl rfl
      have hw := frw_in0 (pr := [wd_Ker cs hk kr (fun _ => none) kf ka306 (gKe pq pz303 tq304 rq305), fm 13 (fTx cs tq304 TR307 TO308 TF309 TA310), fm 8 (fPp cs pq PV)]) hw hip e321.1 hto328
      obtain ⟨RM340, hu_RM340⟩ : ∃ y : Nat → Option Nat, y = va_up RM312 ip (RM312 ip) := ⟨_, rfl⟩
      obtain ⟨RF341, hu_RF341⟩ : ∃ y : Nat → Nat → Int32, y = va_up RF314 ip f330 := ⟨_, rfl⟩
      obtain ⟨RA342, hu_RA342⟩ : ∃ y : Nat → Nat → Nat → Int32, y = va_up RA315 ip a331 := ⟨_, rfl⟩
      obtain ⟨RC343, hu_RC343⟩ : ∃ y : Nat → Nat → Int32, y = va_up RC316 ip (RC316 ip) := ⟨_, rfl⟩
      have hw : pw D A s.heap _ _ [wd_Ker cs hk kr (fun _ => none) kf ka306 (gKe pq pz303 tq304 rq305), fm 13 (fTx cs tq304 TR307 TO308 TF309 TA310), fm 8 (fPp cs pq PV), fm 13 (fRw cs rq305 RR311 RM340 RW313 RF341 RA342 RC343)] := (by rw [hu_RM340, hu_RF341, hu_RA342, hu_RC343]; exact hw)
      have hki : KnI pq PV pz303 tq304 rq305 TO308 TF309 TA310 RW313 RF341 := (by rw [hu_RF341]; exact hki.upR (show RwN ip f330 from ⟨(show (0 ≤ (f330 7).toInt ∧ (f330 7).toInt ≤ 1600) ∧ (0 ≤ (f330 10).toInt ∧ (f330 10).toInt + (f330 7).toInt ≤ 1600) ∧ ((f330 14).toInt = 0 ∨ (f330 14).toInt = 1) ∧ ((f330 14).toInt = 1 → 1 ≤ (f330 7).toInt) from by first | with_reducible rfl | with_reducible assumption | omega), (show ((f330 8).toInt) = ((ip : Nat) : Int) from by first | with_reducible rfl | with_reducible assumption | omega), (show 0 ≤ (f330 13).toInt ∧ (f330 13).toInt ≤ 3 ∧ ((f330 13).toInt = 0 ∨ 3 * ((ip : Nat) : Int) + (f330 13).toInt ≤ 12) from by first | with_reducible rfl | with_reducible assumption | omega)⟩))
      have hrm : RmI rq305 RM340 := (by rw [hu_RM340]; exact hrm.up e321.1)
      have hnd_RM340 := ndS_up 13 RM312 ip (RM312 ip) hip; rw [← hu_RM340] at hnd_RM340
      have hz14_RF341 : (RF341 ip 14).toInt = (f330 14).toInt := (by rw [hu_RF341, va_up_s]; try rfl)
      have hw : pw D A s.heap _ _ [wd_Ker cs hk kr (fun _ => none) kf ka306 (gKe pq pz303 tq304 rq305), fm 13 (fTx cs tq304 TR307 TO308 TF309 TA310), fm 13 (fRw cs rq305 RR311 RM340 RW313 RF341 RA342 RC343), fm 8 (fPp cs pq PV)] := hw.sub [0, 1, 3, 2] rfl rfl
      exact pg_iret (v := 1) S hr rfl hlk hAe hw (show (0 + k319) ≤ (5 * ndS 13 tq + 4 * ndS 13 rq + ndS 13 RM) from by first | exact oz_c18bd8c19e e326 | omega) (show (0 + n320) ≤ (9804 * ndS 13 tq + 342 * ndS 13 rq + 36864 * ndS 13 RM) from by first | exact oz_a5e7637f35 e327 | omega) (⟨pz303, tq304, rq305, ka306, TR307, TO308, TF309, TA310, RR311, RM340, RW313, RF341, RA342, RC343, rfl, (show (1 : Int32) = 0 ∨ (1 : Int32) = 1 from by first | exact Or.inl rfl | exact Or.inr rfl | exact z_or (by omega)), (show CuR pq PV rq305 RW313 ip hx from e321), (show KnI pq PV pz303 tq304 rq305 TO308 TF309 TA310 RW313 RF341 from hki), (show RoI ka306 from hro), (show RmI rq305 RM340 from hrm), (show (0 + k319) + (5 * ndS 13 tq304 + 4 * ndS 13 rq305 + ndS 13 RM340) ≤ 5 * ndS 13 tq + 4 * ndS 13 rq + ndS 13 RM from by first | with_reducible rfl | with_reducible assumption | omega), (show (0 + n320) + (9804 * ndS 13 tq304 + 342 * ndS 13 rq305 + 36864 * ndS 13 RM340) ≤ 9804 * ndS 13 tq + 342 * ndS 13 rq + 36864 * ndS 13 RM from by first | with_reducible rfl | with_reducible assumption | omega)⟩) d_Ker_serve_97
    · simp only [List.mem_cons, List.not_mem_nil, or_false] at c93
      refine lv_aload_n S.x S.b d_Ker_serve_145 rfl (lv_at hl 2 rfl) ?_
      refine lv_aload_n S.x S.b d_Ker_serve_146 rfl (lv_at hl 3 rfl) ?_
      refine lv_aload_n S.x S.b d_Ker_serve_147 rfl (lv_at hl 3 rfl) ?_
      refine px_get S k_Raw hT hw 4 0 16 (v := .int ((RF ip) 16)) rfl rfl rfl (by decide) m6_161 d_Ker_serve_148 ?_
      refine lv_if_ne (tgt := 158) S.x S.b d_Ker_serve_151 (by decide) (fun c344 => ?_) (fun c344 => ?_)
      · have nc344 : ¬ ((RF ip) 16).toInt = (0 : Int) := mt (i_eq (x := ((RF ip) 16)) (y := 0)).mpr c344
        refine lv_iload_n S.x S.b d_Ker_serve_158 rfl (lv_at hl 0 rfl) ?_
        have hw : pw D A s.heap _ _ [wd_Ker cs hk kr (fun _ => none) kf ka (gKe pq pz tq rq), fm 13 (fTx cs tq TR TO TF TA), fm 8 (fPp cs pq PV), fm 13 (fRw cs rq RR RM RW RF RA RC)] := frw_back (pr := [wd_Ker cs hk kr (fun _ => none) kf ka (gKe pq pz tq rq), fm 13 (fTx cs tq TR TO TF TA), fm 8 (fPp cs pq PV)]) hw hip hcu.1 hto1
        have hw : pw D A s.heap _ _ [wd_Ker cs hk kr (fun _ => none) kf ka (gKe pq pz tq rq), fm 13 (fTx cs tq TR TO TF TA), fm 13 (fRw cs rq RR RM RW RF RA RC), fm 8 (fPp cs pq PV)] := hw.sub [0, 1, 3, 2] rfl rfl
        refine pg_calli (pr := []) (px_runV (As := [.ref hx, .int v4]) (rest := []) S (c_k_await_R l D cs hk kr pq kf PV pz tq rq ka TR TO TF TA RR RM RW RF RA RC v4 ip hx (show v4.toInt = -1 ∨ (0 ≤ v4.toInt ∧ v4.toInt ≤ 12) from by first | with_reducible rfl | with_reducible assumption | omega) (show (RF ip 14).toInt = 1 from by first | exact g2 | omega) hki hro hrm hip hcu _ _) hT (pr := []) (pcs := [wd_Ker cs hk kr (fun _ => none) kf ka (gKe pq pz tq rq), fm 13 (fTx cs tq TR TO TF TA), fm 13 (fRw cs rq RR RM RW RF RA RC), fm 8 (fPp cs pq PV)]) hw (px_X.tot px_X.tt) (px_recv hT hw 0 0 rfl rfl rfl) m8_158 m8_155 m8_157 ms_6_2 m1_19 q_Ker_await ⟨Nat.le_of_ble_eq_true rfl, Nat.le_of_ble_eq_true rfl⟩ hl.1 rfl (Nat.le_of_ble_eq_true rfl) d_Ker_serve_159 ⟨show 0 + (5 * ndS 13 tq + 4 * ndS 13 rq + ndS 13 RM) ≤ (5 * ndS 13 tq + 4 * ndS 13 rq + ndS 13 RM) from by first | with_reducible rfl | with_reducible assumption | omega, show 0 + (9804 * ndS 13 tq + 342 * ndS 13 rq + 36864 * ndS 13 RM) ≤ (9804 * ndS 13 tq + 342 * ndS 13 rq + 36864 * ndS 13 RM) from by first | with_reducible rfl | with_reducible assumption | omega⟩) hw hA (fun v374 p373 k375 n376 H locs hp373 hw => ?_)
        dsimp only at hp373
        obtain ⟨pz359, tq360, rq361, ka362, TR363, TO364, TF365, TA366, RR367, RM368, RW369, RF370, RA371, RC372, rfl, e377, e378, e379, e380, e381, e382, e383⟩ := hp373
        have e377 := z_rng e377
        replace e378 : CuR pq PV rq361 RW369 ip hx := e378
        obtain ⟨j384, hp384, hj384, hjq384, hto384⟩ := e378.2
        replace e379 : KnI pq PV pz359 tq360 rq361 TO364 TF365 TA366 RW369 RF370 := e379
        have hki := e379
        replace e380 : RoI ka362 := e380
        have hro := e380
        replace e381 : RmI rq361 RM368 := e381
        have hrm := e381
        replace e382 : k375 + (5 * ndS 13 tq360 + 4 * ndS 13 rq361 + ndS 13 RM368) ≤ 5 * ndS 13 tq + 4 * ndS 13 rq + ndS 13 RM := e382
        replace e383 : n376 + (9804 * ndS 13 tq360 + 342 * ndS 13 rq361 + 36864 * ndS 13 RM368) ≤ 9804 * ndS 13 tq + 342 * ndS 13 rq + 36864 * ndS 13 RM := e383
        replace hw : pw D A s.heap H locs [wd_Ker cs hk kr (fun _ => none) kf ka362 (gKe pq pz359 tq360 rq361), fm 13 (fTx cs tq360 TR363 TO364 TF365 TA366), fm 13 (fRw cs rq361 RR367 RM368 RW369 RF370 RA371 RC372), fm 8 (fPp cs pq PV)] := hw
        have lv374 := Int32.le_toInt v374
        have uv374 := Int32.toInt_lt v374
        exact pg_iret (v := v374) S hr (z_nar (by omega)) hlk hAe hw (show (0 + k375) ≤ (5 * ndS 13 tq + 4 * ndS 13 rq + ndS 13 RM) from by first | exact oz_c18bd8c19e e382 | omega) (show (0 + n376) ≤ (9804 * ndS 13 tq + 342 * ndS 13 rq + 36864 * ndS 13 RM) from by first | exact oz_a5e7637f35 e383 | omega) (⟨pz359, tq360, rq361, ka362, TR363, TO364, TF365, TA366, RR367, RM368, RW369, RF370, RA371, RC372, rfl, (show v374 = 0 ∨ v374 = 1 from by first | exact Or.inl rfl | exact Or.inr rfl | exact z_or (by omega)), (show CuR pq PV rq361 RW369 ip hx from e378), (show KnI pq PV pz359 tq360 rq361 TO364 TF365 TA366 RW369 RF370 from hki), (show RoI ka362 from hro), (show RmI rq361 RM368 from hrm), (show (0 + k375) + (5 * ndS 13 tq360 + 4 * ndS 13 rq361 + ndS 13 RM368) ≤ 5 * ndS 13 tq + 4 * ndS 13 rq + ndS 13 RM from by first | exact oz_83cb35c84f e382 | omega), (show (0 + n376) + (9804 * ndS 13 tq360 + 342 * ndS 13 rq361 + 36864 * ndS 13 RM368) ≤ 9804 * ndS 13 tq + 342 * ndS 13 rq + 36864 * ndS 13 RM from by first | exact oz_0878d13dda e383 | omega)⟩) d_Ker_serve_162
      · have nc344 : ((RF ip) 16).toInt = (0 : Int) := (i_eq (x := ((RF ip) 16)) (y := 0)).mp c344
        refine lv_iconst (v := (-1)) S.x S.b d_Ker_serve_154 (by decide) ?_
        refine lv_goto (tgt := 159) S.x S.b d_Ker_serve_155 (by decide) ?_
        have hw : pw D A s.heap _ _ [wd_Ker cs hk kr (fun _ => none) kf ka (gKe pq pz tq rq), fm 13 (fTx cs tq TR TO TF TA), fm 8 (fPp cs pq PV), fm 13 (fRw cs rq RR RM RW RF RA RC)] := frw_back (pr := [wd_Ker cs hk kr (fun _ => none) kf ka (gKe pq pz tq rq), fm 13 (fTx cs tq TR TO TF TA), fm 8 (fPp cs pq PV)]) hw hip hcu.1 hto1
        have hw : pw D A s.heap _ _ [wd_Ker cs hk kr (fun _ => none) kf ka (gKe pq pz tq rq), fm 13 (fTx cs tq TR TO TF TA), fm 13 (fRw cs rq RR RM RW RF RA RC), fm 8 (fPp cs pq PV)] := hw.sub [0, 1, 3, 2] rfl rfl
        refine pg_calli (pr := []) (px_runV (As := [.ref hx, .int (-1)]) (rest := []) S (c_k_await_R l D cs hk kr pq kf PV pz tq rq ka TR TO TF TA RR RM RW RF RA RC (-1) ip hx (show (-1 : Int) = -1 ∨ (0 ≤ (-1 : Int) ∧ (-1 : Int) ≤ 12) from by first | with_reducible rfl | with_reducible assumption | omega) (show (RF ip 14).toInt = 1 from by first | exact g2 | omega) hki hro hrm hip hcu _ _) hT (pr := []) (pcs := [wd_Ker cs hk kr (fun _ => none) kf ka (gKe pq pz tq rq), fm 13 (fTx cs tq TR TO TF TA), fm 13 (fRw cs rq RR RM RW RF RA RC), fm 8 (fPp cs pq PV)]) hw (px_X.tot px_X.tt) (px_recv hT hw 0 0 rfl rfl rfl) m8_158 m8_155 m8_157 ms_6_2 m1_19 q_Ker_await ⟨Nat.le_of_ble_eq_true rfl, Nat.le_of_ble_eq_true rfl⟩ hl.1 rfl (Nat.le_of_ble_eq_true rfl) d_Ker_serve_159 ⟨show 0 + (5 * ndS 13 tq + 4 * ndS 13 rq + ndS 13 RM) ≤ (5 * ndS 13 tq + 4 * ndS 13 rq + ndS 13 RM) from by first | with_reducible rfl | with_reducible assumption | omega, show 0 + (9804 * ndS 13 tq + 342 * ndS 13 rq + 36864 * ndS 13 RM) ≤ (9804 * ndS 13 tq + 342 * ndS 13 rq + 36864 * ndS 13 RM) from by first | with_reducible rfl | with_reducible assumption | omega⟩) hw hA (fun v414 p413 k415 n416 H locs hp413 hw => ?_)
        dsimp only at hp413
        obtain ⟨pz399, tq400, rq401, ka402, TR403, TO404, TF405, TA406, RR407, RM408, RW409, RF410, RA411, RC412, rfl, e417, e418, e419, e420, e421, e422, e423⟩ := hp413
        have e417 := z_rng e417
        replace e418 : CuR pq PV rq401 RW409 ip hx := e418
        obtain ⟨j424, hp424, hj424, hjq424, hto424⟩ := e418.2
        replace e419 : KnI pq PV pz399 tq400 rq401 TO404 TF405 TA406 RW409 RF410 := e419
        have hki := e419
        replace e420 : RoI ka402 := e420
        have hro := e420
        replace e421 : RmI rq401 RM408 := e421
        have hrm := e421
        replace e422 : k415 + (5 * ndS 13 tq400 + 4 * ndS 13 rq401 + ndS 13 RM408) ≤ 5 * ndS 13 tq + 4 * ndS 13 rq + ndS 13 RM := e422
        replace e423 : n416 + (9804 * ndS 13 tq400 + 342 * ndS 13 rq401 + 36864 * ndS 13 RM408) ≤ 9804 * ndS 13 tq + 342 * ndS 13 rq + 36864 * ndS 13 RM := e423
        replace hw : pw D A s.heap H locs [wd_Ker cs hk kr (fun _ => none) kf ka402 (gKe pq pz399 tq400 rq401), fm 13 (fTx cs tq400 TR403 TO404 TF405 TA406), fm 13 (fRw cs rq401 RR407 RM408 RW409 RF410 RA411 RC412), fm 8 (fPp cs pq PV)] := hw
        have lv414 := Int32.le_toInt v414
        have uv414 := Int32.toInt_lt v414
        exact pg_iret (v := v414) S hr (z_nar (by omega)) hlk hAe hw (show (0 + k415) ≤ (5 * ndS 13 tq + 4 * ndS 13 rq + ndS 13 RM) from by first | exact oz_c18bd8c19e e422 | omega) (show (0 + n416) ≤ (9804 * ndS 13 tq + 342 * ndS 13 rq + 36864 * ndS 13 RM) from by first | exact oz_a5e7637f35 e423 | omega) (⟨pz399, tq400, rq401, ka402, TR403, TO404, TF405, TA406, RR407, RM408, RW409, RF410, RA411, RC412, rfl, (show v414 = 0 ∨ v414 = 1 from by first | exact Or.inl rfl | exact Or.inr rfl | exact z_or (by omega)), (show CuR pq PV rq401 RW409 ip hx from e418), (show KnI pq PV pz399 tq400 rq401 TO404 TF405 TA406 RW409 RF410 from hki), (show RoI ka402 from hro), (show RmI rq401 RM408 from hrm), (show (0 + k415) + (5 * ndS 13 tq400 + 4 * ndS 13 rq401 + ndS 13 RM408) ≤ 5 * ndS 13 tq + 4 * ndS 13 rq + ndS 13 RM from by first | exact oz_83cb35c84f e422 | omega), (show (0 + n416) + (9804 * ndS 13 tq400 + 342 * ndS 13 rq401 + 36864 * ndS 13 RM408) ≤ 9804 * ndS 13 tq + 342 * ndS 13 rq + 36864 * ndS 13 RM from by first | exact oz_0878d13dda e423 | omega)⟩) d_Ker_serve_162
    · simp only [List.mem_cons, List.not_mem_nil, or_false] at c93
      refine lv_aload_n S.x S.b d_Ker_serve_98 rfl (lv_at hl 2 rfl) ?_
      refine lv_aload_n S.x S.b d_Ker_serve_99 rfl (lv_at hl 3 rfl) ?_
      refine lv_aload_n S.x S.b d_Ker_serve_100 rfl (lv_at hl 3 rfl) ?_
      refine px_get S k_Raw hT hw 4 0 16 (v := .int ((RF ip) 16)) rfl rfl rfl (by decide) m6_161 d_Ker_serve_101 ?_
      have hw : pw D A s.heap _ _ [wd_Ker cs hk kr (fun _ => none) kf ka (gKe pq pz tq rq), fm 13 (fTx cs tq TR TO TF TA), fm 8 (fPp cs pq PV), fm 13 (fRw cs rq RR RM RW RF RA RC)] := frw_back (pr := [wd_Ker cs hk kr (fun _ => none) kf ka (gKe pq pz tq rq), fm 13 (fTx cs tq TR TO TF TA), fm 8 (fPp cs pq PV)]) hw hip hcu.1 hto1
      have hw : pw D A s.heap _ _ [wd_Ker cs hk kr (fun _ => none) kf ka (gKe pq pz tq rq), fm 13 (fTx cs tq TR TO TF TA), fm 13 (fRw cs rq RR RM RW RF RA RC), fm 8 (fPp cs pq PV)] := hw.sub [0, 1, 3, 2] rfl rfl
      refine pg_callv (pr := []) (px_runV (As := [.ref hx, .int ((RF ip) 16)]) (rest := []) S (c_k_move_R l D cs hk kr pq kf PV pz tq rq ka TR TO TF TA RR RM RW RF RA RC ((RF ip) 16) ip hx (show (RF ip 14).toInt = 1 from by first | exact g2 | omega) hki hro hrm hip hcu _ _) hT (pr := []) (pcs := [wd_Ker cs hk kr (fun _ => none) kf ka (gKe pq pz tq rq), fm 13 (fTx cs tq TR TO TF TA), fm 13 (fRw cs rq RR RM RW RF RA RC), fm 8 (fPp cs pq PV)]) hw (px_X.tot px_X.tt) (px_recv hT hw 0 0 rfl rfl rfl) m8_83 m8_80 m8_82 ms_5_11 m1_19 q_Ker_move ⟨Nat.le_of_ble_eq_true rfl, Nat.le_of_ble_eq_true rfl⟩ hl.1 rfl (Nat.le_of_ble_eq_true rfl) d_Ker_serve_104 ⟨show 0 + (5 * ndS 13 tq + 4 * ndS 13 rq + ndS 13 RM) ≤ (5 * ndS 13 tq + 4 * ndS 13 rq + ndS 13 RM) from by first | with_reducible rfl | with_reducible assumption | omega, show 0 + (9804 * ndS 13 tq + 342 * ndS 13 rq + 36864 * ndS 13 RM) ≤ (9804 * ndS 13 tq + 342 * ndS 13 rq + 36864 * ndS 13 RM) from by first | with_reducible rfl | with_reducible assumption | omega⟩) hw hA (fun p453 k455 n456 H locs hp453 hw => ?_)
      dsimp only at hp453
      obtain ⟨pz439, tq440, rq441, ka442, TR443, TO444, TF445, TA446, RR447, RM448, RW449, RF450, RA451, RC452, rfl, e457, e458, e459, e460, e461, e462⟩ := hp453
      replace e457 : CuR pq PV rq441 RW449 ip hx := e457
      obtain ⟨j463, hp463, hj463, hjq463, hto463⟩ := e457.2
      replace e458 : KnI pq PV pz439 tq440 rq441 TO444 TF445 TA446 RW449 RF450 := e458
      have hki := e458
      replace e459 : RoI ka442 := e459
      have hro := e459
      replace e460 : RmI rq441 RM448 := e460
      have hrm := e460
      replace e461 : k455 + (5 * ndS 13 tq440 + 4 * ndS 13 rq441 + ndS 13 RM448) ≤ 5 * ndS 13 tq + 4 * ndS 13 rq + ndS 13 RM := e461
      replace e462 : n456 + (9804 * ndS 13 tq440 + 342 * ndS 13 rq441 + 36864 * ndS 13 RM448) ≤ 9804 * ndS 13 tq + 342 * ndS 13 rq + 36864 * ndS 13 RM := e462
      replace hw : pw D A s.heap H locs [wd_Ker cs hk kr (fun _ => none) kf ka442 (gKe pq pz439 tq440 rq441), fm 13 (fTx cs tq440 TR443 TO444 TF445 TA446), fm 13 (fRw cs rq441 RR447 RM448 RW449 RF450 RA451 RC452), fm 8 (fPp cs pq PV)] := hw
      refine lv_iconst (v := 1) S.x S.b d_Ker_serve_107 (by decide) ?_
      exact pg_iret (v := 1) S hr rfl hlk hAe hw (show (0 + k455) ≤ (5 * ndS 13 tq + 4 * ndS 13 rq + ndS 13 RM) from by first | exact oz_c18bd8c19e e461 | omega) (show (0 + n456) ≤ (9804 * ndS 13 tq + 342 * ndS 13 rq + 36864 * ndS 13 RM) from by first | exact oz_a5e7637f35 e462 | omega) (⟨pz439, tq440, rq441, ka442, TR443, TO444, TF445, TA446, RR447, RM448, RW449, RF450, RA451, RC452, rfl, (show (1 : Int32) = 0 ∨ (1 : Int32) = 1 from by first | exact Or.inl rfl | exact Or.inr rfl | exact z_or (by omega)), (show CuR pq PV rq441 RW449 ip hx from e457), (show KnI pq PV pz439 tq440 rq441 TO444 TF445 TA446 RW449 RF450 from hki), (show RoI ka442 from hro), (show RmI rq441 RM448 from hrm), (show (0 + k455) + (5 * ndS 13 tq440 + 4 * ndS 13 rq441 + ndS 13 RM448) ≤ 5 * ndS 13 tq + 4 * ndS 13 rq + ndS 13 RM from by first | exact oz_83cb35c84f e461 | omega), (show (0 + n456) + (9804 * ndS 13 tq440 + 342 * ndS 13 rq441 + 36864 * ndS 13 RM448) ≤ 9804 * ndS 13 tq + 342 * ndS 13 rq + 36864 * ndS 13 RM from by first | exact oz_0878d13dda e462 | omega)⟩) d_Ker_serve_108
    · simp only [List.mem_cons, List.not_mem_nil, or_false] at c93
      refine lv_aload_n S.x S.b d_Ker_serve_109 rfl (lv_at hl 3 rfl) ?_
      refine lv_iconst (v := 1) S.x S.b d_Ker_serve_110 (by decide) ?_
      refine lv_aload_n S.x S.b d_Ker_serve_111 rfl (lv_at hl 3 rfl) ?_
      refine px_get S k_Raw hT hw 4 0 16 (v := .int ((RF ip) 16)) rfl rfl rfl (by decide) m6_161 d_Ker_serve_112 ?_
      have hw : pw D A s.heap _ _ [wd_Ker cs hk kr (fun _ => none) kf ka (gKe pq pz tq rq), fm 13 (fTx cs tq TR TO TF TA), fm 8 (fPp cs pq PV), fo 13 (fRw cs rq RR RM RW RF RA RC) ip, nA cs (RM ip) 36864 (RC ip), wd_Raw cs hx (RR ip) (fun k => if k = 2 then (RM ip) else if k = 4 then (some ((PV j1).r 1)) else none) (RF ip) (RA ip) (fun _ _ => none)] := hw.sub [0, 1, 2, 3, 5, 4] rfl rfl
      refine px_callv (pr := [wd_Ker cs hk kr (fun _ => none) kf ka (gKe pq pz tq rq), fm 13 (fTx cs tq TR TO TF TA), fm 8 (fPp cs pq PV), fo 13 (fRw cs rq RR RM RW RF RA RC) ip, nA cs (RM ip) 36864 (RC ip)]) (px_runU (As := [.int 1, .int ((RF ip) 16)]) (rest := []) S (c_finish_Raw l D cs hx (RR ip) (fun _ _ => none) (RM ip) (some ((PV j1).r 1)) (RF ip) (RA ip) 1 ((RF ip) 16)   _) hT (pr := [wd_Ker cs hk kr (fun _ => none) kf ka (gKe pq pz tq rq), fm 13 (fTx cs tq TR TO TF TA), fm 8 (fPp cs pq PV), fo 13 (fRw cs rq RR RM RW RF RA RC) ip, nA cs (RM ip) 36864 (RC ip)]) (pcs := [wd_Raw cs hx (RR ip) (fun k => if k = 2 then (RM ip) else if k = 4 then (some ((PV j1).r 1)) else none) (RF ip) (RA ip) (fun _ _ => none)]) hw px_X.tt (C := "HomeSystem$RawProcess") (x := ⟨"HomeSystem$AnyProcess", "finish", "(II)V"⟩) (px_recv hT hw 5 0 rfl rfl rfl) m8_89 m8_84 m8_86 m8_85 m8_87 m1_33 rfl q_HomeSystem_AnyProcess_finish ⟨Nat.le_of_ble_eq_true rfl, Nat.le_of_ble_eq_true rfl⟩ hl.1 rfl (Nat.le_of_ble_eq_true rfl) d_Ker_serve_115 ⟨show 0 + 0 ≤ (5 * ndS 13 tq + 4 * ndS 13 rq + ndS 13 RM) from by first | with_reducible rfl | with_reducible assumption | omega, show 0 + 0 ≤ (9804 * ndS 13 tq + 342 * ndS 13 rq + 36864 * ndS 13 RM) from by first | with_reducible rfl | with_reducible assumption | omega⟩) hw hA (fun p466 H locs hp466 hw => ?_)
      obtain ⟨f464, a465, rfl, e468, e469, e470, e471, e472, e473, e474⟩ := hp466
      replace e468 : (f464 3).toInt = ((RF ip) 3).toInt := e468
      replace e469 : (f464 7).toInt = ((RF ip) 7).toInt := e469
      replace e470 : (f464 8).toInt = ((RF ip) 8).toInt := e470
      replace e471 : (f464 10).toInt = ((RF ip) 10).toInt := e471
      replace e472 : (f464 13).toInt = ((RF ip) 13).toInt := e472
      replace e473 : (f464 14).toInt = 0 := e473
      replace e474 : (f464 11).toInt = (1 : Int) := e474
      replace hw : pw D A s.heap H locs [wd_Ker cs hk kr (fun _ => none) kf ka (gKe pq pz tq rq), fm 13 (fTx cs tq TR TO TF TA), fm 8 (fPp cs pq PV), fo 13 (fRw cs rq RR RM RW RF RA RC) ip, nA cs (RM ip) 36864 (RC ip), wd_Raw cs hx (RR ip) (fun k => if k = 2 then (RM ip) else if k = 4 then (some ((PV j1).r 1)) else none) f464 a465 (fun _ _ => none)] := hw
      refine lv_iconst (v := 1) S.x S.b d_Ker_serve_118 (by decide) ?_
      have hw : pw D A s.heap _ _ [wd_Ker cs hk kr (fun _ => none) kf ka (gKe pq pz tq rq), fm 13 (fTx cs tq TR TO TF TA), fm 8 (fPp cs pq PV), fo 13 (fRw cs rq RR RM RW RF RA RC) ip, wd_Raw cs hx (RR ip) (fun k => if k = 2 then (RM ip) else if k = 4 then (some ((PV j1).r 1)) else none) f464 a465 (fun _ _ => none), nA cs (RM ip) 36864 (RC ip)] := hw.sub [0, 1, 2, 3, 5, 4] rfl rfl
      have hw := frw_in0 (pr := [wd_Ker cs hk kr (fun _ => none) kf ka (gKe pq pz tq rq), fm 13 (fTx cs tq TR TO TF TA), fm 8 (fPp cs pq PV)]) hw hip hcu.1 hto1
      obtain ⟨RM475, hu_RM475⟩ : ∃ y : Nat → Option Nat, y = va_up RM ip (RM ip) := ⟨_, rfl⟩
      obtain ⟨RF476, hu_RF476⟩ : ∃ y : Nat → Nat → Int32, y = va_up RF ip f464 := ⟨_, rfl⟩
      obtain ⟨RA477, hu_RA477⟩ : ∃ y : Nat → Nat → Nat → Int32, y = va_up RA ip a465 := ⟨_, rfl⟩
      obtain ⟨RC478, hu_RC478⟩ : ∃ y : Nat → Nat → Int32, y = va_up RC ip (RC ip) := ⟨_, rfl⟩
      have hw : pw D A s.heap _ _ [wd_Ker cs hk kr (fun _ => none) kf ka (gKe pq pz tq rq), fm 13 (fTx cs tq TR TO TF TA), fm 8 (fPp cs pq PV), fm 13 (fRw cs rq RR RM475 RW RF476 RA477 RC478)] := (by rw [hu_RM475, hu_RF476, hu_RA477, hu_RC478]; exact hw)
      have hki : KnI pq PV pz tq rq TO TF TA RW RF476 := (by rw [hu_RF476]; exact hki.upR (show RwN ip f464 from ⟨(show (0 ≤ (f464 7).toInt ∧ (f464 7).toInt ≤ 1600) ∧ (0 ≤ (f464 10).toInt ∧ (f464 10).toInt + (f464 7).toInt ≤ 1600) ∧ ((f464 14).toInt = 0 ∨ (f464 14).toInt = 1) ∧ ((f464 14).toInt = 1 → 1 ≤ (f464 7).toInt) from by first | with_reducible rfl | with_reducible assumption | omega), (show ((f464 8).toInt) = ((ip : Nat) : Int) from by first | with_reducible rfl | with_reducible assumption | omega), (show 0 ≤ (f464 13).toInt ∧ (f464 13).toInt ≤ 3 ∧ ((f464 13).toInt = 0 ∨ 3 * ((ip : Nat) : Int) + (f464 13).toInt ≤ 12) from by first | with_reducible rfl | with_reducible assumption | omega)⟩))
      have hrm : RmI rq RM475 := (by rw [hu_RM475]; exact hrm.up hcu.1)
      have hnd_RM475 := ndS_up 13 RM ip (RM ip) hip; rw [← hu_RM475] at hnd_RM475
      have hz14_RF476 : (RF476 ip 14).toInt = (f464 14).toInt := (by rw [hu_RF476, va_up_s]; try rfl)
      have hw : pw D A s.heap _ _ [wd_Ker cs hk kr (fun _ => none) kf ka (gKe pq pz tq rq), fm 13 (fTx cs tq TR TO TF TA), fm 13 (fRw cs rq RR RM475 RW RF476 RA477 RC478), fm 8 (fPp cs pq PV)] := hw.sub [0, 1, 3, 2] rfl rfl
      exact pg_iret (v := 1) S hr rfl hlk hAe hw (show 0 ≤ (5 * ndS 13 tq + 4 * ndS 13 rq + ndS 13 RM) from by first | exact oz_86e49526c7 | omega) (show 0 ≤ (9804 * ndS 13 tq + 342 * ndS 13 rq + 36864 * ndS 13 RM) from by first | exact oz_fc3b58e969 | omega) (⟨pz, tq, rq, ka, TR, TO, TF, TA, RR, RM475, RW, RF476, RA477, RC478, rfl, (show (1 : Int32) = 0 ∨ (1 : Int32) = 1 from by first | exact Or.inl rfl | exact Or.inr rfl | exact z_or (by omega)), (show CuR pq PV rq RW ip hx from hcu), (show KnI pq PV pz tq rq TO TF TA RW RF476 from hki), (show RoI ka from hro), (show RmI rq RM475 from hrm), (show 0 + (5 * ndS 13 tq + 4 * ndS 13 rq + ndS 13 RM475) ≤ 5 * ndS 13 tq + 4 * ndS 13 rq + ndS 13 RM from by first | with_reducible rfl | with_reducible assumption | omega), (show 0 + (9804 * ndS 13 tq + 342 * ndS 13 rq + 36864 * ndS 13 RM475) ≤ 9804 * ndS 13 tq + 342 * ndS 13 rq + 36864 * ndS 13 RM from by first | with_reducible rfl | with_reducible assumption | omega)⟩) d_Ker_serve_119
abbrev b_Ker_advance : ByteArray := prog_4_method_5_code
def y_Ker_advance : MethodName := ⟨"HomeSystem$Kernel", "advance", "(LHomeSystem$AnyProcess;)Z"⟩
theorem d_Ker_advance_0 : decode b_Ker_advance 0 = .ok (.iconst 0, 1) := by decide +kernel
theorem d_Ker_advance_1 : decode b_Ker_advance 1 = .ok (.istore_n 2, 1) := by decide +kernel
theorem d_Ker_advance_2 : decode b_Ker_advance 2 = .ok (.aload_n 1, 1) := by decide +kernel
theorem d_Ker_advance_3 : decode b_Ker_advance 3 = .ok (.ifnull 16, 3) := by decide +kernel
theorem d_Ker_advance_6 : decode b_Ker_advance 6 = .ok (.aload_n 1, 1) := by decide +kernel
theorem d_Ker_advance_7 : decode b_Ker_advance 7 = .ok (.getfield 78, 3) := by decide +kernel
theorem d_Ker_advance_10 : decode b_Ker_advance 10 = .ok (.bipush (-2), 2) := by decide +kernel
theorem d_Ker_advance_12 : decode b_Ker_advance 12 = .ok (.if_icmp .ne 7, 3) := by decide +kernel
theorem d_Ker_advance_15 : decode b_Ker_advance 15 = .ok (.iconst 1, 1) := by decide +kernel
theorem d_Ker_advance_16 : decode b_Ker_advance 16 = .ok (.goto 4, 3) := by decide +kernel
theorem d_Ker_advance_19 : decode b_Ker_advance 19 = .ok (.iconst 0, 1) := by decide +kernel
theorem d_Ker_advance_20 : decode b_Ker_advance 20 = .ok (.istore_n 3, 1) := by decide +kernel
theorem d_Ker_advance_21 : decode b_Ker_advance 21 = .ok (.iconst 0, 1) := by decide +kernel
theorem d_Ker_advance_22 : decode b_Ker_advance 22 = .ok (.istore 4, 2) := by decide +kernel
theorem d_Ker_advance_24 : decode b_Ker_advance 24 = .ok (.iload 4, 2) := by decide +kernel
theorem d_Ker_advance_26 : decode b_Ker_advance 26 = .ok (.ldc 65, 2) := by decide +kernel
theorem d_Ker_advance_28 : decode b_Ker_advance 28 = .ok (.if_icmp .ge 54, 3) := by decide +kernel
theorem d_Ker_advance_31 : decode b_Ker_advance 31 = .ok (.iload_n 3, 1) := by decide +kernel
theorem d_Ker_advance_32 : decode b_Ker_advance 32 = .ok (.ifCond .eq 50, 3) := by decide +kernel
theorem d_Ker_advance_35 : decode b_Ker_advance 35 = .ok (.aload_n 1, 1) := by decide +kernel
theorem d_Ker_advance_36 : decode b_Ker_advance 36 = .ok (.getfield 92, 3) := by decide +kernel
theorem d_Ker_advance_39 : decode b_Ker_advance 39 = .ok (.ifCond .eq 16, 3) := by decide +kernel
theorem d_Ker_advance_42 : decode b_Ker_advance 42 = .ok (.aload_n 0, 1) := by decide +kernel
theorem d_Ker_advance_43 : decode b_Ker_advance 43 = .ok (.aload_n 1, 1) := by decide +kernel
theorem d_Ker_advance_44 : decode b_Ker_advance 44 = .ok (.invokevirtual 95, 3) := by decide +kernel
theorem d_Ker_advance_47 : decode b_Ker_advance 47 = .ok (.ifCond .ne 8, 3) := by decide +kernel
theorem d_Ker_advance_50 : decode b_Ker_advance 50 = .ok (.iconst 0, 1) := by decide +kernel
theorem d_Ker_advance_51 : decode b_Ker_advance 51 = .ok (.istore_n 3, 1) := by decide +kernel
theorem d_Ker_advance_52 : decode b_Ker_advance 52 = .ok (.goto 24, 3) := by decide +kernel
theorem d_Ker_advance_55 : decode b_Ker_advance 55 = .ok (.iconst 1, 1) := by decide +kernel
theorem d_Ker_advance_56 : decode b_Ker_advance 56 = .ok (.istore_n 2, 1) := by decide +kernel
theorem d_Ker_advance_57 : decode b_Ker_advance 57 = .ok (.aload_n 1, 1) := by decide +kernel
theorem d_Ker_advance_58 : decode b_Ker_advance 58 = .ok (.invokevirtual 98, 3) := by decide +kernel
theorem d_Ker_advance_61 : decode b_Ker_advance 61 = .ok (.aload_n 1, 1) := by decide +kernel
theorem d_Ker_advance_62 : decode b_Ker_advance 62 = .ok (.getfield 78, 3) := by decide +kernel
theorem d_Ker_advance_65 : decode b_Ker_advance 65 = .ok (.bipush (-2), 2) := by decide +kernel
theorem d_Ker_advance_67 : decode b_Ker_advance 67 = .ok (.if_icmp .ne 7, 3) := by decide +kernel
theorem d_Ker_advance_70 : decode b_Ker_advance 70 = .ok (.iconst 1, 1) := by decide +kernel
theorem d_Ker_advance_71 : decode b_Ker_advance 71 = .ok (.goto 4, 3) := by decide +kernel
theorem d_Ker_advance_74 : decode b_Ker_advance 74 = .ok (.iconst 0, 1) := by decide +kernel
theorem d_Ker_advance_75 : decode b_Ker_advance 75 = .ok (.istore_n 3, 1) := by decide +kernel
theorem d_Ker_advance_76 : decode b_Ker_advance 76 = .ok (.iinc 4 1, 3) := by decide +kernel
theorem d_Ker_advance_79 : decode b_Ker_advance 79 = .ok (.goto (-55), 3) := by decide +kernel
theorem d_Ker_advance_82 : decode b_Ker_advance 82 = .ok (.iload_n 2, 1) := by decide +kernel
theorem d_Ker_advance_83 : decode b_Ker_advance 83 = .ok (.ireturn, 1) := by decide +kernel
theorem q_Ker_advance : px_y y_Ker_advance 1 := by unfold px_y; decide +kernel
set_option maxHeartbeats 4000000 in
set_option maxRecDepth 100000 in
theorem c_k_advance_T (l : Launch) (D : va_G) (cs : Nat → ClassId) (hk : Nat) (kr : Nat → Nat) (pq : Nat → Option Nat) (kf : Nat → Int32) (PV : Nat → Pvs) (pz : Nat → Option Nat) (tq : Nat → Option Nat) (rq : Nat → Option Nat) (ka : Nat → Nat → Int32) (TR : Nat → Nat → Nat) (TO : Nat → Option Nat) (TF : Nat → Nat → Int32) (TA : Nat → Nat → Nat → Int32) (RR : Nat → Nat → Nat) (RM : Nat → Option Nat) (RW : Nat → Option Nat) (RF : Nat → Nat → Int32) (RA : Nat → Nat → Nat → Int32) (RC : Nat → Nat → Int32) (ip hx : Nat) (g0 : 0 ≤ (kf 8).toInt) (g1 : (kf 8).toInt ≤ 100) (hki : KnI pq PV pz tq rq TO TF TA RW RF) (hro : RoI ka) (hrm : RmI rq RM) (hip : ip < 13) (hcu : CuT pq PV tq TO ip hx) : MgI l y_Ker_advance b_Ker_advance 5 (.boolean) D cs 10 420 ((5 * ndS 13 tq + 4 * ndS 13 rq + ndS 13 RM)) ((9804 * ndS 13 tq + 342 * ndS 13 rq + 36864 * ndS 13 RM)) [.ref hk, .ref hx] [wd_Ker cs hk kr (fun _ => none) kf ka (gKe pq pz tq rq), fm 13 (fTx cs tq TR TO TF TA), fm 13 (fRw cs rq RR RM RW RF RA RC), fm 8 (fPp cs pq PV)] (fun _ => True) (fun v ps => ∃ (pz' : Nat → Option Nat) (tq' : Nat → Option Nat) (rq' : Nat → Option Nat) (ka' : Nat → Nat → Int32) (TR' : Nat → Nat → Nat) (TO' : Nat → Option Nat) (TF' : Nat → Nat → Int32) (TA' : Nat → Nat → Nat → Int32) (RR' : Nat → Nat → Nat) (RM' : Nat → Option Nat) (RW' : Nat → Option Nat) (RF' : Nat → Nat → Int32) (RA' : Nat → Nat → Nat → Int32) (RC' : Nat → Nat → Int32), (ps.1 = [wd_Ker cs hk kr (fun _ => none) kf ka' (gKe pq pz' tq' rq'), fm 13 (fTx cs tq' TR' TO' TF' TA'), fm 13 (fRw cs rq' RR' RM' RW' RF' RA' RC'), fm 8 (fPp cs pq PV)]) ∧ (v = 0 ∨ v = 1) ∧ (KnI pq PV pz' tq' rq' TO' TF' TA' RW' RF') ∧ (RoI ka') ∧ (RmI rq' RM') ∧ (ps.2.1 + (5 * ndS 13 tq' + 4 * ndS 13 rq' + ndS 13 RM') ≤ 5 * ndS 13 tq + 4 * ndS 13 rq + ndS 13 RM) ∧ (ps.2.2 + (9804 * ndS 13 tq' + 342 * ndS 13 rq' + 36864 * ndS 13 RM') ≤ 9804 * ndS 13 tq + 342 * ndS 13 rq + 36864 * ndS 13 RM)) := by
  refine pg_enter (by decide) (Nat.le_of_ble_eq_true rfl) ?_
  intro p e s m below meth c A ls hAe S hr hlk hnm hA hT hX hw hl
  replace hl : lv_has ls 5 [(0, .ref hk), (1, .ref hx)] := hl
  have cstm2 : ((-2) : Int32).toInt = (-2) := rfl
  have cst0 : (0 : Int32).toInt = 0 := rfl
  have cst1 : (1 : Int32).toInt = 1 := rfl
  have J24 : ∀ (n_24 : Nat) (ce_24 sl_24 : Nat) (pz_24 : Nat → Option Nat) (tq_24 : Nat → Option Nat) (rq_24 : Nat → Option Nat) (ka_24 : Nat → Nat → Int32) (TR_24 : Nat → Nat → Nat) (TO_24 : Nat → Option Nat) (TF_24 : Nat → Nat → Int32) (TA_24 : Nat → Nat → Nat → Int32) (RR_24 : Nat → Nat → Nat) (RM_24 : Nat → Option Nat) (RW_24 : Nat → Option Nat) (RF_24 : Nat → Nat → Int32) (RA_24 : Nat → Nat → Nat → Int32) (RC_24 : Nat → Nat → Int32) (x24_2 x24_3 x24_4 : Int32) (H : Heap) (locs : List Loc) (ls : Array Slot), (KnI pq PV pz_24 tq_24 rq_24 TO_24 TF_24 TA_24 RW_24 RF_24) → (RoI ka_24) → (RmI rq_24 RM_24) → (CuT pq PV tq_24 TO_24 ip hx) → (0 ≤ x24_2.toInt) → (x24_2.toInt ≤ 1) → (0 ≤ x24_3.toInt) → (x24_3.toInt ≤ 1) → (0 ≤ x24_4.toInt) → (x24_4.toInt ≤ 1000000) → (ce_24 + (5 * ndS 13 tq_24 + 4 * ndS 13 rq_24 + ndS 13 RM_24) ≤ 5 * ndS 13 tq + 4 * ndS 13 rq + ndS 13 RM) → (sl_24 + (9804 * ndS 13 tq_24 + 342 * ndS 13 rq_24 + 36864 * ndS 13 RM_24) ≤ 9804 * ndS 13 tq + 342 * ndS 13 rq + 36864 * ndS 13 RM) → 1000000 - x24_4.toInt < (n_24 : Int) → pw D A s.heap H locs [wd_Ker cs hk kr (fun _ => none) kf ka_24 (gKe pq pz_24 tq_24 rq_24), fm 13 (fTx cs tq_24 TR_24 TO_24 TF_24 TA_24), fm 13 (fRw cs rq_24 RR_24 RM_24 RW_24 RF_24 RA_24 RC_24), fm 8 (fPp cs pq PV)] → lv_has ls 5 [(0, .ref hk), (1, .ref hx), (2, .int x24_2), (3, .int x24_3), (4, .int x24_4)] → W p l e { frames := 10, cells := (5 * ndS 13 tq + 4 * ndS 13 rq + ndS 13 RM), slots := (9804 * ndS 13 tq + 342 * ndS 13 rq + 36864 * ndS 13 RM), locals := 420 } s m [.ref hk, .ref hx].toArray below meth c H locs ce_24 sl_24 (MQ below (va_Qi (fun v ps => ∃ (pz' : Nat → Option Nat) (tq' : Nat → Option Nat) (rq' : Nat → Option Nat) (ka' : Nat → Nat → Int32) (TR' : Nat → Nat → Nat) (TO' : Nat → Option Nat) (TF' : Nat → Nat → Int32) (TA' : Nat → Nat → Nat → Int32) (RR' : Nat → Nat → Nat) (RM' : Nat → Option Nat) (RW' : Nat → Option Nat) (RF' : Nat → Nat → Int32) (RA' : Nat → Nat → Nat → Int32) (RC' : Nat → Nat → Int32), (ps.1 = [wd_Ker cs hk kr (fun _ => none) kf ka' (gKe pq pz' tq' rq'), fm 13 (fTx cs tq' TR' TO' TF' TA'), fm 13 (fRw cs rq' RR' RM' RW' RF' RA' RC'), fm 8 (fPp cs pq PV)]) ∧ (v = 0 ∨ v = 1) ∧ (KnI pq PV pz' tq' rq' TO' TF' TA' RW' RF') ∧ (RoI ka') ∧ (RmI rq' RM') ∧ (ps.2.1 + (5 * ndS 13 tq' + 4 * ndS 13 rq' + ndS 13 RM') ≤ 5 * ndS 13 tq + 4 * ndS 13 rq + ndS 13 RM) ∧ (ps.2.2 + (9804 * ndS 13 tq' + 342 * ndS 13 rq' + 36864 * ndS 13 RM') ≤ 9804 * ndS 13 tq + 342 * ndS 13 rq + 36864 * ndS 13 RM)) (pg_B D (va_A ([wd_Ker cs hk kr (fun _ => none) kf ka (gKe pq pz tq rq), fm 13 (fTx cs tq TR TO TF TA), fm 13 (fRw cs rq RR RM RW RF RA RC), fm 8 (fPp cs pq PV)] : List va_W).flatten s.heap.size) s.heap.size (tot s.heap)) (va_A ([wd_Ker cs hk kr (fun _ => none) kf ka (gKe pq pz tq rq), fm 13 (fTx cs tq TR TO TF TA), fm 13 (fRw cs rq RR RM RW RF RA RC), fm 8 (fPp cs pq PV)] : List va_W).flatten s.heap.size)) [.ref hk, .ref hx].toArray s (5 * ndS 13 tq + 4 * ndS 13 rq + ndS 13 RM) (9804 * ndS 13 tq + 342 * ndS 13 rq + 36864 * ndS 13 RM) A) (F0 m 24 ls []) := by
    intro  n_24
    induction n_24 with
    | zero =>
      intro ce_24 sl_24 pz_24 tq_24 rq_24 ka_24 TR_24 TO_24 TF_24 TA_24 RR_24 RM_24 RW_24 RF_24 RA_24 RC_24 x24_2 x24_3 x24_4 H locs ls k24_0 k24_1 k24_2 k24_3 k24_4 k24_5 k24_6 k24_7 k24_8 k24_9 k24_10 k24_11 hm hw hl
      have lx24_2 := Int32.le_toInt x24_2
      have ux24_2 := Int32.toInt_lt x24_2
      have lx24_3 := Int32.le_toInt x24_3
      have ux24_3 := Int32.toInt_lt x24_3
      have lx24_4 := Int32.le_toInt x24_4
      have ux24_4 := Int32.toInt_lt x24_4
      have hki := k24_0
      have hro := k24_1
      have hrm := k24_2
      obtain ⟨j1, hp1, hj1, hjq1, hto1, hf01⟩ := k24_3.2
      exact absurd hm (by omega)
    | succ n_24 ih24 =>
      intro ce_24 sl_24 pz_24 tq_24 rq_24 ka_24 TR_24 TO_24 TF_24 TA_24 RR_24 RM_24 RW_24 RF_24 RA_24 RC_24 x24_2 x24_3 x24_4 H locs ls k24_0 k24_1 k24_2 k24_3 k24_4 k24_5 k24_6 k24_7 k24_8 k24_9 k24_10 k24_11 hm hw hl
      have lx24_2 := Int32.le_toInt x24_2
      have ux24_2 := Int32.toInt_lt x24_2
      have lx24_3 := Int32.le_toInt x24_3
      have ux24_3 := Int32.toInt_lt x24_3
      have lx24_4 := Int32.le_toInt x24_4
      have ux24_4 := Int32.toInt_lt x24_4
      have hki := k24_0
      have hro := k24_1
      have hrm := k24_2
      obtain ⟨j2, hp2, hj2, hjq2, hto2, hf02⟩ := k24_3.2
      refine lv_iload S.x S.b d_Ker_advance_24 (lv_at hl 4 rfl) ?_
      refine lv_ldc (v := 1000000) S.x S.b S.own (S.w m8_48) d_Ker_advance_26 ?_
      refine lv_icmp_ge (tgt := 82) S.x S.b d_Ker_advance_28 (by decide) (fun c3 => ?_) (fun c3 => ?_)
      · have nc3 : (1000000 : Int) ≤ x24_4.toInt := (i_le (x := 1000000) (y := x24_4)).mp c3
        refine lv_iload_n S.x S.b d_Ker_advance_82 rfl (lv_at hl 2 rfl) ?_
        exact pg_iret (v := x24_2) S hr (z_nar (by omega)) hlk hAe hw (show ce_24 ≤ (5 * ndS 13 tq + 4 * ndS 13 rq + ndS 13 RM) from by first | exact oz_dca5c4e7e4 k24_10 | omega) (show sl_24 ≤ (9804 * ndS 13 tq + 342 * ndS 13 rq + 36864 * ndS 13 RM) from by first | exact oz_f7eb847e67 k24_11 | omega) (⟨pz_24, tq_24, rq_24, ka_24, TR_24, TO_24, TF_24, TA_24, RR_24, RM_24, RW_24, RF_24, RA_24, RC_24, rfl, (show x24_2 = 0 ∨ x24_2 = 1 from by first | exact Or.inl rfl | exact Or.inr rfl | exact z_or (by omega)), (show KnI pq PV pz_24 tq_24 rq_24 TO_24 TF_24 TA_24 RW_24 RF_24 from hki), (show RoI ka_24 from hro), (show RmI rq_24 RM_24 from hrm), (show ce_24 + (5 * ndS 13 tq_24 + 4 * ndS 13 rq_24 + ndS 13 RM_24) ≤ 5 * ndS 13 tq + 4 * ndS 13 rq + ndS 13 RM from by first | exact k24_10 | omega), (show sl_24 + (9804 * ndS 13 tq_24 + 342 * ndS 13 rq_24 + 36864 * ndS 13 RM_24) ≤ 9804 * ndS 13 tq + 342 * ndS 13 rq + 36864 * ndS 13 RM from by first | exact k24_11 | omega)⟩) d_Ker_advance_83
      · have nc3 : ¬ (1000000 : Int) ≤ x24_4.toInt := mt (i_le (x := 1000000) (y := x24_4)).mpr c3
        refine lv_iload_n S.x S.b d_Ker_advance_31 rfl (lv_at hl 3 rfl) ?_
        refine lv_if_eq (tgt := 82) S.x S.b d_Ker_advance_32 (by decide) (fun c4 => ?_) (fun c4 => ?_)
        · have nc4 : x24_3.toInt = (0 : Int) := (i_eq (x := x24_3) (y := 0)).mp c4
          refine lv_iload_n S.x S.b d_Ker_advance_82 rfl (lv_at hl 2 rfl) ?_
          exact pg_iret (v := x24_2) S hr (z_nar (by omega)) hlk hAe hw (show ce_24 ≤ (5 * ndS 13 tq + 4 * ndS 13 rq + ndS 13 RM) from by first | exact oz_dca5c4e7e4 k24_10 | omega) (show sl_24 ≤ (9804 * ndS 13 tq + 342 * ndS 13 rq + 36864 * ndS 13 RM) from by first | exact oz_f7eb847e67 k24_11 | omega) (⟨pz_24, tq_24, rq_24, ka_24, TR_24, TO_24, TF_24, TA_24, RR_24, RM_24, RW_24, RF_24, RA_24, RC_24, rfl, (show x24_2 = 0 ∨ x24_2 = 1 from by first | exact Or.inl rfl | exact Or.inr rfl | exact z_or (by omega)), (show KnI pq PV pz_24 tq_24 rq_24 TO_24 TF_24 TA_24 RW_24 RF_24 from hki), (show RoI ka_24 from hro), (show RmI rq_24 RM_24 from hrm), (show ce_24 + (5 * ndS 13 tq_24 + 4 * ndS 13 rq_24 + ndS 13 RM_24) ≤ 5 * ndS 13 tq + 4 * ndS 13 rq + ndS 13 RM from by first | exact k24_10 | omega), (show sl_24 + (9804 * ndS 13 tq_24 + 342 * ndS 13 rq_24 + 36864 * ndS 13 RM_24) ≤ 9804 * ndS 13 tq + 342 * ndS 13 rq + 36864 * ndS 13 RM from by first | exact k24_11 | omega)⟩) d_Ker_advance_83
        · have nc4 : ¬ x24_3.toInt = (0 : Int) := mt (i_eq (x := x24_3) (y := 0)).mpr c4
          refine lv_aload_n S.x S.b d_Ker_advance_35 rfl (lv_at hl 1 rfl) ?_
          have hw : pw D A s.heap _ _ [wd_Ker cs hk kr (fun _ => none) kf ka_24 (gKe pq pz_24 tq_24 rq_24), fm 13 (fRw cs rq_24 RR_24 RM_24 RW_24 RF_24 RA_24 RC_24), fm 8 (fPp cs pq PV), fm 13 (fTx cs tq_24 TR_24 TO_24 TF_24 TA_24)] := hw.sub [0, 2, 3, 1] rfl rfl
          have hw : pw D A s.heap _ _ [wd_Ker cs hk kr (fun _ => none) kf ka_24 (gKe pq pz_24 tq_24 rq_24), fm 13 (fRw cs rq_24 RR_24 RM_24 RW_24 RF_24 RA_24 RC_24), fm 8 (fPp cs pq PV), fo 13 (fTx cs tq_24 TR_24 TO_24 TF_24 TA_24) ip, wd_Txp cs hx (TR_24 ip) (fun k => if k = 3 then (some hp2) else none) (TF_24 ip) (TA_24 ip) (fun _ _ => none)] := ftx_out (pr := [wd_Ker cs hk kr (fun _ => none) kf ka_24 (gKe pq pz_24 tq_24 rq_24), fm 13 (fRw cs rq_24 RR_24 RM_24 RW_24 RF_24 RA_24 RC_24), fm 8 (fPp cs pq PV)]) hw hip k24_3.1 hto2
          have htn5 : TxN ip (TF_24 ip) (TA_24 ip) := hki.2.1 ip hip _ k24_3.1
          obtain ⟨lk, ⟨i2, i3⟩, ⟨i4, i5⟩, ⟨i6, i7⟩, i8, ⟨i9, i11⟩, i10, hrt⟩ := htn5.1
          have hid5 := htn5.2.1
          have hch5 := htn5.2.2
          unfold KcI at hch5
          refine px_get S k_Txp hT hw 4 0 21 (v := .int ((TF_24 ip) 21)) rfl rfl rfl (by decide) m6_155 d_Ker_advance_36 ?_
          refine lv_if_eq (tgt := 55) S.x S.b d_Ker_advance_39 (by decide) (fun c6 => ?_) (fun c6 => ?_)
          · have nc6 : ((TF_24 ip) 21).toInt = (0 : Int) := (i_eq (x := ((TF_24 ip) 21)) (y := 0)).mp c6
            refine lv_iconst (v := 1) S.x S.b d_Ker_advance_55 (by decide) ?_
            refine lv_istore_n (lv' := [(2, .int 1), (0, .ref hk), (1, .ref hx), (3, .int x24_3), (4, .int x24_4)]) S.x S.b d_Ker_advance_56 rfl hl (by decide) rfl (fun ls hl => ?_)
            refine lv_aload_n S.x S.b d_Ker_advance_57 rfl (lv_at hl 2 rfl) ?_
            have hw : pw D A s.heap _ _ [wd_Ker cs hk kr (fun _ => none) kf ka_24 (gKe pq pz_24 tq_24 rq_24), fm 13 (fRw cs rq_24 RR_24 RM_24 RW_24 RF_24 RA_24 RC_24), fo 13 (fTx cs tq_24 TR_24 TO_24 TF_24 TA_24) ip, wd_Txp cs hx (TR_24 ip) (fun k => if k = 3 then (some hp2) else none) (TF_24 ip) (TA_24 ip) (fun _ _ => none), fm 8 (fPp cs pq PV)] := hw.sub [0, 1, 3, 4, 2] rfl rfl
            have hw : pw D A s.heap _ _ [wd_Ker cs hk kr (fun _ => none) kf ka_24 (gKe pq pz_24 tq_24 rq_24), fm 13 (fRw cs rq_24 RR_24 RM_24 RW_24 RF_24 RA_24 RC_24), fo 13 (fTx cs tq_24 TR_24 TO_24 TF_24 TA_24) ip, wd_Txp cs hx (TR_24 ip) (fun k => if k = 3 then (some hp2) else none) (TF_24 ip) (TA_24 ip) (fun _ _ => none), fo 8 (fPp cs pq PV) j2, wd_Prg cs hp2 (PV j2).r (fun k => if k = 2 then (PV j2).o else none) (PV j2).f (fun _ _ => 0) (fun _ _ => none), nA cs (PV j2).o (PV j2).fn (PV j2).fd, [(((PV j2).r 1), .inl (cs 0, (PV j2).cn, .inl (PV j2).cd))]] := fpp_out (pr := [wd_Ker cs hk kr (fun _ => none) kf ka_24 (gKe pq pz_24 tq_24 rq_24), fm 13 (fRw cs rq_24 RR_24 RM_24 RW_24 RF_24 RA_24 RC_24), fo 13 (fTx cs tq_24 TR_24 TO_24 TF_24 TA_24) ip, wd_Txp cs hx (TR_24 ip) (fun k => if k = 3 then (some hp2) else none) (TF_24 ip) (TA_24 ip) (fun _ _ => none)]) hw hj2 hjq2
            have hpv7 := hki.1 j2 hj2 _ hjq2
            have hpn7 := hpv7.1
            have hpz7 := hpv7.2.1
            have hcf := hpv7.2.2 (by omega); have hcd := hcf.1; have hfd := hcf.2.1
            have hw : pw D A s.heap _ _ [wd_Ker cs hk kr (fun _ => none) kf ka_24 (gKe pq pz_24 tq_24 rq_24), fm 13 (fRw cs rq_24 RR_24 RM_24 RW_24 RF_24 RA_24 RC_24), fo 13 (fTx cs tq_24 TR_24 TO_24 TF_24 TA_24) ip, fo 8 (fPp cs pq PV) j2, wd_Txp cs hx (TR_24 ip) (fun k => if k = 3 then (some hp2) else none) (TF_24 ip) (TA_24 ip) (fun _ _ => none), wd_Prg cs hp2 (PV j2).r (fun k => if k = 2 then (PV j2).o else none) (PV j2).f (fun _ _ => 0) (fun _ _ => none), nA cs (PV j2).o (PV j2).fn (PV j2).fd, [(((PV j2).r 1), .inl (cs 0, (PV j2).cn, .inl (PV j2).cd))]] := hw.sub [0, 1, 2, 4, 3, 5, 6, 7] rfl rfl
            refine px_callv (pr := [wd_Ker cs hk kr (fun _ => none) kf ka_24 (gKe pq pz_24 tq_24 rq_24), fm 13 (fRw cs rq_24 RR_24 RM_24 RW_24 RF_24 RA_24 RC_24), fo 13 (fTx cs tq_24 TR_24 TO_24 TF_24 TA_24) ip, fo 8 (fPp cs pq PV) j2]) (px_runA (As := []) (rest := []) S (c_Txp_go l D cs hx (TR_24 ip) (fun _ _ => none) hp2 (TF_24 ip) (TA_24 ip) (PV j2).r (PV j2).o (PV j2).f (PV j2).fn (PV j2).fd (PV j2).cn (PV j2).cd   (show TxOk ((TF_24 ip) 4) ((TF_24 ip) 5) ((TF_24 ip) 8) ((TF_24 ip) 9) ((TF_24 ip) 17) ((TF_24 ip) 21) ((TA_24 ip) 2) from ⟨(by first | exact lk | exact lk_eq lk (by omega) | exact lk_mk (by omega)), ⟨by omega, by omega⟩, ⟨by omega, by omega⟩, ⟨by omega, by omega⟩, by omega, ⟨by first | exact oz_4f50ab301a nc6 | omega, by first | exact oz_92ea0ac9cc nc6 | omega⟩, by omega, hrt⟩) (show (PV j2).fn ≤ 1000000 from by first | with_reducible rfl | with_reducible assumption | omega) (show (PV j2).cn ≤ 100000 from by first | with_reducible rfl | with_reducible assumption | omega) hfd hcd _) hT (pr := [wd_Ker cs hk kr (fun _ => none) kf ka_24 (gKe pq pz_24 tq_24 rq_24), fm 13 (fRw cs rq_24 RR_24 RM_24 RW_24 RF_24 RA_24 RC_24), fo 13 (fTx cs tq_24 TR_24 TO_24 TF_24 TA_24) ip, fo 8 (fPp cs pq PV) j2]) (pcs := [wd_Txp cs hx (TR_24 ip) (fun k => if k = 3 then (some hp2) else none) (TF_24 ip) (TA_24 ip) (fun _ _ => none), wd_Prg cs hp2 (PV j2).r (fun k => if k = 2 then (PV j2).o else none) (PV j2).f (fun _ _ => 0) (fun _ _ => none), nA cs (PV j2).o (PV j2).fn (PV j2).fd, [(((PV j2).r 1), .inl (cs 0, (PV j2).cn, .inl (PV j2).cd))]]) hw px_X.tt (C := "HomeSystem$TextProcess") (owner := "HomeSystem$AnyProcess") (x := ⟨"HomeSystem$AnyProcess", "go", "()V"⟩) (px_recv hT hw 4 0 rfl rfl rfl) m8_239 m8_163 m8_165 m8_238 m8_237 m1_35 m8_164n ⟨by decide, by decide⟩ rfl q_Txp_go ⟨Nat.le_of_ble_eq_true rfl, Nat.le_of_ble_eq_true rfl⟩ hl.1 rfl (Nat.le_of_ble_eq_true rfl) d_Ker_advance_58 ⟨show ce_24 + 0 ≤ (5 * ndS 13 tq + 4 * ndS 13 rq + ndS 13 RM) from by first | with_reducible rfl | with_reducible assumption | omega, show sl_24 + 0 ≤ (9804 * ndS 13 tq + 342 * ndS 13 rq + 36864 * ndS 13 RM) from by first | with_reducible rfl | with_reducible assumption | omega⟩) hw hA (fun p10 H locs hp10 hw => ?_)
            obtain ⟨f8, a9, rfl, h15, e12, e13, e14⟩ := hp10
            obtain ⟨lk, ⟨i2, i3⟩, ⟨i4, i5⟩, ⟨i6, i7⟩, i8, ⟨i9, i11⟩, i10, hrt⟩ := h15
            replace e12 : (f8 17).toInt = ((TF_24 ip) 17).toInt := e12
            replace e13 : (f8 15).toInt = ((TF_24 ip) 15).toInt := e13
            replace e14 : (f8 20).toInt = ((TF_24 ip) 20).toInt := e14
            replace hw : pw D A s.heap H locs [wd_Ker cs hk kr (fun _ => none) kf ka_24 (gKe pq pz_24 tq_24 rq_24), fm 13 (fRw cs rq_24 RR_24 RM_24 RW_24 RF_24 RA_24 RC_24), fo 13 (fTx cs tq_24 TR_24 TO_24 TF_24 TA_24) ip, fo 8 (fPp cs pq PV) j2, wd_Txp cs hx (TR_24 ip) (fun k => if k = 3 then (some hp2) else none) f8 a9 (fun _ _ => none), wd_Prg cs hp2 (PV j2).r (fun k => if k = 2 then (PV j2).o else none) (PV j2).f (fun _ _ => 0) (fun _ _ => none), nA cs (PV j2).o (PV j2).fn (PV j2).fd, [(((PV j2).r 1), .inl (cs 0, (PV j2).cn, .inl (PV j2).cd))]] := hw
            refine lv_aload_n S.x S.b d_Ker_advance_61 rfl (lv_at hl 2 rfl) ?_
            refine px_get S k_Txp hT hw 4 0 18 (v := .int (f8 18)) rfl rfl rfl (by decide) m6_139 d_Ker_advance_62 ?_
            refine lv_bipush (v := (-2)) S.x S.b d_Ker_advance_65 (by decide) ?_
            refine lv_icmp_ne (tgt := 74) S.x S.b d_Ker_advance_67 (by decide) (fun c16 => ?_) (fun c16 => ?_)
            · have nc16 : ¬ (f8 18).toInt = (-2 : Int) := mt (i_eq (x := (f8 18)) (y := (-2))).mpr c16
              refine lv_iconst (v := 0) S.x S.b d_Ker_advance_74 (by decide) ?_
              refine lv_istore_n (lv' := [(3, .int 0), (2, .int 1), (0, .ref hk), (1, .ref hx), (4, .int x24_4)]) S.x S.b d_Ker_advance_75 rfl hl (by decide) rfl (fun ls hl => ?_)
              obtain ⟨z17, ez17⟩ : ∃ y : Int32, y = x24_4 + 1 := ⟨_, rfl⟩
              have tz17 : z17.toInt = (x24_4.toInt + 1 + 2147483648) % 4294967296 - 2147483648 := by rw [ez17]; exact i_add x24_4 1
              have lz17 := Int32.le_toInt z17
              have uz17 := Int32.toInt_lt z17
              try replace tz17 : z17.toInt = x24_4.toInt + 1 := by omega
              refine lv_iinc (v := z17) (lv' := [(4, .int z17), (3, .int 0), (2, .int 1), (0, .ref hk), (1, .ref hx)]) S.x S.b d_Ker_advance_76 hl (k := 4) rfl (by rw [ez17]; rfl) (by decide) rfl (fun ls hl => ?_)
              refine lv_goto (tgt := 24) S.x S.b d_Ker_advance_79 (by decide) ?_
              have hw : pw D A s.heap _ _ [wd_Ker cs hk kr (fun _ => none) kf ka_24 (gKe pq pz_24 tq_24 rq_24), fm 13 (fRw cs rq_24 RR_24 RM_24 RW_24 RF_24 RA_24 RC_24), fo 13 (fTx cs tq_24 TR_24 TO_24 TF_24 TA_24) ip, wd_Txp cs hx (TR_24 ip) (fun k => if k = 3 then (some hp2) else none) f8 a9 (fun _ _ => none), fo 8 (fPp cs pq PV) j2, wd_Prg cs hp2 (PV j2).r (fun k => if k = 2 then (PV j2).o else none) (PV j2).f (fun _ _ => 0) (fun _ _ => none), nA cs (PV j2).o (PV j2).fn (PV j2).fd, [(((PV j2).r 1), .inl (cs 0, (PV j2).cn, .inl (PV j2).cd))]] := hw.sub [0, 1, 2, 4, 3, 5, 6, 7] rfl rfl
              have hw : pw D A s.heap _ _ [wd_Ker cs hk kr (fun _ => none) kf ka_24 (gKe pq pz_24 tq_24 rq_24), fm 13 (fRw cs rq_24 RR_24 RM_24 RW_24 RF_24 RA_24 RC_24), fo 13 (fTx cs tq_24 TR_24 TO_24 TF_24 TA_24) ip, wd_Txp cs hx (TR_24 ip) (fun k => if k = 3 then (some hp2) else none) f8 a9 (fun _ _ => none), fm 8 (fPp cs pq PV)] := fpp_back (pr := [wd_Ker cs hk kr (fun _ => none) kf ka_24 (gKe pq pz_24 tq_24 rq_24), fm 13 (fRw cs rq_24 RR_24 RM_24 RW_24 RF_24 RA_24 RC_24), fo 13 (fTx cs tq_24 TR_24 TO_24 TF_24 TA_24) ip, wd_Txp cs hx (TR_24 ip) (fun k => if k = 3 then (some hp2) else none) f8 a9 (fun _ _ => none)]) hw hj2 hjq2
              have hw : pw D A s.heap _ _ [wd_Ker cs hk kr (fun _ => none) kf ka_24 (gKe pq pz_24 tq_24 rq_24), fm 13 (fRw cs rq_24 RR_24 RM_24 RW_24 RF_24 RA_24 RC_24), fm 8 (fPp cs pq PV), fo 13 (fTx cs tq_24 TR_24 TO_24 TF_24 TA_24) ip, wd_Txp cs hx (TR_24 ip) (fun k => if k = 3 then (some hp2) else none) f8 a9 (fun _ _ => none)] := hw.sub [0, 1, 4, 2, 3] rfl rfl
              have hw := ftx_in0 (pr := [wd_Ker cs hk kr (fun _ => none) kf ka_24 (gKe pq pz_24 tq_24 rq_24), fm 13 (fRw cs rq_24 RR_24 RM_24 RW_24 RF_24 RA_24 RC_24), fm 8 (fPp cs pq PV)]) hw hip k24_3.1 hto2
              obtain ⟨TF18, hu_TF18⟩ : ∃ y : Nat → Nat → Int32, y = va_up TF_24 ip f8 := ⟨_, rfl⟩
              obtain ⟨TA19, hu_TA19⟩ : ∃ y : Nat → Nat → Nat → Int32, y = va_up TA_24 ip a9 := ⟨_, rfl⟩
              have hw : pw D A s.heap _ _ [wd_Ker cs hk kr (fun _ => none) kf ka_24 (gKe pq pz_24 tq_24 rq_24), fm 13 (fRw cs rq_24 RR_24 RM_24 RW_24 RF_24 RA_24 RC_24), fm 8 (fPp cs pq PV), fm 13 (fTx cs tq_24 TR_24 TO_24 TF18 TA19)] := (by rw [hu_TF18, hu_TA19]; exact hw)
              have hki : KnI pq PV pz_24 tq_24 rq_24 TO_24 TF18 TA19 RW_24 RF_24 := (by rw [hu_TF18, hu_TA19]; exact hki.upT (show TxN ip f8 a9 from ⟨(show TxOk (f8 4) (f8 5) (f8 8) (f8 9) (f8 17) (f8 21) (a9 2) from ⟨(by first | exact lk | exact lk_eq lk (by omega) | exact lk_mk (by omega)), ⟨by omega, by omega⟩, ⟨by omega, by omega⟩, ⟨by omega, by omega⟩, by omega, ⟨by omega, by omega⟩, by omega, hrt⟩), (show ((f8 15).toInt) = ((ip : Nat) : Int) from by first | with_reducible rfl | with_reducible assumption | omega), (show 0 ≤ (f8 20).toInt ∧ (f8 20).toInt ≤ 3 ∧ ((f8 20).toInt = 0 ∨ 3 * ((ip : Nat) : Int) + (f8 20).toInt ≤ 12) from by first | with_reducible rfl | with_reducible assumption | omega)⟩))
              have hz21_TF18 : (TF18 ip 21).toInt = (f8 21).toInt := (by rw [hu_TF18, va_up_s]; try rfl)
              have hw : pw D A s.heap _ _ [wd_Ker cs hk kr (fun _ => none) kf ka_24 (gKe pq pz_24 tq_24 rq_24), fm 13 (fTx cs tq_24 TR_24 TO_24 TF18 TA19), fm 13 (fRw cs rq_24 RR_24 RM_24 RW_24 RF_24 RA_24 RC_24), fm 8 (fPp cs pq PV)] := hw.sub [0, 3, 1, 2] rfl rfl
              exact ih24 ce_24 sl_24 pz_24 tq_24 rq_24 ka_24 TR_24 TO_24 TF18 TA19 RR_24 RM_24 RW_24 RF_24 RA_24 RC_24 (1 : Int32) (0 : Int32) z17 _ _ ls (show KnI pq PV pz_24 tq_24 rq_24 TO_24 TF18 TA19 RW_24 RF_24 from hki) (show RoI ka_24 from hro) (show RmI rq_24 RM_24 from hrm) (show CuT pq PV tq_24 TO_24 ip hx from k24_3) (show 0 ≤ (1 : Int) from by first | decide | omega) (show (1 : Int) ≤ 1 from by first | decide | omega) (show 0 ≤ (0 : Int) from by first | decide | omega) (show (0 : Int) ≤ 1 from by first | decide | omega) (show 0 ≤ z17.toInt from by first | exact oz_ae613611c0 tz17 k24_8 | omega) (show z17.toInt ≤ 1000000 from by first | exact oz_596acb4ef1 tz17 nc3 | omega) (show ce_24 + (5 * ndS 13 tq_24 + 4 * ndS 13 rq_24 + ndS 13 RM_24) ≤ 5 * ndS 13 tq + 4 * ndS 13 rq + ndS 13 RM from by first | exact k24_10 | omega) (show sl_24 + (9804 * ndS 13 tq_24 + 342 * ndS 13 rq_24 + 36864 * ndS 13 RM_24) ≤ 9804 * ndS 13 tq + 342 * ndS 13 rq + 36864 * ndS 13 RM from by first | exact k24_11 | omega) (show 1000000 - z17.toInt < (n_24 : Int) from by first | exact oz_301bb61272 hm tz17 | omega) hw (lv_sub hl [3, 4, 2, 1, 0] rfl)
            · have nc16 : (f8 18).toInt = (-2 : Int) := (i_eq (x := (f8 18)) (y := (-2))).mp c16
              refine lv_iconst (v := 1) S.x S.b d_Ker_advance_70 (by decide) ?_
              refine lv_goto (tgt := 75) S.x S.b d_Ker_advance_71 (by decide) ?_
              refine lv_istore_n (lv' := [(3, .int 1), (2, .int 1), (0, .ref hk), (1, .ref hx), (4, .int x24_4)]) S.x S.b d_Ker_advance_75 rfl hl (by decide) rfl (fun ls hl => ?_)
              obtain ⟨z20, ez20⟩ : ∃ y : Int32, y = x24_4 + 1 := ⟨_, rfl⟩
              have tz20 : z20.toInt = (x24_4.toInt + 1 + 2147483648) % 4294967296 - 2147483648 := by rw [ez20]; exact i_add x24_4 1
              have lz20 := Int32.le_toInt z20
              have uz20 := Int32.toInt_lt z20
              try replace tz20 : z20.toInt = x24_4.toInt + 1 := by omega
              refine lv_iinc (v := z20) (lv' := [(4, .int z20), (3, .int 1), (2, .int 1), (0, .ref hk), (1, .ref hx)]) S.x S.b d_Ker_advance_76 hl (k := 4) rfl (by rw [ez20]; rfl) (by decide) rfl (fun ls hl => ?_)
              refine lv_goto (tgt := 24) S.x S.b d_Ker_advance_79 (by decide) ?_
              have hw : pw D A s.heap _ _ [wd_Ker cs hk kr (fun _ => none) kf ka_24 (gKe pq pz_24 tq_24 rq_24), fm 13 (fRw cs rq_24 RR_24 RM_24 RW_24 RF_24 RA_24 RC_24), fo 13 (fTx cs tq_24 TR_24 TO_24 TF_24 TA_24) ip, wd_Txp cs hx (TR_24 ip) (fun k => if k = 3 then (some hp2) else none) f8 a9 (fun _ _ => none), fo 8 (fPp cs pq PV) j2, wd_Prg cs hp2 (PV j2).r (fun k => if k = 2 then (PV j2).o else none) (PV j2).f (fun _ _ => 0) (fun _ _ => none), nA cs (PV j2).o (PV j2).fn (PV j2).fd, [(((PV j2).r 1), .inl (cs 0, (PV j2).cn, .inl (PV j2).cd))]] := hw.sub [0, 1, 2, 4, 3, 5, 6, 7] rfl rfl
              have hw : pw D A s.heap _ _ [wd_Ker cs hk kr (fun _ => none) kf ka_24 (gKe pq pz_24 tq_24 rq_24), fm 13 (fRw cs rq_24 RR_24 RM_24 RW_24 RF_24 RA_24 RC_24), fo 13 (fTx cs tq_24 TR_24 TO_24 TF_24 TA_24) ip, wd_Txp cs hx (TR_24 ip) (fun k => if k = 3 then (some hp2) else none) f8 a9 (fun _ _ => none), fm 8 (fPp cs pq PV)] := fpp_back (pr := [wd_Ker cs hk kr (fun _ => none) kf ka_24 (gKe pq pz_24 tq_24 rq_24), fm 13 (fRw cs rq_24 RR_24 RM_24 RW_24 RF_24 RA_24 RC_24), fo 13 (fTx cs tq_24 TR_24 TO_24 TF_24 TA_24) ip, wd_Txp cs hx (TR_24 ip) (fun k => if k = 3 then (some hp2) else none) f8 a9 (fun _ _ => none)]) hw hj2 hjq2
              have hw : pw D A s.heap _ _ [wd_Ker cs hk kr (fun _ => none) kf ka_24 (gKe pq pz_24 tq_24 rq_24), fm 13 (fRw cs rq_24 RR_24 RM_24 RW_24 RF_24 RA_24 RC_24), fm 8 (fPp cs pq PV), fo 13 (fTx cs tq_24 TR_24 TO_24 TF_24 TA_24) ip, wd_Txp cs hx (TR_24 ip) (fun k => if k = 3 then (some hp2) else none) f8 a9 (fun _ _ => none)] := hw.sub [0, 1, 4, 2, 3] rfl rfl
              have hw := ftx_in0 (pr := [wd_Ker cs hk kr (fun _ => none) kf ka_24 (gKe pq pz_24 tq_24 rq_24), fm 13 (fRw cs rq_24 RR_24 RM_24 RW_24 RF_24 RA_24 RC_24), fm 8 (fPp cs pq PV)]) hw hip k24_3.1 hto2
              obtain ⟨TF21, hu_TF21⟩ : ∃ y : Nat → Nat → Int32, y = va_up TF_24 ip f8 := ⟨_, rfl⟩
              obtain ⟨TA22, hu_TA22⟩ : ∃ y : Nat → Nat → Nat → Int32, y = va_up TA_24 ip a9 := ⟨_, rfl⟩
              have hw : pw D A s.heap _ _ [wd_Ker cs hk kr (fun _ => none) kf ka_24 (gKe pq pz_24 tq_24 rq_24), fm 13 (fRw cs rq_24 RR_24 RM_24 RW_24 RF_24 RA_24 RC_24), fm 8 (fPp cs pq PV), fm 13 (fTx cs tq_24 TR_24 TO_24 TF21 TA22)] := (by rw [hu_TF21, hu_TA22]; exact hw)
              have hki : KnI pq PV pz_24 tq_24 rq_24 TO_24 TF21 TA22 RW_24 RF_24 := (by rw [hu_TF21, hu_TA22]; exact hki.upT (show TxN ip f8 a9 from ⟨(show TxOk (f8 4) (f8 5) (f8 8) (f8 9) (f8 17) (f8 21) (a9 2) from ⟨(by first | exact lk | exact lk_eq lk (by omega) | exact lk_mk (by omega)), ⟨by omega, by omega⟩, ⟨by omega, by omega⟩, ⟨by omega, by omega⟩, by omega, ⟨by omega, by omega⟩, by omega, hrt⟩), (show ((f8 15).toInt) = ((ip : Nat) : Int) from by first | with_reducible rfl | with_reducible assumption | omega), (show 0 ≤ (f8 20).toInt ∧ (f8 20).toInt ≤ 3 ∧ ((f8 20).toInt = 0 ∨ 3 * ((ip : Nat) : Int) + (f8 20).toInt ≤ 12) from by first | with_reducible rfl | with_reducible assumption | omega)⟩))
              have hz21_TF21 : (TF21 ip 21).toInt = (f8 21).toInt := (by rw [hu_TF21, va_up_s]; try rfl)
              have hw : pw D A s.heap _ _ [wd_Ker cs hk kr (fun _ => none) kf ka_24 (gKe pq pz_24 tq_24 rq_24), fm 13 (fTx cs tq_24 TR_24 TO_24 TF21 TA22), fm 13 (fRw cs rq_24 RR_24 RM_24 RW_24 RF_24 RA_24 RC_24), fm 8 (fPp cs pq PV)] := hw.sub [0, 3, 1, 2] rfl rfl
              exact ih24 ce_24 sl_24 pz_24 tq_24 rq_24 ka_24 TR_24 TO_24 TF21 TA22 RR_24 RM_24 RW_24 RF_24 RA_24 RC_24 (1 : Int32) (1 : Int32) z20 _ _ ls (show KnI pq PV pz_24 tq_24 rq_24 TO_24 TF21 TA22 RW_24 RF_24 from hki) (show RoI ka_24 from hro) (show RmI rq_24 RM_24 from hrm) (show CuT pq PV tq_24 TO_24 ip hx from k24_3) (show 0 ≤ (1 : Int) from by first | decide | omega) (show (1 : Int) ≤ 1 from by first | decide | omega) (show 0 ≤ (1 : Int) from by first | decide | omega) (show (1 : Int) ≤ 1 from by first | decide | omega) (show 0 ≤ z20.toInt from by first | exact oz_ae613611c0 tz20 k24_8 | omega) (show z20.toInt ≤ 1000000 from by first | exact oz_596acb4ef1 tz20 nc3 | omega) (show ce_24 + (5 * ndS 13 tq_24 + 4 * ndS 13 rq_24 + ndS 13 RM_24) ≤ 5 * ndS 13 tq + 4 * ndS 13 rq + ndS 13 RM from by first | exact k24_10 | omega) (show sl_24 + (9804 * ndS 13 tq_24 + 342 * ndS 13 rq_24 + 36864 * ndS 13 RM_24) ≤ 9804 * ndS 13 tq + 342 * ndS 13 rq + 36864 * ndS 13 RM from by first | exact k24_11 | omega) (show 1000000 - z20.toInt < (n_24 : Int) from by first | exact oz_301bb61272 hm tz20 | omega) hw (lv_sub hl [3, 4, 2, 1, 0] rfl)
          · have nc6 : ¬ ((TF_24 ip) 21).toInt = (0 : Int) := mt (i_eq (x := ((TF_24 ip) 21)) (y := 0)).mpr c6
            refine lv_aload_n S.x S.b d_Ker_advance_42 rfl (lv_at hl 0 rfl) ?_
            refine lv_aload_n S.x S.b d_Ker_advance_43 rfl (lv_at hl 1 rfl) ?_
            have hw : pw D A s.heap _ _ [wd_Ker cs hk kr (fun _ => none) kf ka_24 (gKe pq pz_24 tq_24 rq_24), fm 13 (fRw cs rq_24 RR_24 RM_24 RW_24 RF_24 RA_24 RC_24), fm 8 (fPp cs pq PV), fm 13 (fTx cs tq_24 TR_24 TO_24 TF_24 TA_24)] := ftx_back (pr := [wd_Ker cs hk kr (fun _ => none) kf ka_24 (gKe pq pz_24 tq_24 rq_24), fm 13 (fRw cs rq_24 RR_24 RM_24 RW_24 RF_24 RA_24 RC_24), fm 8 (fPp cs pq PV)]) hw hip k24_3.1 hto2
            have hw : pw D A s.heap _ _ [wd_Ker cs hk kr (fun _ => none) kf ka_24 (gKe pq pz_24 tq_24 rq_24), fm 13 (fTx cs tq_24 TR_24 TO_24 TF_24 TA_24), fm 13 (fRw cs rq_24 RR_24 RM_24 RW_24 RF_24 RA_24 RC_24), fm 8 (fPp cs pq PV)] := hw.sub [0, 3, 1, 2] rfl rfl
            refine pg_calli (pr := []) (px_runV (As := [.ref hx]) (rest := []) S (c_k_serve_T l D cs hk kr pq kf PV pz_24 tq_24 rq_24 ka_24 TR_24 TO_24 TF_24 TA_24 RR_24 RM_24 RW_24 RF_24 RA_24 RC_24  ip hx (show 0 ≤ (kf 8).toInt from by first | exact g0 | omega) (show (kf 8).toInt ≤ 100 from by first | exact g1 | omega) (show (TF_24 ip 21).toInt = 1 from by first | with_reducible rfl | with_reducible assumption | omega) hki hro hrm hip k24_3 _ _) hT (pr := []) (pcs := [wd_Ker cs hk kr (fun _ => none) kf ka_24 (gKe pq pz_24 tq_24 rq_24), fm 13 (fTx cs tq_24 TR_24 TO_24 TF_24 TA_24), fm 13 (fRw cs rq_24 RR_24 RM_24 RW_24 RF_24 RA_24 RC_24), fm 8 (fPp cs pq PV)]) hw (px_X.tot px_X.tt) (px_recv hT hw 0 0 rfl rfl rfl) m8_56 m8_53 m8_55 ms_5_8 m1_19 q_Ker_serve ⟨Nat.le_of_ble_eq_true rfl, Nat.le_of_ble_eq_true rfl⟩ hl.1 rfl (Nat.le_of_ble_eq_true rfl) d_Ker_advance_44 ⟨show ce_24 + (5 * ndS 13 tq_24 + 4 * ndS 13 rq_24 + ndS 13 RM_24) ≤ (5 * ndS 13 tq + 4 * ndS 13 rq + ndS 13 RM) from by first | with_reducible rfl | with_reducible assumption | omega, show sl_24 + (9804 * ndS 13 tq_24 + 342 * ndS 13 rq_24 + 36864 * ndS 13 RM_24) ≤ (9804 * ndS 13 tq + 342 * ndS 13 rq + 36864 * ndS 13 RM) from by first | with_reducible rfl | with_reducible assumption | omega⟩) hw hA (fun v52 p51 k53 n54 H locs hp51 hw => ?_)
            dsimp only at hp51
            obtain ⟨pz37, tq38, rq39, ka40, TR41, TO42, TF43, TA44, RR45, RM46, RW47, RF48, RA49, RC50, rfl, e55, e56, e57, e58, e59, e60, e61⟩ := hp51
            have e55 := z_rng e55
            replace e56 : CuT pq PV tq38 TO42 ip hx := e56
            obtain ⟨j62, hp62, hj62, hjq62, hto62, hf062⟩ := e56.2
            replace e57 : KnI pq PV pz37 tq38 rq39 TO42 TF43 TA44 RW47 RF48 := e57
            have hki := e57
            replace e58 : RoI ka40 := e58
            have hro := e58
            replace e59 : RmI rq39 RM46 := e59
            have hrm := e59
            replace e60 : k53 + (5 * ndS 13 tq38 + 4 * ndS 13 rq39 + ndS 13 RM46) ≤ 5 * ndS 13 tq_24 + 4 * ndS 13 rq_24 + ndS 13 RM_24 := e60
            replace e61 : n54 + (9804 * ndS 13 tq38 + 342 * ndS 13 rq39 + 36864 * ndS 13 RM46) ≤ 9804 * ndS 13 tq_24 + 342 * ndS 13 rq_24 + 36864 * ndS 13 RM_24 := e61
            replace hw : pw D A s.heap H locs [wd_Ker cs hk kr (fun _ => none) kf ka40 (gKe pq pz37 tq38 rq39), fm 13 (fTx cs tq38 TR41 TO42 TF43 TA44), fm 13 (fRw cs rq39 RR45 RM46 RW47 RF48 RA49 RC50), fm 8 (fPp cs pq PV)] := hw
            have lv52 := Int32.le_toInt v52
            have uv52 := Int32.toInt_lt v52
            refine lv_if_ne (tgt := 55) S.x S.b d_Ker_advance_47 (by decide) (fun c63 => ?_) (fun c63 => ?_)
            · have nc63 : ¬ v52.toInt = (0 : Int) := mt (i_eq (x := v52) (y := 0)).mpr c63
              refine lv_iconst (v := 1) S.x S.b d_Ker_advance_55 (by decide) ?_
              refine lv_istore_n (lv' := [(2, .int 1), (0, .ref hk), (1, .ref hx), (3, .int x24_3), (4, .int x24_4)]) S.x S.b d_Ker_advance_56 rfl hl (by decide) rfl (fun ls hl => ?_)
              refine lv_aload_n S.x S.b d_Ker_advance_57 rfl (lv_at hl 2 rfl) ?_
              have hw : pw D A s.heap _ _ [wd_Ker cs hk kr (fun _ => none) kf ka40 (gKe pq pz37 tq38 rq39), fm 13 (fRw cs rq39 RR45 RM46 RW47 RF48 RA49 RC50), fm 8 (fPp cs pq PV), fm 13 (fTx cs tq38 TR41 TO42 TF43 TA44)] := hw.sub [0, 2, 3, 1] rfl rfl
              have hw : pw D A s.heap _ _ [wd_Ker cs hk kr (fun _ => none) kf ka40 (gKe pq pz37 tq38 rq39), fm 13 (fRw cs rq39 RR45 RM46 RW47 RF48 RA49 RC50), fm 8 (fPp cs pq PV), fo 13 (fTx cs tq38 TR41 TO42 TF43 TA44) ip, wd_Txp cs hx (TR41 ip) (fun k => if k = 3 then (some hp62) else none) (TF43 ip) (TA44 ip) (fun _ _ => none)] := ftx_out (pr := [wd_Ker cs hk kr (fun _ => none) kf ka40 (gKe pq pz37 tq38 rq39), fm 13 (fRw cs rq39 RR45 RM46 RW47 RF48 RA49 RC50), fm 8 (fPp cs pq PV)]) hw hip e56.1 hto62
              have htn64 : TxN ip (TF43 ip) (TA44 ip) := hki.2.1 ip hip _ e56.1
              obtain ⟨lk, ⟨i2, i3⟩, ⟨i4, i5⟩, ⟨i6, i7⟩, i8, ⟨i9, i11⟩, i10, hrt⟩ := htn64.1
              have hid64 := htn64.2.1
              have hch64 := htn64.2.2
              unfold KcI at hch64
              have hw : pw D A s.heap _ _ [wd_Ker cs hk kr (fun _ => none) kf ka40 (gKe pq pz37 tq38 rq39), fm 13 (fRw cs rq39 RR45 RM46 RW47 RF48 RA49 RC50), fo 13 (fTx cs tq38 TR41 TO42 TF43 TA44) ip, wd_Txp cs hx (TR41 ip) (fun k => if k = 3 then (some hp62) else none) (TF43 ip) (TA44 ip) (fun _ _ => none), fm 8 (fPp cs pq PV)] := hw.sub [0, 1, 3, 4, 2] rfl rfl
              have hw : pw D A s.heap _ _ [wd_Ker cs hk kr (fun _ => none) kf ka40 (gKe pq pz37 tq38 rq39), fm 13 (fRw cs rq39 RR45 RM46 RW47 RF48 RA49 RC50), fo 13 (fTx cs tq38 TR41 TO42 TF43 TA44) ip, wd_Txp cs hx (TR41 ip) (fun k => if k = 3 then (some hp62) else none) (TF43 ip) (TA44 ip) (fun _ _ => none), fo 8 (fPp cs pq PV) j62, wd_Prg cs hp62 (PV j62).r (fun k => if k = 2 then (PV j62).o else none) (PV j62).f (fun _ _ => 0) (fun _ _ => none), nA cs (PV j62).o (PV j62).fn (PV j62).fd, [(((PV j62).r 1), .inl (cs 0, (PV j62).cn, .inl (PV j62).cd))]] := fpp_out (pr := [wd_Ker cs hk kr (fun _ => none) kf ka40 (gKe pq pz37 tq38 rq39), fm 13 (fRw cs rq39 RR45 RM46 RW47 RF48 RA49 RC50), fo 13 (fTx cs tq38 TR41 TO42 TF43 TA44) ip, wd_Txp cs hx (TR41 ip) (fun k => if k = 3 then (some hp62) else none) (TF43 ip) (TA44 ip) (fun _ _ => none)]) hw hj62 hjq62
              have hpv65 := hki.1 j62 hj62 _ hjq62
              have hpn65 := hpv65.1
              have hpz65 := hpv65.2.1
              have hcf := hpv65.2.2 (by omega); have hcd := hcf.1; have hfd := hcf.2.1
              have hw : pw D A s.heap _ _ [wd_Ker cs hk kr (fun _ => none) kf ka40 (gKe pq pz37 tq38 rq39), fm 13 (fRw cs rq39 RR45 RM46 RW47 RF48 RA49 RC50), fo 13 (fTx cs tq38 TR41 TO42 TF43 TA44) ip, fo 8 (fPp cs pq PV) j62, wd_Txp cs hx (TR41 ip) (fun k => if k = 3 then (some hp62) else none) (TF43 ip) (TA44 ip) (fun _ _ => none), wd_Prg cs hp62 (PV j62).r (fun k => if k = 2 then (PV j62).o else none) (PV j62).f (fun _ _ => 0) (fun _ _ => none), nA cs (PV j62).o (PV j62).fn (PV j62).fd, [(((PV j62).r 1), .inl (cs 0, (PV j62).cn, .inl (PV j62).cd))]] := hw.sub [0, 1, 2, 4, 3, 5, 6, 7] rfl rfl
              refine px_callv (pr := [wd_Ker cs hk kr (fun _ => none) kf ka40 (gKe pq pz37 tq38 rq39), fm 13 (fRw cs rq39 RR45 RM46 RW47 RF48 RA49 RC50), fo 13 (fTx cs tq38 TR41 TO42 TF43 TA44) ip, fo 8 (fPp cs pq PV) j62]) (px_runA (As := []) (rest := []) S (c_Txp_go l D cs hx (TR41 ip) (fun _ _ => none) hp62 (TF43 ip) (TA44 ip) (PV j62).r (PV j62).o (PV j62).f (PV j62).fn (PV j62).fd (PV j62).cn (PV j62).cd   (show TxOk ((TF43 ip) 4) ((TF43 ip) 5) ((TF43 ip) 8) ((TF43 ip) 9) ((TF43 ip) 17) ((TF43 ip) 21) ((TA44 ip) 2) from ⟨(by first | exact lk | exact lk_eq lk (by omega) | exact lk_mk (by omega)), ⟨by omega, by omega⟩, ⟨by omega, by omega⟩, ⟨by omega, by omega⟩, by omega, ⟨by omega, by omega⟩, by omega, hrt⟩) (show (PV j62).fn ≤ 1000000 from by first | with_reducible rfl | with_reducible assumption | omega) (show (PV j62).cn ≤ 100000 from by first | with_reducible rfl | with_reducible assumption | omega) hfd hcd _) hT (pr := [wd_Ker cs hk kr (fun _ => none) kf ka40 (gKe pq pz37 tq38 rq39), fm 13 (fRw cs rq39 RR45 RM46 RW47 RF48 RA49 RC50), fo 13 (fTx cs tq38 TR41 TO42 TF43 TA44) ip, fo 8 (fPp cs pq PV) j62]) (pcs := [wd_Txp cs hx (TR41 ip) (fun k => if k = 3 then (some hp62) else none) (TF43 ip) (TA44 ip) (fun _ _ => none), wd_Prg cs hp62 (PV j62).r (fun k => if k = 2 then (PV j62).o else none) (PV j62).f (fun _ _ => 0) (fun _ _ => none), nA cs (PV j62).o (PV j62).fn (PV j62).fd, [(((PV j62).r 1), .inl (cs 0, (PV j62).cn, .inl (PV j62).cd))]]) hw px_X.tt (C := "HomeSystem$TextProcess") (owner := "HomeSystem$AnyProcess") (x := ⟨"HomeSystem$AnyProcess", "go", "()V"⟩) (px_recv hT hw 4 0 rfl rfl rfl) m8_239 m8_163 m8_165 m8_238 m8_237 m1_35 m8_164n ⟨by decide, by decide⟩ rfl q_Txp_go ⟨Nat.le_of_ble_eq_true rfl, Nat.le_of_ble_eq_true rfl⟩ hl.1 rfl (Nat.le_of_ble_eq_true rfl) d_Ker_advance_58 ⟨show (ce_24 + k53) + 0 ≤ (5 * ndS 13 tq + 4 * ndS 13 rq + ndS 13 RM) from by first | with_reducible rfl | with_reducible assumption | omega, show (sl_24 + n54) + 0 ≤ (9804 * ndS 13 tq + 342 * ndS 13 rq + 36864 * ndS 13 RM) from by first | with_reducible rfl | with_reducible assumption | omega⟩) hw hA (fun p68 H locs hp68 hw => ?_)
              obtain ⟨f66, a67, rfl, h73, e70, e71, e72⟩ := hp68
              obtain ⟨lk, ⟨i2, i3⟩, ⟨i4, i5⟩, ⟨i6, i7⟩, i8, ⟨i9, i11⟩, i10, hrt⟩ := h73
              replace e70 : (f66 17).toInt = ((TF43 ip) 17).toInt := e70
              replace e71 : (f66 15).toInt = ((TF43 ip) 15).toInt := e71
              replace e72 : (f66 20).toInt = ((TF43 ip) 20).toInt := e72
              replace hw : pw D A s.heap H locs [wd_Ker cs hk kr (fun _ => none) kf ka40 (gKe pq pz37 tq38 rq39), fm 13 (fRw cs rq39 RR45 RM46 RW47 RF48 RA49 RC50), fo 13 (fTx cs tq38 TR41 TO42 TF43 TA44) ip, fo 8 (fPp cs pq PV) j62, wd_Txp cs hx (TR41 ip) (fun k => if k = 3 then (some hp62) else none) f66 a67 (fun _ _ => none), wd_Prg cs hp62 (PV j62).r (fun k => if k = 2 then (PV j62).o else none) (PV j62).f (fun _ _ => 0) (fun _ _ => none), nA cs (PV j62).o (PV j62).fn (PV j62).fd, [(((PV j62).r 1), .inl (cs 0, (PV j62).cn, .inl (PV j62).cd))]] := hw
              refine lv_aload_n S.x S.b d_Ker_advance_61 rfl (lv_at hl 2 rfl) ?_
              refine px_get S k_Txp hT hw 4 0 18 (v := .int (f66 18)) rfl rfl rfl (by decide) m6_139 d_Ker_advance_62 ?_
              refine lv_bipush (v := (-2)) S.x S.b d_Ker_advance_65 (by decide) ?_
              refine lv_icmp_ne (tgt := 74) S.x S.b d_Ker_advance_67 (by decide) (fun c74 => ?_) (fun c74 => ?_)
              · have nc74 : ¬ (f66 18).toInt = (-2 : Int) := mt (i_eq (x := (f66 18)) (y := (-2))).mpr c74
                refine lv_iconst (v := 0) S.x S.b d_Ker_advance_74 (by decide) ?_
                refine lv_istore_n (lv' := [(3, .int 0), (2, .int 1), (0, .ref hk), (1, .ref hx), (4, .int x24_4)]) S.x S.b d_Ker_advance_75 rfl hl (by decide) rfl (fun ls hl => ?_)
                obtain ⟨z75, ez75⟩ : ∃ y : Int32, y = x24_4 + 1 := ⟨_, rfl⟩
                have tz75 : z75.toInt = (x24_4.toInt + 1 + 2147483648) % 4294967296 - 2147483648 := by rw [ez75]; exact i_add x24_4 1
                have lz75 := Int32.le_toInt z75
                have uz75 := Int32.toInt_lt z75
                try replace tz75 : z75.toInt = x24_4.toInt + 1 := by omega
                refine lv_iinc (v := z75) (lv' := [(4, .int z75), (3, .int 0), (2, .int 1), (0, .ref hk), (1, .ref hx)]) S.x S.b d_Ker_advance_76 hl (k := 4) rfl (by rw [ez75]; rfl) (by decide) rfl (fun ls hl => ?_)
                refine lv_goto (tgt := 24) S.x S.b d_Ker_advance_79 (by decide) ?_
                have hw : pw D A s.heap _ _ [wd_Ker cs hk kr (fun _ => none) kf ka40 (gKe pq pz37 tq38 rq39), fm 13 (fRw cs rq39 RR45 RM46 RW47 RF48 RA49 RC50), fo 13 (fTx cs tq38 TR41 TO42 TF43 TA44) ip, wd_Txp cs hx (TR41 ip) (fun k => if k = 3 then (some hp62) else none) f66 a67 (fun _ _ => none), fo 8 (fPp cs pq PV) j62, wd_Prg cs hp62 (PV j62).r (fun k => if k = 2 then (PV j62).o else none) (PV j62).f (fun _ _ => 0) (fun _ _ => none), nA cs (PV j62).o (PV j62).fn (PV j62).fd, [(((PV j62).r 1), .inl (cs 0, (PV j62).cn, .inl (PV j62).cd))]] := hw.sub [0, 1, 2, 4, 3, 5, 6, 7] rfl rfl
                have hw : pw D A s.heap _ _ [wd_Ker cs hk kr (fun _ => none) kf ka40 (gKe pq pz37 tq38 rq39), fm 13 (fRw cs rq39 RR45 RM46 RW47 RF48 RA49 RC50), fo 13 (fTx cs tq38 TR41 TO42 TF43 TA44) ip, wd_Txp cs hx (TR41 ip) (fun k => if k = 3 then (some hp62) else none) f66 a67 (fun _ _ => none), fm 8 (fPp cs pq PV)] := fpp_back (pr := [wd_Ker cs hk kr (fun _ => none) kf ka40 (gKe pq pz37 tq38 rq39), fm 13 (fRw cs rq39 RR45 RM46 RW47 RF48 RA49 RC50), fo 13 (fTx cs tq38 TR41 TO42 TF43 TA44) ip, wd_Txp cs hx (TR41 ip) (fun k => if k = 3 then (some hp62) else none) f66 a67 (fun _ _ => none)]) hw hj62 hjq62
                have hw : pw D A s.heap _ _ [wd_Ker cs hk kr (fun _ => none) kf ka40 (gKe pq pz37 tq38 rq39), fm 13 (fRw cs rq39 RR45 RM46 RW47 RF48 RA49 RC50), fm 8 (fPp cs pq PV), fo 13 (fTx cs tq38 TR41 TO42 TF43 TA44) ip, wd_Txp cs hx (TR41 ip) (fun k => if k = 3 then (some hp62) else none) f66 a67 (fun _ _ => none)] := hw.sub [0, 1, 4, 2, 3] rfl rfl
                have hw := ftx_in0 (pr := [wd_Ker cs hk kr (fun _ => none) kf ka40 (gKe pq pz37 tq38 rq39), fm 13 (fRw cs rq39 RR45 RM46 RW47 RF48 RA49 RC50), fm 8 (fPp cs pq PV)]) hw hip e56.1 hto62
                obtain ⟨TF76, hu_TF76⟩ : ∃ y : Nat → Nat → Int32, y = va_up TF43 ip f66 := ⟨_, rfl⟩
                obtain ⟨TA77, hu_TA77⟩ : ∃ y : Nat → Nat → Nat → Int32, y = va_up TA44 ip a67 := ⟨_, rfl⟩
                have hw : pw D A s.heap _ _ [wd_Ker cs hk kr (fun _ => none) kf ka40 (gKe pq pz37 tq38 rq39), fm 13 (fRw cs rq39 RR45 RM46 RW47 RF48 RA49 RC50), fm 8 (fPp cs pq PV), fm 13 (fTx cs tq38 TR41 TO42 TF76 TA77)] := (by rw [hu_TF76, hu_TA77]; exact hw)
                have hki : KnI pq PV pz37 tq38 rq39 TO42 TF76 TA77 RW47 RF48 := (by rw [hu_TF76, hu_TA77]; exact hki.upT (show TxN ip f66 a67 from ⟨(show TxOk (f66 4) (f66 5) (f66 8) (f66 9) (f66 17) (f66 21) (a67 2) from ⟨(by first | exact lk | exact lk_eq lk (by omega) | exact lk_mk (by omega)), ⟨by omega, by omega⟩, ⟨by omega, by omega⟩, ⟨by omega, by omega⟩, by omega, ⟨by omega, by omega⟩, by omega, hrt⟩), (show ((f66 15).toInt) = ((ip : Nat) : Int) from by first | with_reducible rfl | with_reducible assumption | omega), (show 0 ≤ (f66 20).toInt ∧ (f66 20).toInt ≤ 3 ∧ ((f66 20).toInt = 0 ∨ 3 * ((ip : Nat) : Int) + (f66 20).toInt ≤ 12) from by first | with_reducible rfl | with_reducible assumption | omega)⟩))
                have hz21_TF76 : (TF76 ip 21).toInt = (f66 21).toInt := (by rw [hu_TF76, va_up_s]; try rfl)
                have hw : pw D A s.heap _ _ [wd_Ker cs hk kr (fun _ => none) kf ka40 (gKe pq pz37 tq38 rq39), fm 13 (fTx cs tq38 TR41 TO42 TF76 TA77), fm 13 (fRw cs rq39 RR45 RM46 RW47 RF48 RA49 RC50), fm 8 (fPp cs pq PV)] := hw.sub [0, 3, 1, 2] rfl rfl
                exact ih24 (ce_24 + k53) (sl_24 + n54) pz37 tq38 rq39 ka40 TR41 TO42 TF76 TA77 RR45 RM46 RW47 RF48 RA49 RC50 (1 : Int32) (0 : Int32) z75 _ _ ls (show KnI pq PV pz37 tq38 rq39 TO42 TF76 TA77 RW47 RF48 from hki) (show RoI ka40 from hro) (show RmI rq39 RM46 from hrm) (show CuT pq PV tq38 TO42 ip hx from e56) (show 0 ≤ (1 : Int) from by first | decide | omega) (show (1 : Int) ≤ 1 from by first | decide | omega) (show 0 ≤ (0 : Int) from by first | decide | omega) (show (0 : Int) ≤ 1 from by first | decide | omega) (show 0 ≤ z75.toInt from by first | exact oz_ae613611c0 tz75 k24_8 | omega) (show z75.toInt ≤ 1000000 from by first | exact oz_596acb4ef1 tz75 nc3 | omega) (show (ce_24 + k53) + (5 * ndS 13 tq38 + 4 * ndS 13 rq39 + ndS 13 RM46) ≤ 5 * ndS 13 tq + 4 * ndS 13 rq + ndS 13 RM from by first | exact oz_09730e4356 k24_10 e60 | omega) (show (sl_24 + n54) + (9804 * ndS 13 tq38 + 342 * ndS 13 rq39 + 36864 * ndS 13 RM46) ≤ 9804 * ndS 13 tq + 342 * ndS 13 rq + 36864 * ndS 13 RM from by first | exact oz_0d0bbc14c3 k24_11 e61 | omega) (show 1000000 - z75.toInt < (n_24 : Int) from by first | exact oz_301bb61272 hm tz75 | omega) hw (lv_sub hl [3, 4, 2, 1, 0] rfl)
              · have nc74 : (f66 18).toInt = (-2 : Int) := (i_eq (x := (f66 18)) (y := (-2))).mp c74
                refine lv_iconst (v := 1) S.x S.b d_Ker_advance_70 (by decide) ?_
                refine lv_goto (tgt := 75) S.x S.b d_Ker_advance_71 (by decide) ?_
                refine lv_istore_n (lv' := [(3, .int 1), (2, .int 1), (0, .ref hk), (1, .ref hx), (4, .int x24_4)]) S.x S.b d_Ker_advance_75 rfl hl (by decide) rfl (fun ls hl => ?_)
                obtain ⟨z78, ez78⟩ : ∃ y : Int32, y = x24_4 + 1 := ⟨_, rfl⟩
                have tz78 : z78.toInt = (x24_4.toInt + 1 + 2147483648) % 4294967296 - 2147483648 := by rw [ez78]; exact i_add x24_4 1
                have lz78 := Int32.le_toInt z78
                have uz78 := Int32.toInt_lt z78
                try replace tz78 : z78.toInt = x24_4.toInt + 1 := by omega
                refine lv_iinc (v := z78) (lv' := [(4, .int z78), (3, .int 1), (2, .int 1), (0, .ref hk), (1, .ref hx)]) S.x S.b d_Ker_advance_76 hl (k := 4) rfl (by rw [ez78]; rfl) (by decide) rfl (fun ls hl => ?_)
                refine lv_goto (tgt := 24) S.x S.b d_Ker_advance_79 (by decide) ?_
                have hw : pw D A s.heap _ _ [wd_Ker cs hk kr (fun _ => none) kf ka40 (gKe pq pz37 tq38 rq39), fm 13 (fRw cs rq39 RR45 RM46 RW47 RF48 RA49 RC50), fo 13 (fTx cs tq38 TR41 TO42 TF43 TA44) ip, wd_Txp cs hx (TR41 ip) (fun k => if k = 3 then (some hp62) else none) f66 a67 (fun _ _ => none), fo 8 (fPp cs pq PV) j62, wd_Prg cs hp62 (PV j62).r (fun k => if k = 2 then (PV j62).o else none) (PV j62).f (fun _ _ => 0) (fun _ _ => none), nA cs (PV j62).o (PV j62).fn (PV j62).fd, [(((PV j62).r 1), .inl (cs 0, (PV j62).cn, .inl (PV j62).cd))]] := hw.sub [0, 1, 2, 4, 3, 5, 6, 7] rfl rfl
                have hw : pw D A s.heap _ _ [wd_Ker cs hk kr (fun _ => none) kf ka40 (gKe pq pz37 tq38 rq39), fm 13 (fRw cs rq39 RR45 RM46 RW47 RF48 RA49 RC50), fo 13 (fTx cs tq38 TR41 TO42 TF43 TA44) ip, wd_Txp cs hx (TR41 ip) (fun k => if k = 3 then (some hp62) else none) f66 a67 (fun _ _ => none), fm 8 (fPp cs pq PV)] := fpp_back (pr := [wd_Ker cs hk kr (fun _ => none) kf ka40 (gKe pq pz37 tq38 rq39), fm 13 (fRw cs rq39 RR45 RM46 RW47 RF48 RA49 RC50), fo 13 (fTx cs tq38 TR41 TO42 TF43 TA44) ip, wd_Txp cs hx (TR41 ip) (fun k => if k = 3 then (some hp62) else none) f66 a67 (fun _ _ => none)]) hw hj62 hjq62
                have hw : pw D A s.heap _ _ [wd_Ker cs hk kr (fun _ => none) kf ka40 (gKe pq pz37 tq38 rq39), fm 13 (fRw cs rq39 RR45 RM46 RW47 RF48 RA49 RC50), fm 8 (fPp cs pq PV), fo 13 (fTx cs tq38 TR41 TO42 TF43 TA44) ip, wd_Txp cs hx (TR41 ip) (fun k => if k = 3 then (some hp62) else none) f66 a67 (fun _ _ => none)] := hw.sub [0, 1, 4, 2, 3] rfl rfl
                have hw := ftx_in0 (pr := [wd_Ker cs hk kr (fun _ => none) kf ka40 (gKe pq pz37 tq38 rq39), fm 13 (fRw cs rq39 RR45 RM46 RW47 RF48 RA49 RC50), fm 8 (fPp cs pq PV)]) hw hip e56.1 hto62
                obtain ⟨TF79, hu_TF79⟩ : ∃ y : Nat → Nat → Int32, y = va_up TF43 ip f66 := ⟨_, rfl⟩
                obtain ⟨TA80, hu_TA80⟩ : ∃ y : Nat → Nat → Nat → Int32, y = va_up TA44 ip a67 := ⟨_, rfl⟩
                have hw : pw D A s.heap _ _ [wd_Ker cs hk kr (fun _ => none) kf ka40 (gKe pq pz37 tq38 rq39), fm 13 (fRw cs rq39 RR45 RM46 RW47 RF48 RA49 RC50), fm 8 (fPp cs pq PV), fm 13 (fTx cs tq38 TR41 TO42 TF79 TA80)] := (by rw [hu_TF79, hu_TA80]; exact hw)
                have hki : KnI pq PV pz37 tq38 rq39 TO42 TF79 TA80 RW47 RF48 := (by rw [hu_TF79, hu_TA80]; exact hki.upT (show TxN ip f66 a67 from ⟨(show TxOk (f66 4) (f66 5) (f66 8) (f66 9) (f66 17) (f66 21) (a67 2) from ⟨(by first | exact lk | exact lk_eq lk (by omega) | exact lk_mk (by omega)), ⟨by omega, by omega⟩, ⟨by omega, by omega⟩, ⟨by omega, by omega⟩, by omega, ⟨by omega, by omega⟩, by omega, hrt⟩), (show ((f66 15).toInt) = ((ip : Nat) : Int) from by first | with_reducible rfl | with_reducible assumption | omega), (show 0 ≤ (f66 20).toInt ∧ (f66 20).toInt ≤ 3 ∧ ((f66 20).toInt = 0 ∨ 3 * ((ip : Nat) : Int) + (f66 20).toInt ≤ 12) from by first | with_reducible rfl | with_reducible assumption | omega)⟩))
                have hz21_TF79 : (TF79 ip 21).toInt = (f66 21).toInt := (by rw [hu_TF79, va_up_s]; try rfl)
                have hw : pw D A s.heap _ _ [wd_Ker cs hk kr (fun _ => none) kf ka40 (gKe pq pz37 tq38 rq39), fm 13 (fTx cs tq38 TR41 TO42 TF79 TA80), fm 13 (fRw cs rq39 RR45 RM46 RW47 RF48 RA49 RC50), fm 8 (fPp cs pq PV)] := hw.sub [0, 3, 1, 2] rfl rfl
                exact ih24 (ce_24 + k53) (sl_24 + n54) pz37 tq38 rq39 ka40 TR41 TO42 TF79 TA80 RR45 RM46 RW47 RF48 RA49 RC50 (1 : Int32) (1 : Int32) z78 _ _ ls (show KnI pq PV pz37 tq38 rq39 TO42 TF79 TA80 RW47 RF48 from hki) (show RoI ka40 from hro) (show RmI rq39 RM46 from hrm) (show CuT pq PV tq38 TO42 ip hx from e56) (show 0 ≤ (1 : Int) from by first | decide | omega) (show (1 : Int) ≤ 1 from by first | decide | omega) (show 0 ≤ (1 : Int) from by first | decide | omega) (show (1 : Int) ≤ 1 from by first | decide | omega) (show 0 ≤ z78.toInt from by first | exact oz_ae613611c0 tz78 k24_8 | omega) (show z78.toInt ≤ 1000000 from by first | exact oz_596acb4ef1 tz78 nc3 | omega) (show (ce_24 + k53) + (5 * ndS 13 tq38 + 4 * ndS 13 rq39 + ndS 13 RM46) ≤ 5 * ndS 13 tq + 4 * ndS 13 rq + ndS 13 RM from by first | exact oz_09730e4356 k24_10 e60 | omega) (show (sl_24 + n54) + (9804 * ndS 13 tq38 + 342 * ndS 13 rq39 + 36864 * ndS 13 RM46) ≤ 9804 * ndS 13 tq + 342 * ndS 13 rq + 36864 * ndS 13 RM from by first | exact oz_0d0bbc14c3 k24_11 e61 | omega) (show 1000000 - z78.toInt < (n_24 : Int) from by first | exact oz_301bb61272 hm tz78 | omega) hw (lv_sub hl [3, 4, 2, 1, 0] rfl)
            · have nc63 : v52.toInt = (0 : Int) := (i_eq (x := v52) (y := 0)).mp c63
              refine lv_iconst (v := 0) S.x S.b d_Ker_advance_50 (by decide) ?_
              refine lv_istore_n (lv' := [(3, .int 0), (0, .ref hk), (1, .ref hx), (2, .int x24_2), (4, .int x24_4)]) S.x S.b d_Ker_advance_51 rfl hl (by decide) rfl (fun ls hl => ?_)
              refine lv_goto (tgt := 76) S.x S.b d_Ker_advance_52 (by decide) ?_
              obtain ⟨z81, ez81⟩ : ∃ y : Int32, y = x24_4 + 1 := ⟨_, rfl⟩
              have tz81 : z81.toInt = (x24_4.toInt + 1 + 2147483648) % 4294967296 - 2147483648 := by rw [ez81]; exact i_add x24_4 1
              have lz81 := Int32.le_toInt z81
              have uz81 := Int32.toInt_lt z81
              try replace tz81 : z81.toInt = x24_4.toInt + 1 := by omega
              refine lv_iinc (v := z81) (lv' := [(4, .int z81), (3, .int 0), (0, .ref hk), (1, .ref hx), (2, .int x24_2)]) S.x S.b d_Ker_advance_76 hl (k := 4) rfl (by rw [ez81]; rfl) (by decide) rfl (fun ls hl => ?_)
              refine lv_goto (tgt := 24) S.x S.b d_Ker_advance_79 (by decide) ?_
              exact ih24 (ce_24 + k53) (sl_24 + n54) pz37 tq38 rq39 ka40 TR41 TO42 TF43 TA44 RR45 RM46 RW47 RF48 RA49 RC50 x24_2 (0 : Int32) z81 _ _ ls (show KnI pq PV pz37 tq38 rq39 TO42 TF43 TA44 RW47 RF48 from hki) (show RoI ka40 from hro) (show RmI rq39 RM46 from hrm) (show CuT pq PV tq38 TO42 ip hx from e56) (show 0 ≤ x24_2.toInt from by first | exact k24_4 | omega) (show x24_2.toInt ≤ 1 from by first | exact k24_5 | omega) (show 0 ≤ (0 : Int) from by first | decide | omega) (show (0 : Int) ≤ 1 from by first | decide | omega) (show 0 ≤ z81.toInt from by first | exact oz_ae613611c0 tz81 k24_8 | omega) (show z81.toInt ≤ 1000000 from by first | exact oz_596acb4ef1 tz81 nc3 | omega) (show (ce_24 + k53) + (5 * ndS 13 tq38 + 4 * ndS 13 rq39 + ndS 13 RM46) ≤ 5 * ndS 13 tq + 4 * ndS 13 rq + ndS 13 RM from by first | exact oz_09730e4356 k24_10 e60 | omega) (show (sl_24 + n54) + (9804 * ndS 13 tq38 + 342 * ndS 13 rq39 + 36864 * ndS 13 RM46) ≤ 9804 * ndS 13 tq + 342 * ndS 13 rq + 36864 * ndS 13 RM from by first | exact oz_0d0bbc14c3 k24_11 e61 | omega) (show 1000000 - z81.toInt < (n_24 : Int) from by first | exact oz_301bb61272 hm tz81 | omega) hw (lv_sub hl [2, 3, 4, 1, 0] rfl)
  refine lv_iconst (v := 0) S.x S.b d_Ker_advance_0 (by decide) ?_
  obtain ⟨j82, hp82, hj82, hjq82, hto82, hf082⟩ := hcu.2
  refine lv_istore_n (lv' := [(2, .int 0), (0, .ref hk), (1, .ref hx)]) S.x S.b d_Ker_advance_1 rfl hl (by decide) rfl (fun ls hl => ?_)
  refine lv_aload_n S.x S.b d_Ker_advance_2 rfl (lv_at hl 2 rfl) ?_
  refine lv_ifnull S.x S.b d_Ker_advance_3 ?_
  refine lv_aload_n S.x S.b d_Ker_advance_6 rfl (lv_at hl 2 rfl) ?_
  have hw : pw D A s.heap _ _ [wd_Ker cs hk kr (fun _ => none) kf ka (gKe pq pz tq rq), fm 13 (fRw cs rq RR RM RW RF RA RC), fm 8 (fPp cs pq PV), fm 13 (fTx cs tq TR TO TF TA)] := hw.sub [0, 2, 3, 1] rfl rfl
  have hw : pw D A s.heap _ _ [wd_Ker cs hk kr (fun _ => none) kf ka (gKe pq pz tq rq), fm 13 (fRw cs rq RR RM RW RF RA RC), fm 8 (fPp cs pq PV), fo 13 (fTx cs tq TR TO TF TA) ip, wd_Txp cs hx (TR ip) (fun k => if k = 3 then (some hp82) else none) (TF ip) (TA ip) (fun _ _ => none)] := ftx_out (pr := [wd_Ker cs hk kr (fun _ => none) kf ka (gKe pq pz tq rq), fm 13 (fRw cs rq RR RM RW RF RA RC), fm 8 (fPp cs pq PV)]) hw hip hcu.1 hto82
  have htn83 : TxN ip (TF ip) (TA ip) := hki.2.1 ip hip _ hcu.1
  obtain ⟨lk, ⟨i2, i3⟩, ⟨i4, i5⟩, ⟨i6, i7⟩, i8, ⟨i9, i11⟩, i10, hrt⟩ := htn83.1
  have hid83 := htn83.2.1
  have hch83 := htn83.2.2
  unfold KcI at hch83
  refine px_get S k_Txp hT hw 4 0 18 (v := .int ((TF ip) 18)) rfl rfl rfl (by decide) m6_139 d_Ker_advance_7 ?_
  refine lv_bipush (v := (-2)) S.x S.b d_Ker_advance_10 (by decide) ?_
  refine lv_icmp_ne (tgt := 19) S.x S.b d_Ker_advance_12 (by decide) (fun c84 => ?_) (fun c84 => ?_)
  · have nc84 : ¬ ((TF ip) 18).toInt = (-2 : Int) := mt (i_eq (x := ((TF ip) 18)) (y := (-2))).mpr c84
    refine lv_iconst (v := 0) S.x S.b d_Ker_advance_19 (by decide) ?_
    refine lv_istore_n (lv' := [(3, .int 0), (2, .int 0), (0, .ref hk), (1, .ref hx)]) S.x S.b d_Ker_advance_20 rfl hl (by decide) rfl (fun ls hl => ?_)
    refine lv_iconst (v := 0) S.x S.b d_Ker_advance_21 (by decide) ?_
    refine lv_istore (lv' := [(4, .int 0), (3, .int 0), (2, .int 0), (0, .ref hk), (1, .ref hx)]) S.x S.b d_Ker_advance_22 hl (by decide) rfl (fun ls hl => ?_)
    have hw : pw D A s.heap _ _ [wd_Ker cs hk kr (fun _ => none) kf ka (gKe pq pz tq rq), fm 13 (fRw cs rq RR RM RW RF RA RC), fm 8 (fPp cs pq PV), fm 13 (fTx cs tq TR TO TF TA)] := ftx_back (pr := [wd_Ker cs hk kr (fun _ => none) kf ka (gKe pq pz tq rq), fm 13 (fRw cs rq RR RM RW RF RA RC), fm 8 (fPp cs pq PV)]) hw hip hcu.1 hto82
    have hw : pw D A s.heap _ _ [wd_Ker cs hk kr (fun _ => none) kf ka (gKe pq pz tq rq), fm 13 (fTx cs tq TR TO TF TA), fm 13 (fRw cs rq RR RM RW RF RA RC), fm 8 (fPp cs pq PV)] := hw.sub [0, 3, 1, 2] rfl rfl
    exact J24 ((1000000 - (0 : Int)).toNat + 1) 0 0 pz tq rq ka TR TO TF TA RR RM RW RF RA RC (0 : Int32) (0 : Int32) (0 : Int32) _ _ ls (show KnI pq PV pz tq rq TO TF TA RW RF from hki) (show RoI ka from hro) (show RmI rq RM from hrm) (show CuT pq PV tq TO ip hx from hcu) (show 0 ≤ (0 : Int) from by first | decide | omega) (show (0 : Int) ≤ 1 from by first | decide | omega) (show 0 ≤ (0 : Int) from by first | decide | omega) (show (0 : Int) ≤ 1 from by first | decide | omega) (show 0 ≤ (0 : Int) from by first | decide | omega) (show (0 : Int) ≤ 1000000 from by first | decide | omega) (show 0 + (5 * ndS 13 tq + 4 * ndS 13 rq + ndS 13 RM) ≤ 5 * ndS 13 tq + 4 * ndS 13 rq + ndS 13 RM from by first | exact oz_9d19b050ad | omega) (show 0 + (9804 * ndS 13 tq + 342 * ndS 13 rq + 36864 * ndS 13 RM) ≤ 9804 * ndS 13 tq + 342 * ndS 13 rq + 36864 * ndS 13 RM from by first | exact oz_b5592d0ae7 | omega) (show 1000000 - (0 : Int) < ((((1000000 - (0 : Int)).toNat + 1 : Nat) : Int) : Int) from by first | exact oz_natlt | omega) hw (lv_sub hl [3, 4, 2, 1, 0] rfl)
  · have nc84 : ((TF ip) 18).toInt = (-2 : Int) := (i_eq (x := ((TF ip) 18)) (y := (-2))).mp c84
    refine lv_iconst (v := 1) S.x S.b d_Ker_advance_15 (by decide) ?_
    refine lv_goto (tgt := 20) S.x S.b d_Ker_advance_16 (by decide) ?_
    refine lv_istore_n (lv' := [(3, .int 1), (2, .int 0), (0, .ref hk), (1, .ref hx)]) S.x S.b d_Ker_advance_20 rfl hl (by decide) rfl (fun ls hl => ?_)
    refine lv_iconst (v := 0) S.x S.b d_Ker_advance_21 (by decide) ?_
    refine lv_istore (lv' := [(4, .int 0), (3, .int 1), (2, .int 0), (0, .ref hk), (1, .ref hx)]) S.x S.b d_Ker_advance_22 hl (by decide) rfl (fun ls hl => ?_)
    have hw : pw D A s.heap _ _ [wd_Ker cs hk kr (fun _ => none) kf ka (gKe pq pz tq rq), fm 13 (fRw cs rq RR RM RW RF RA RC), fm 8 (fPp cs pq PV), fm 13 (fTx cs tq TR TO TF TA)] := ftx_back (pr := [wd_Ker cs hk kr (fun _ => none) kf ka (gKe pq pz tq rq), fm 13 (fRw cs rq RR RM RW RF RA RC), fm 8 (fPp cs pq PV)]) hw hip hcu.1 hto82
    have hw : pw D A s.heap _ _ [wd_Ker cs hk kr (fun _ => none) kf ka (gKe pq pz tq rq), fm 13 (fTx cs tq TR TO TF TA), fm 13 (fRw cs rq RR RM RW RF RA RC), fm 8 (fPp cs pq PV)] := hw.sub [0, 3, 1, 2] rfl rfl
    exact J24 ((1000000 - (0 : Int)).toNat + 1) 0 0 pz tq rq ka TR TO TF TA RR RM RW RF RA RC (0 : Int32) (1 : Int32) (0 : Int32) _ _ ls (show KnI pq PV pz tq rq TO TF TA RW RF from hki) (show RoI ka from hro) (show RmI rq RM from hrm) (show CuT pq PV tq TO ip hx from hcu) (show 0 ≤ (0 : Int) from by first | decide | omega) (show (0 : Int) ≤ 1 from by first | decide | omega) (show 0 ≤ (1 : Int) from by first | decide | omega) (show (1 : Int) ≤ 1 from by first | decide | omega) (show 0 ≤ (0 : Int) from by first | decide | omega) (show (0 : Int) ≤ 1000000 from by first | decide | omega) (show 0 + (5 * ndS 13 tq + 4 * ndS 13 rq + ndS 13 RM) ≤ 5 * ndS 13 tq + 4 * ndS 13 rq + ndS 13 RM from by first | exact oz_9d19b050ad | omega) (show 0 + (9804 * ndS 13 tq + 342 * ndS 13 rq + 36864 * ndS 13 RM) ≤ 9804 * ndS 13 tq + 342 * ndS 13 rq + 36864 * ndS 13 RM from by first | exact oz_b5592d0ae7 | omega) (show 1000000 - (0 : Int) < ((((1000000 - (0 : Int)).toNat + 1 : Nat) : Int) : Int) from by first | exact oz_natlt | omega) hw (lv_sub hl [3, 4, 2, 1, 0] rfl)
set_option maxHeartbeats 4000000 in
set_option maxRecDepth 100000 in
theorem c_k_advance_R (l : Launch) (D : va_G) (cs : Nat → ClassId) (hk : Nat) (kr : Nat → Nat) (pq : Nat → Option Nat) (kf : Nat → Int32) (PV : Nat → Pvs) (pz : Nat → Option Nat) (tq : Nat → Option Nat) (rq : Nat → Option Nat) (ka : Nat → Nat → Int32) (TR : Nat → Nat → Nat) (TO : Nat → Option Nat) (TF : Nat → Nat → Int32) (TA : Nat → Nat → Nat → Int32) (RR : Nat → Nat → Nat) (RM : Nat → Option Nat) (RW : Nat → Option Nat) (RF : Nat → Nat → Int32) (RA : Nat → Nat → Nat → Int32) (RC : Nat → Nat → Int32) (ip hx : Nat) (g0 : 0 ≤ (kf 8).toInt) (g1 : (kf 8).toInt ≤ 100) (hki : KnI pq PV pz tq rq TO TF TA RW RF) (hro : RoI ka) (hrm : RmI rq RM) (hip : ip < 13) (hcu : CuR pq PV rq RW ip hx) : MgI l y_Ker_advance b_Ker_advance 5 (.boolean) D cs 10 420 ((5 * ndS 13 tq + 4 * ndS 13 rq + ndS 13 RM)) ((9804 * ndS 13 tq + 342 * ndS 13 rq + 36864 * ndS 13 RM)) [.ref hk, .ref hx] [wd_Ker cs hk kr (fun _ => none) kf ka (gKe pq pz tq rq), fm 13 (fTx cs tq TR TO TF TA), fm 13 (fRw cs rq RR RM RW RF RA RC), fm 8 (fPp cs pq PV)] (fun _ => True) (fun v ps => ∃ (pz' : Nat → Option Nat) (tq' : Nat → Option Nat) (rq' : Nat → Option Nat) (ka' : Nat → Nat → Int32) (TR' : Nat → Nat → Nat) (TO' : Nat → Option Nat) (TF' : Nat → Nat → Int32) (TA' : Nat → Nat → Nat → Int32) (RR' : Nat → Nat → Nat) (RM' : Nat → Option Nat) (RW' : Nat → Option Nat) (RF' : Nat → Nat → Int32) (RA' : Nat → Nat → Nat → Int32) (RC' : Nat → Nat → Int32), (ps.1 = [wd_Ker cs hk kr (fun _ => none) kf ka' (gKe pq pz' tq' rq'), fm 13 (fTx cs tq' TR' TO' TF' TA'), fm 13 (fRw cs rq' RR' RM' RW' RF' RA' RC'), fm 8 (fPp cs pq PV)]) ∧ (v = 0 ∨ v = 1) ∧ (KnI pq PV pz' tq' rq' TO' TF' TA' RW' RF') ∧ (RoI ka') ∧ (RmI rq' RM') ∧ (ps.2.1 + (5 * ndS 13 tq' + 4 * ndS 13 rq' + ndS 13 RM') ≤ 5 * ndS 13 tq + 4 * ndS 13 rq + ndS 13 RM) ∧ (ps.2.2 + (9804 * ndS 13 tq' + 342 * ndS 13 rq' + 36864 * ndS 13 RM') ≤ 9804 * ndS 13 tq + 342 * ndS 13 rq + 36864 * ndS 13 RM)) := by
  refine pg_enter (by decide) (Nat.le_of_ble_eq_true rfl) ?_
  intro p e s m below meth c A ls hAe S hr hlk hnm hA hT hX hw hl
  replace hl : lv_has ls 5 [(0, .ref hk), (1, .ref hx)] := hl
  have cstm2 : ((-2) : Int32).toInt = (-2) := rfl
  have cst0 : (0 : Int32).toInt = 0 := rfl
  have cst1 : (1 : Int32).toInt = 1 := rfl
  have J24 : ∀ (n_24 : Nat) (ce_24 sl_24 : Nat) (pz_24 : Nat → Option Nat) (tq_24 : Nat → Option Nat) (rq_24 : Nat → Option Nat) (ka_24 : Nat → Nat → Int32) (TR_24 : Nat → Nat → Nat) (TO_24 : Nat → Option Nat) (TF_24 : Nat → Nat → Int32) (TA_24 : Nat → Nat → Nat → Int32) (RR_24 : Nat → Nat → Nat) (RM_24 : Nat → Option Nat) (RW_24 : Nat → Option Nat) (RF_24 : Nat → Nat → Int32) (RA_24 : Nat → Nat → Nat → Int32) (RC_24 : Nat → Nat → Int32) (x24_2 x24_3 x24_4 : Int32) (H : Heap) (locs : List Loc) (ls : Array Slot), (KnI pq PV pz_24 tq_24 rq_24 TO_24 TF_24 TA_24 RW_24 RF_24) → (RoI ka_24) → (RmI rq_24 RM_24) → (CuR pq PV rq_24 RW_24 ip hx) → (0 ≤ x24_2.toInt) → (x24_2.toInt ≤ 1) → (0 ≤ x24_3.toInt) → (x24_3.toInt ≤ 1) → (0 ≤ x24_4.toInt) → (x24_4.toInt ≤ 1000000) → (ce_24 + (5 * ndS 13 tq_24 + 4 * ndS 13 rq_24 + ndS 13 RM_24) ≤ 5 * ndS 13 tq + 4 * ndS 13 rq + ndS 13 RM) → (sl_24 + (9804 * ndS 13 tq_24 + 342 * ndS 13 rq_24 + 36864 * ndS 13 RM_24) ≤ 9804 * ndS 13 tq + 342 * ndS 13 rq + 36864 * ndS 13 RM) → 1000000 - x24_4.toInt < (n_24 : Int) → pw D A s.heap H locs [wd_Ker cs hk kr (fun _ => none) kf ka_24 (gKe pq pz_24 tq_24 rq_24), fm 13 (fTx cs tq_24 TR_24 TO_24 TF_24 TA_24), fm 13 (fRw cs rq_24 RR_24 RM_24 RW_24 RF_24 RA_24 RC_24), fm 8 (fPp cs pq PV)] → lv_has ls 5 [(0, .ref hk), (1, .ref hx), (2, .int x24_2), (3, .int x24_3), (4, .int x24_4)] → W p l e { frames := 10, cells := (5 * ndS 13 tq + 4 * ndS 13 rq + ndS 13 RM), slots := (9804 * ndS 13 tq + 342 * ndS 13 rq + 36864 * ndS 13 RM), locals := 420 } s m [.ref hk, .ref hx].toArray below meth c H locs ce_24 sl_24 (MQ below (va_Qi (fun v ps => ∃ (pz' : Nat → Option Nat) (tq' : Nat → Option Nat) (rq' : Nat → Option Nat) (ka' : Nat → Nat → Int32) (TR' : Nat → Nat → Nat) (TO' : Nat → Option Nat) (TF' : Nat → Nat → Int32) (TA' : Nat → Nat → Nat → Int32) (RR' : Nat → Nat → Nat) (RM' : Nat → Option Nat) (RW' : Nat → Option Nat) (RF' : Nat → Nat → Int32) (RA' : Nat → Nat → Nat → Int32) (RC' : Nat → Nat → Int32), (ps.1 = [wd_Ker cs hk kr (fun _ => none) kf ka' (gKe pq pz' tq' rq'), fm 13 (fTx cs tq' TR' TO' TF' TA'), fm 13 (fRw cs rq' RR' RM' RW' RF' RA' RC'), fm 8 (fPp cs pq PV)]) ∧ (v = 0 ∨ v = 1) ∧ (KnI pq PV pz' tq' rq' TO' TF' TA' RW' RF') ∧ (RoI ka') ∧ (RmI rq' RM') ∧ (ps.2.1 + (5 * ndS 13 tq' + 4 * ndS 13 rq' + ndS 13 RM') ≤ 5 * ndS 13 tq + 4 * ndS 13 rq + ndS 13 RM) ∧ (ps.2.2 + (9804 * ndS 13 tq' + 342 * ndS 13 rq' + 36864 * ndS 13 RM') ≤ 9804 * ndS 13 tq + 342 * ndS 13 rq + 36864 * ndS 13 RM)) (pg_B D (va_A ([wd_Ker cs hk kr (fun _ => none) kf ka (gKe pq pz tq rq), fm 13 (fTx cs tq TR TO TF TA), fm 13 (fRw cs rq RR RM RW RF RA RC), fm 8 (fPp cs pq PV)] : List va_W).flatten s.heap.size) s.heap.size (tot s.heap)) (va_A ([wd_Ker cs hk kr (fun _ => none) kf ka (gKe pq pz tq rq), fm 13 (fTx cs tq TR TO TF TA), fm 13 (fRw cs rq RR RM RW RF RA RC), fm 8 (fPp cs pq PV)] : List va_W).flatten s.heap.size)) [.ref hk, .ref hx].toArray s (5 * ndS 13 tq + 4 * ndS 13 rq + ndS 13 RM) (9804 * ndS 13 tq + 342 * ndS 13 rq + 36864 * ndS 13 RM) A) (F0 m 24 ls []) := by
    intro  n_24
    induction n_24 with
    | zero =>
      intro ce_24 sl_24 pz_24 tq_24 rq_24 ka_24 TR_24 TO_24 TF_24 TA_24 RR_24 RM_24 RW_24 RF_24 RA_24 RC_24 x24_2 x24_3 x24_4 H locs ls k24_0 k24_1 k24_2 k24_3 k24_4 k24_5 k24_6 k24_7 k24_8 k24_9 k24_10 k24_11 hm hw hl
      have lx24_2 := Int32.le_toInt x24_2
      have ux24_2 := Int32.toInt_lt x24_2
      have lx24_3 := Int32.le_toInt x24_3
      have ux24_3 := Int32.toInt_lt x24_3
      have lx24_4 := Int32.le_toInt x24_4
      have ux24_4 := Int32.toInt_lt x24_4
      have hki := k24_0
      have hro := k24_1
      have hrm := k24_2
      obtain ⟨j1, hp1, hj1, hjq1, hto1⟩ := k24_3.2
      exact absurd hm (by omega)
    | succ n_24 ih24 =>
      intro ce_24 sl_24 pz_24 tq_24 rq_24 ka_24 TR_24 TO_24 TF_24 TA_24 RR_24 RM_24 RW_24 RF_24 RA_24 RC_24 x24_2 x24_3 x24_4 H locs ls k24_0 k24_1 k24_2 k24_3 k24_4 k24_5 k24_6 k24_7 k24_8 k24_9 k24_10 k24_11 hm hw hl
      have lx24_2 := Int32.le_toInt x24_2
      have ux24_2 := Int32.toInt_lt x24_2
      have lx24_3 := Int32.le_toInt x24_3
      have ux24_3 := Int32.toInt_lt x24_3
      have lx24_4 := Int32.le_toInt x24_4
      have ux24_4 := Int32.toInt_lt x24_4
      have hki := k24_0
      have hro := k24_1
      have hrm := k24_2
      obtain ⟨j2, hp2, hj2, hjq2, hto2⟩ := k24_3.2
      refine lv_iload S.x S.b d_Ker_advance_24 (lv_at hl 4 rfl) ?_
      refine lv_ldc (v := 1000000) S.x S.b S.own (S.w m8_48) d_Ker_advance_26 ?_
      refine lv_icmp_ge (tgt := 82) S.x S.b d_Ker_advance_28 (by decide) (fun c3 => ?_) (fun c3 => ?_)
      · have nc3 : (1000000 : Int) ≤ x24_4.toInt := (i_le (x := 1000000) (y := x24_4)).mp c3
        refine lv_iload_n S.x S.b d_Ker_advance_82 rfl (lv_at hl 2 rfl) ?_
        exact pg_iret (v := x24_2) S hr (z_nar (by omega)) hlk hAe hw (show ce_24 ≤ (5 * ndS 13 tq + 4 * ndS 13 rq + ndS 13 RM) from by first | exact oz_dca5c4e7e4 k24_10 | omega) (show sl_24 ≤ (9804 * ndS 13 tq + 342 * ndS 13 rq + 36864 * ndS 13 RM) from by first | exact oz_f7eb847e67 k24_11 | omega) (⟨pz_24, tq_24, rq_24, ka_24, TR_24, TO_24, TF_24, TA_24, RR_24, RM_24, RW_24, RF_24, RA_24, RC_24, rfl, (show x24_2 = 0 ∨ x24_2 = 1 from by first | exact Or.inl rfl | exact Or.inr rfl | exact z_or (by omega)), (show KnI pq PV pz_24 tq_24 rq_24 TO_24 TF_24 TA_24 RW_24 RF_24 from hki), (show RoI ka_24 from hro), (show RmI rq_24 RM_24 from hrm), (show ce_24 + (5 * ndS 13 tq_24 + 4 * ndS 13 rq_24 + ndS 13 RM_24) ≤ 5 * ndS 13 tq + 4 * ndS 13 rq + ndS 13 RM from by first | exact k24_10 | omega), (show sl_24 + (9804 * ndS 13 tq_24 + 342 * ndS 13 rq_24 + 36864 * ndS 13 RM_24) ≤ 9804 * ndS 13 tq + 342 * ndS 13 rq + 36864 * ndS 13 RM from by first | exact k24_11 | omega)⟩) d_Ker_advance_83
      · have nc3 : ¬ (1000000 : Int) ≤ x24_4.toInt := mt (i_le (x := 1000000) (y := x24_4)).mpr c3
        refine lv_iload_n S.x S.b d_Ker_advance_31 rfl (lv_at hl 3 rfl) ?_
        refine lv_if_eq (tgt := 82) S.x S.b d_Ker_advance_32 (by decide) (fun c4 => ?_) (fun c4 => ?_)
        · have nc4 : x24_3.toInt = (0 : Int) := (i_eq (x := x24_3) (y := 0)).mp c4
          refine lv_iload_n S.x S.b d_Ker_advance_82 rfl (lv_at hl 2 rfl) ?_
          exact pg_iret (v := x24_2) S hr (z_nar (by omega)) hlk hAe hw (show ce_24 ≤ (5 * ndS 13 tq + 4 * ndS 13 rq + ndS 13 RM) from by first | exact oz_dca5c4e7e4 k24_10 | omega) (show sl_24 ≤ (9804 * ndS 13 tq + 342 * ndS 13 rq + 36864 * ndS 13 RM) from by first | exact oz_f7eb847e67 k24_11 | omega) (⟨pz_24, tq_24, rq_24, ka_24, TR_24, TO_24, TF_24, TA_24, RR_24, RM_24, RW_24, RF_24, RA_24, RC_24, rfl, (show x24_2 = 0 ∨ x24_2 = 1 from by first | exact Or.inl rfl | exact Or.inr rfl | exact z_or (by omega)), (show KnI pq PV pz_24 tq_24 rq_24 TO_24 TF_24 TA_24 RW_24 RF_24 from hki), (show RoI ka_24 from hro), (show RmI rq_24 RM_24 from hrm), (show ce_24 + (5 * ndS 13 tq_24 + 4 * ndS 13 rq_24 + ndS 13 RM_24) ≤ 5 * ndS 13 tq + 4 * ndS 13 rq + ndS 13 RM from by first | exact k24_10 | omega), (show sl_24 + (9804 * ndS 13 tq_24 + 342 * ndS 13 rq_24 + 36864 * ndS 13 RM_24) ≤ 9804 * ndS 13 tq + 342 * ndS 13 rq + 36864 * ndS 13 RM from by first | exact k24_11 | omega)⟩) d_Ker_advance_83
        · have nc4 : ¬ x24_3.toInt = (0 : Int) := mt (i_eq (x := x24_3) (y := 0)).mpr c4
          refine lv_aload_n S.x S.b d_Ker_advance_35 rfl (lv_at hl 1 rfl) ?_
          have hw : pw D A s.heap _ _ [wd_Ker cs hk kr (fun _ => none) kf ka_24 (gKe pq pz_24 tq_24 rq_24), fm 13 (fTx cs tq_24 TR_24 TO_24 TF_24 TA_24), fm 8 (fPp cs pq PV), fm 13 (fRw cs rq_24 RR_24 RM_24 RW_24 RF_24 RA_24 RC_24)] := hw.sub [0, 1, 3, 2] rfl rfl
          have hw : pw D A s.heap _ _ [wd_Ker cs hk kr (fun _ => none) kf ka_24 (gKe pq pz_24 tq_24 rq_24), fm 13 (fTx cs tq_24 TR_24 TO_24 TF_24 TA_24), fm 8 (fPp cs pq PV), fo 13 (fRw cs rq_24 RR_24 RM_24 RW_24 RF_24 RA_24 RC_24) ip, wd_Raw cs hx (RR_24 ip) (fun k => if k = 2 then (RM_24 ip) else if k = 4 then (some ((PV j2).r 1)) else none) (RF_24 ip) (RA_24 ip) (fun _ _ => none), nA cs (RM_24 ip) 36864 (RC_24 ip)] := frw_out (pr := [wd_Ker cs hk kr (fun _ => none) kf ka_24 (gKe pq pz_24 tq_24 rq_24), fm 13 (fTx cs tq_24 TR_24 TO_24 TF_24 TA_24), fm 8 (fPp cs pq PV)]) hw hip k24_3.1 hto2
          have hng5 := ndS_ge 13 RM_24 ip hip
          have hrn5 : RwN ip (RF_24 ip) := hki.2.2.1 ip hip _ k24_3.1
          have hro5 := hrn5.1
          unfold RwO at hro5
          have hid5 := hrn5.2.1
          have hch5 := hrn5.2.2
          unfold KcI at hch5
          refine px_get S k_Raw hT hw 4 0 14 (v := .int ((RF_24 ip) 14)) rfl rfl rfl (by decide) m6_155 d_Ker_advance_36 ?_
          refine lv_if_eq (tgt := 55) S.x S.b d_Ker_advance_39 (by decide) (fun c6 => ?_) (fun c6 => ?_)
          · have nc6 : ((RF_24 ip) 14).toInt = (0 : Int) := (i_eq (x := ((RF_24 ip) 14)) (y := 0)).mp c6
            refine lv_iconst (v := 1) S.x S.b d_Ker_advance_55 (by decide) ?_
            refine lv_istore_n (lv' := [(2, .int 1), (0, .ref hk), (1, .ref hx), (3, .int x24_3), (4, .int x24_4)]) S.x S.b d_Ker_advance_56 rfl hl (by decide) rfl (fun ls hl => ?_)
            refine lv_aload_n S.x S.b d_Ker_advance_57 rfl (lv_at hl 2 rfl) ?_
            have hw : pw D A s.heap _ _ [wd_Ker cs hk kr (fun _ => none) kf ka_24 (gKe pq pz_24 tq_24 rq_24), fm 13 (fTx cs tq_24 TR_24 TO_24 TF_24 TA_24), fo 13 (fRw cs rq_24 RR_24 RM_24 RW_24 RF_24 RA_24 RC_24) ip, wd_Raw cs hx (RR_24 ip) (fun k => if k = 2 then (RM_24 ip) else if k = 4 then (some ((PV j2).r 1)) else none) (RF_24 ip) (RA_24 ip) (fun _ _ => none), nA cs (RM_24 ip) 36864 (RC_24 ip), fm 8 (fPp cs pq PV)] := hw.sub [0, 1, 3, 4, 5, 2] rfl rfl
            have hw : pw D A s.heap _ _ [wd_Ker cs hk kr (fun _ => none) kf ka_24 (gKe pq pz_24 tq_24 rq_24), fm 13 (fTx cs tq_24 TR_24 TO_24 TF_24 TA_24), fo 13 (fRw cs rq_24 RR_24 RM_24 RW_24 RF_24 RA_24 RC_24) ip, wd_Raw cs hx (RR_24 ip) (fun k => if k = 2 then (RM_24 ip) else if k = 4 then (some ((PV j2).r 1)) else none) (RF_24 ip) (RA_24 ip) (fun _ _ => none), nA cs (RM_24 ip) 36864 (RC_24 ip), fo 8 (fPp cs pq PV) j2, wd_Prg cs hp2 (PV j2).r (fun k => if k = 2 then (PV j2).o else none) (PV j2).f (fun _ _ => 0) (fun _ _ => none), nA cs (PV j2).o (PV j2).fn (PV j2).fd, [(((PV j2).r 1), .inl (cs 0, (PV j2).cn, .inl (PV j2).cd))]] := fpp_out (pr := [wd_Ker cs hk kr (fun _ => none) kf ka_24 (gKe pq pz_24 tq_24 rq_24), fm 13 (fTx cs tq_24 TR_24 TO_24 TF_24 TA_24), fo 13 (fRw cs rq_24 RR_24 RM_24 RW_24 RF_24 RA_24 RC_24) ip, wd_Raw cs hx (RR_24 ip) (fun k => if k = 2 then (RM_24 ip) else if k = 4 then (some ((PV j2).r 1)) else none) (RF_24 ip) (RA_24 ip) (fun _ _ => none), nA cs (RM_24 ip) 36864 (RC_24 ip)]) hw hj2 hjq2
            have hpv7 := hki.1 j2 hj2 _ hjq2
            have hpn7 := hpv7.1
            have hpz7 := hpv7.2.1
            have hw : pw D A s.heap _ _ [wd_Ker cs hk kr (fun _ => none) kf ka_24 (gKe pq pz_24 tq_24 rq_24), fm 13 (fTx cs tq_24 TR_24 TO_24 TF_24 TA_24), fo 13 (fRw cs rq_24 RR_24 RM_24 RW_24 RF_24 RA_24 RC_24) ip, fo 8 (fPp cs pq PV) j2, wd_Prg cs hp2 (PV j2).r (fun k => if k = 2 then (PV j2).o else none) (PV j2).f (fun _ _ => 0) (fun _ _ => none), nA cs (PV j2).o (PV j2).fn (PV j2).fd, wd_Raw cs hx (RR_24 ip) (fun k => if k = 2 then (RM_24 ip) else if k = 4 then (some ((PV j2).r 1)) else none) (RF_24 ip) (RA_24 ip) (fun _ _ => none), nA cs (RM_24 ip) 36864 (RC_24 ip), [(((PV j2).r 1), .inl (cs 0, (PV j2).cn, .inl (PV j2).cd))]] := hw.sub [0, 1, 2, 5, 6, 7, 3, 4, 8] rfl rfl
            refine pg_callv (pr := [wd_Ker cs hk kr (fun _ => none) kf ka_24 (gKe pq pz_24 tq_24 rq_24), fm 13 (fTx cs tq_24 TR_24 TO_24 TF_24 TA_24), fo 13 (fRw cs rq_24 RR_24 RM_24 RW_24 RF_24 RA_24 RC_24) ip, fo 8 (fPp cs pq PV) j2, wd_Prg cs hp2 (PV j2).r (fun k => if k = 2 then (PV j2).o else none) (PV j2).f (fun _ _ => 0) (fun _ _ => none), nA cs (PV j2).o (PV j2).fn (PV j2).fd]) (px_runA (As := []) (rest := []) S (c_Raw_go l D cs hx (RR_24 ip) (fun _ _ => none) (some ((PV j2).r 1)) (PV j2).cn (PV j2).cd (RF_24 ip) (RA_24 ip) (RM_24 ip) (RC_24 ip)   (show 0 ≤ ((RF_24 ip) 7).toInt from by first | with_reducible rfl | with_reducible assumption | omega) (show ((RF_24 ip) 7).toInt ≤ 1600 from by first | with_reducible rfl | with_reducible assumption | omega) (show 0 ≤ ((RF_24 ip) 10).toInt from by first | with_reducible rfl | with_reducible assumption | omega) (show ((RF_24 ip) 10).toInt + ((RF_24 ip) 7).toInt ≤ 1600 from by first | with_reducible rfl | with_reducible assumption | omega) (show ((RF_24 ip) 14).toInt = 0 ∨ ((RF_24 ip) 14).toInt = 1 from by first | with_reducible rfl | with_reducible assumption | omega) (show ((RF_24 ip) 14).toInt = 1 → 1 ≤ ((RF_24 ip) 7).toInt from by first | with_reducible rfl | with_reducible assumption | omega) (show (PV j2).cn ≤ 1000000 from by first | with_reducible rfl | with_reducible assumption | omega) _ _) hT (pr := [wd_Ker cs hk kr (fun _ => none) kf ka_24 (gKe pq pz_24 tq_24 rq_24), fm 13 (fTx cs tq_24 TR_24 TO_24 TF_24 TA_24), fo 13 (fRw cs rq_24 RR_24 RM_24 RW_24 RF_24 RA_24 RC_24) ip, fo 8 (fPp cs pq PV) j2, wd_Prg cs hp2 (PV j2).r (fun k => if k = 2 then (PV j2).o else none) (PV j2).f (fun _ _ => 0) (fun _ _ => none), nA cs (PV j2).o (PV j2).fn (PV j2).fd]) (pcs := [wd_Raw cs hx (RR_24 ip) (fun k => if k = 2 then (RM_24 ip) else if k = 4 then (some ((PV j2).r 1)) else none) (RF_24 ip) (RA_24 ip) (fun _ _ => none), nA cs (RM_24 ip) 36864 (RC_24 ip), [(((PV j2).r 1), .inl (cs 0, (PV j2).cn, .inl (PV j2).cd))]]) hw (px_X.tot px_X.tt) (C := "HomeSystem$RawProcess") (owner := "HomeSystem$AnyProcess") (x := ⟨"HomeSystem$AnyProcess", "go", "()V"⟩) (px_recv hT hw 6 0 rfl rfl rfl) m8_168 m8_163 m8_165 m8_167 m8_166 m1_34 m8_164n ⟨by decide, by decide⟩ rfl q_Raw_go ⟨Nat.le_of_ble_eq_true rfl, Nat.le_of_ble_eq_true rfl⟩ hl.1 rfl (Nat.le_of_ble_eq_true rfl) d_Ker_advance_58 ⟨show ce_24 + (nd (RM_24 ip)) ≤ (5 * ndS 13 tq + 4 * ndS 13 rq + ndS 13 RM) from by first | with_reducible rfl | with_reducible assumption | omega, show sl_24 + (36864 * nd (RM_24 ip)) ≤ (9804 * ndS 13 tq + 342 * ndS 13 rq + 36864 * ndS 13 RM) from by first | with_reducible rfl | with_reducible assumption | omega⟩) hw hA (fun p12 k14 n15 H locs hp12 hw => ?_)
            dsimp only at hp12
            obtain ⟨f8, a9, o210, ma11, rfl, e16, e17, e18, e19, e20, e21, e22, e23, e24, e25, e26⟩ := hp12
            replace e16 : 0 ≤ (f8 7).toInt := e16
            replace e17 : (f8 7).toInt ≤ 1600 := e17
            replace e18 : 0 ≤ (f8 10).toInt := e18
            replace e19 : (f8 10).toInt + (f8 7).toInt ≤ 1600 := e19
            replace e20 : (f8 14).toInt = 0 ∨ (f8 14).toInt = 1 := e20
            replace e21 : (f8 14).toInt = 1 → 1 ≤ (f8 7).toInt := e21
            replace e22 : (f8 8).toInt = ((RF_24 ip) 8).toInt := e22
            replace e23 : (f8 10).toInt = ((RF_24 ip) 10).toInt := e23
            replace e24 : (f8 13).toInt = ((RF_24 ip) 13).toInt := e24
            replace e25 : k14 + nd o210 ≤ nd (RM_24 ip) := e25
            replace e26 : n15 + 36864 * nd o210 ≤ 36864 * nd (RM_24 ip) := e26
            replace hw : pw D A s.heap H locs [wd_Ker cs hk kr (fun _ => none) kf ka_24 (gKe pq pz_24 tq_24 rq_24), fm 13 (fTx cs tq_24 TR_24 TO_24 TF_24 TA_24), fo 13 (fRw cs rq_24 RR_24 RM_24 RW_24 RF_24 RA_24 RC_24) ip, fo 8 (fPp cs pq PV) j2, wd_Prg cs hp2 (PV j2).r (fun k => if k = 2 then (PV j2).o else none) (PV j2).f (fun _ _ => 0) (fun _ _ => none), nA cs (PV j2).o (PV j2).fn (PV j2).fd, wd_Raw cs hx (RR_24 ip) (fun k => if k = 2 then o210 else if k = 4 then (some ((PV j2).r 1)) else none) f8 a9 (fun _ _ => none), nA cs o210 36864 ma11, nA cs (some ((PV j2).r 1)) (PV j2).cn (PV j2).cd] := hw
            refine lv_aload_n S.x S.b d_Ker_advance_61 rfl (lv_at hl 2 rfl) ?_
            refine px_get S k_Raw hT hw 6 0 11 (v := .int (f8 11)) rfl rfl rfl (by decide) m6_139 d_Ker_advance_62 ?_
            refine lv_bipush (v := (-2)) S.x S.b d_Ker_advance_65 (by decide) ?_
            refine lv_icmp_ne (tgt := 74) S.x S.b d_Ker_advance_67 (by decide) (fun c27 => ?_) (fun c27 => ?_)
            · have nc27 : ¬ (f8 11).toInt = (-2 : Int) := mt (i_eq (x := (f8 11)) (y := (-2))).mpr c27
              refine lv_iconst (v := 0) S.x S.b d_Ker_advance_74 (by decide) ?_
              refine lv_istore_n (lv' := [(3, .int 0), (2, .int 1), (0, .ref hk), (1, .ref hx), (4, .int x24_4)]) S.x S.b d_Ker_advance_75 rfl hl (by decide) rfl (fun ls hl => ?_)
              obtain ⟨z28, ez28⟩ : ∃ y : Int32, y = x24_4 + 1 := ⟨_, rfl⟩
              have tz28 : z28.toInt = (x24_4.toInt + 1 + 2147483648) % 4294967296 - 2147483648 := by rw [ez28]; exact i_add x24_4 1
              have lz28 := Int32.le_toInt z28
              have uz28 := Int32.toInt_lt z28
              try replace tz28 : z28.toInt = x24_4.toInt + 1 := by omega
              refine lv_iinc (v := z28) (lv' := [(4, .int z28), (3, .int 0), (2, .int 1), (0, .ref hk), (1, .ref hx)]) S.x S.b d_Ker_advance_76 hl (k := 4) rfl (by rw [ez28]; rfl) (by decide) rfl (fun ls hl => ?_)
              refine lv_goto (tgt := 24) S.x S.b d_Ker_advance_79 (by decide) ?_
              have hw : pw D A s.heap _ _ [wd_Ker cs hk kr (fun _ => none) kf ka_24 (gKe pq pz_24 tq_24 rq_24), fm 13 (fTx cs tq_24 TR_24 TO_24 TF_24 TA_24), fo 13 (fRw cs rq_24 RR_24 RM_24 RW_24 RF_24 RA_24 RC_24) ip, fo 8 (fPp cs pq PV) j2, wd_Prg cs hp2 (PV j2).r (fun k => if k = 2 then (PV j2).o else none) (PV j2).f (fun _ _ => 0) (fun _ _ => none), nA cs (PV j2).o (PV j2).fn (PV j2).fd, wd_Raw cs hx (RR_24 ip) (fun k => if k = 2 then o210 else if k = 4 then (some ((PV j2).r 1)) else none) f8 a9 (fun _ _ => none), nA cs o210 36864 ma11, [(((PV j2).r 1), .inl (cs 0, (PV j2).cn, .inl (PV j2).cd))]] := hw.eq rfl
              have hw : pw D A s.heap _ _ [wd_Ker cs hk kr (fun _ => none) kf ka_24 (gKe pq pz_24 tq_24 rq_24), fm 13 (fTx cs tq_24 TR_24 TO_24 TF_24 TA_24), fo 13 (fRw cs rq_24 RR_24 RM_24 RW_24 RF_24 RA_24 RC_24) ip, wd_Raw cs hx (RR_24 ip) (fun k => if k = 2 then o210 else if k = 4 then (some ((PV j2).r 1)) else none) f8 a9 (fun _ _ => none), nA cs o210 36864 ma11, fo 8 (fPp cs pq PV) j2, wd_Prg cs hp2 (PV j2).r (fun k => if k = 2 then (PV j2).o else none) (PV j2).f (fun _ _ => 0) (fun _ _ => none), nA cs (PV j2).o (PV j2).fn (PV j2).fd, [(((PV j2).r 1), .inl (cs 0, (PV j2).cn, .inl (PV j2).cd))]] := hw.sub [0, 1, 2, 6, 7, 3, 4, 5, 8] rfl rfl
              have hw : pw D A s.heap _ _ [wd_Ker cs hk kr (fun _ => none) kf ka_24 (gKe pq pz_24 tq_24 rq_24), fm 13 (fTx cs tq_24 TR_24 TO_24 TF_24 TA_24), fo 13 (fRw cs rq_24 RR_24 RM_24 RW_24 RF_24 RA_24 RC_24) ip, wd_Raw cs hx (RR_24 ip) (fun k => if k = 2 then o210 else if k = 4 then (some ((PV j2).r 1)) else none) f8 a9 (fun _ _ => none), nA cs o210 36864 ma11, fm 8 (fPp cs pq PV)] := fpp_back (pr := [wd_Ker cs hk kr (fun _ => none) kf ka_24 (gKe pq pz_24 tq_24 rq_24), fm 13 (fTx cs tq_24 TR_24 TO_24 TF_24 TA_24), fo 13 (fRw cs rq_24 RR_24 RM_24 RW_24 RF_24 RA_24 RC_24) ip, wd_Raw cs hx (RR_24 ip) (fun k => if k = 2 then o210 else if k = 4 then (some ((PV j2).r 1)) else none) f8 a9 (fun _ _ => none), nA cs o210 36864 ma11]) hw hj2 hjq2
              have hw : pw D A s.heap _ _ [wd_Ker cs hk kr (fun _ => none) kf ka_24 (gKe pq pz_24 tq_24 rq_24), fm 13 (fTx cs tq_24 TR_24 TO_24 TF_24 TA_24), fm 8 (fPp cs pq PV), fo 13 (fRw cs rq_24 RR_24 RM_24 RW_24 RF_24 RA_24 RC_24) ip, wd_Raw cs hx (RR_24 ip) (fun k => if k = 2 then o210 else if k = 4 then (some ((PV j2).r 1)) else none) f8 a9 (fun _ _ => none), nA cs o210 36864 ma11] := hw.sub [0, 1, 5, 2, 3, 4] rfl rfl
              have hw := frw_in0 (pr := [wd_Ker cs hk kr (fun _ => none) kf ka_24 (gKe pq pz_24 tq_24 rq_24), fm 13 (fTx cs tq_24 TR_24 TO_24 TF_24 TA_24), fm 8 (fPp cs pq PV)]) hw hip k24_3.1 hto2
              obtain ⟨RM29, hu_RM29⟩ : ∃ y : Nat → Option Nat, y = va_up RM_24 ip o210 := ⟨_, rfl⟩
              obtain ⟨RF30, hu_RF30⟩ : ∃ y : Nat → Nat → Int32, y = va_up RF_24 ip f8 := ⟨_, rfl⟩
              obtain ⟨RA31, hu_RA31⟩ : ∃ y : Nat → Nat → Nat → Int32, y = va_up RA_24 ip a9 := ⟨_, rfl⟩
              obtain ⟨RC32, hu_RC32⟩ : ∃ y : Nat → Nat → Int32, y = va_up RC_24 ip ma11 := ⟨_, rfl⟩
              have hw : pw D A s.heap _ _ [wd_Ker cs hk kr (fun _ => none) kf ka_24 (gKe pq pz_24 tq_24 rq_24), fm 13 (fTx cs tq_24 TR_24 TO_24 TF_24 TA_24), fm 8 (fPp cs pq PV), fm 13 (fRw cs rq_24 RR_24 RM29 RW_24 RF30 RA31 RC32)] := (by rw [hu_RM29, hu_RF30, hu_RA31, hu_RC32]; exact hw)
              have hki : KnI pq PV pz_24 tq_24 rq_24 TO_24 TF_24 TA_24 RW_24 RF30 := (by rw [hu_RF30]; exact hki.upR (show RwN ip f8 from ⟨(show (0 ≤ (f8 7).toInt ∧ (f8 7).toInt ≤ 1600) ∧ (0 ≤ (f8 10).toInt ∧ (f8 10).toInt + (f8 7).toInt ≤ 1600) ∧ ((f8 14).toInt = 0 ∨ (f8 14).toInt = 1) ∧ ((f8 14).toInt = 1 → 1 ≤ (f8 7).toInt) from by first | with_reducible rfl | with_reducible assumption | omega), (show ((f8 8).toInt) = ((ip : Nat) : Int) from by first | with_reducible rfl | with_reducible assumption | omega), (show 0 ≤ (f8 13).toInt ∧ (f8 13).toInt ≤ 3 ∧ ((f8 13).toInt = 0 ∨ 3 * ((ip : Nat) : Int) + (f8 13).toInt ≤ 12) from by first | with_reducible rfl | with_reducible assumption | omega)⟩))
              have hrm : RmI rq_24 RM29 := (by rw [hu_RM29]; exact hrm.up k24_3.1)
              have hnd_RM29 := ndS_up 13 RM_24 ip o210 hip; rw [← hu_RM29] at hnd_RM29
              have hz14_RF30 : (RF30 ip 14).toInt = (f8 14).toInt := (by rw [hu_RF30, va_up_s]; try rfl)
              have hw : pw D A s.heap _ _ [wd_Ker cs hk kr (fun _ => none) kf ka_24 (gKe pq pz_24 tq_24 rq_24), fm 13 (fTx cs tq_24 TR_24 TO_24 TF_24 TA_24), fm 13 (fRw cs rq_24 RR_24 RM29 RW_24 RF30 RA31 RC32), fm 8 (fPp cs pq PV)] := hw.sub [0, 1, 3, 2] rfl rfl
              exact ih24 (ce_24 + k14) (sl_24 + n15) pz_24 tq_24 rq_24 ka_24 TR_24 TO_24 TF_24 TA_24 RR_24 RM29 RW_24 RF30 RA31 RC32 (1 : Int32) (0 : Int32) z28 _ _ ls (show KnI pq PV pz_24 tq_24 rq_24 TO_24 TF_24 TA_24 RW_24 RF30 from hki) (show RoI ka_24 from hro) (show RmI rq_24 RM29 from hrm) (show CuR pq PV rq_24 RW_24 ip hx from k24_3) (show 0 ≤ (1 : Int) from by first | decide | omega) (show (1 : Int) ≤ 1 from by first | decide | omega) (show 0 ≤ (0 : Int) from by first | decide | omega) (show (0 : Int) ≤ 1 from by first | decide | omega) (show 0 ≤ z28.toInt from by first | exact oz_ae613611c0 tz28 k24_8 | omega) (show z28.toInt ≤ 1000000 from by first | exact oz_596acb4ef1 tz28 nc3 | omega) (show (ce_24 + k14) + (5 * ndS 13 tq_24 + 4 * ndS 13 rq_24 + ndS 13 RM29) ≤ 5 * ndS 13 tq + 4 * ndS 13 rq + ndS 13 RM from by first | with_reducible rfl | with_reducible assumption | omega) (show (sl_24 + n15) + (9804 * ndS 13 tq_24 + 342 * ndS 13 rq_24 + 36864 * ndS 13 RM29) ≤ 9804 * ndS 13 tq + 342 * ndS 13 rq + 36864 * ndS 13 RM from by first | with_reducible rfl | with_reducible assumption | omega) (show 1000000 - z28.toInt < (n_24 : Int) from by first | exact oz_301bb61272 hm tz28 | omega) hw (lv_sub hl [3, 4, 2, 1, 0] rfl)
            · have nc27 : (f8 11).toInt = (-2 : Int) := (i_eq (x := (f8 11)) (y := (-2))).mp c27
              refine lv_iconst (v := 1) S.x S.b d_Ker_advance_70 (by decide) ?_
              refine lv_goto (tgt := 75) S.x S.b d_Ker_advance_71 (by decide) ?_
              refine lv_istore_n (lv' := [(3, .int 1), (2, .int 1), (0, .ref hk), (1, .ref hx), (4, .int x24_4)]) S.x S.b d_Ker_advance_75 rfl hl (by decide) rfl (fun ls hl => ?_)
              obtain ⟨z33, ez33⟩ : ∃ y : Int32, y = x24_4 + 1 := ⟨_, rfl⟩
              have tz33 : z33.toInt = (x24_4.toInt + 1 + 2147483648) % 4294967296 - 2147483648 := by rw [ez33]; exact i_add x24_4 1
              have lz33 := Int32.le_toInt z33
              have uz33 := Int32.toInt_lt z33
              try replace tz33 : z33.toInt = x24_4.toInt + 1 := by omega
              refine lv_iinc (v := z33) (lv' := [(4, .int z33), (3, .int 1), (2, .int 1), (0, .ref hk), (1, .ref hx)]) S.x S.b d_Ker_advance_76 hl (k := 4) rfl (by rw [ez33]; rfl) (by decide) rfl (fun ls hl => ?_)
              refine lv_goto (tgt := 24) S.x S.b d_Ker_advance_79 (by decide) ?_
              have hw : pw D A s.heap _ _ [wd_Ker cs hk kr (fun _ => none) kf ka_24 (gKe pq pz_24 tq_24 rq_24), fm 13 (fTx cs tq_24 TR_24 TO_24 TF_24 TA_24), fo 13 (fRw cs rq_24 RR_24 RM_24 RW_24 RF_24 RA_24 RC_24) ip, fo 8 (fPp cs pq PV) j2, wd_Prg cs hp2 (PV j2).r (fun k => if k = 2 then (PV j2).o else none) (PV j2).f (fun _ _ => 0) (fun _ _ => none), nA cs (PV j2).o (PV j2).fn (PV j2).fd, wd_Raw cs hx (RR_24 ip) (fun k => if k = 2 then o210 else if k = 4 then (some ((PV j2).r 1)) else none) f8 a9 (fun _ _ => none), nA cs o210 36864 ma11, [(((PV j2).r 1), .inl (cs 0, (PV j2).cn, .inl (PV j2).cd))]] := hw.eq rfl
              have hw : pw D A s.heap _ _ [wd_Ker cs hk kr (fun _ => none) kf ka_24 (gKe pq pz_24 tq_24 rq_24), fm 13 (fTx cs tq_24 TR_24 TO_24 TF_24 TA_24), fo 13 (fRw cs rq_24 RR_24 RM_24 RW_24 RF_24 RA_24 RC_24) ip, wd_Raw cs hx (RR_24 ip) (fun k => if k = 2 then o210 else if k = 4 then (some ((PV j2).r 1)) else none) f8 a9 (fun _ _ => none), nA cs o210 36864 ma11, fo 8 (fPp cs pq PV) j2, wd_Prg cs hp2 (PV j2).r (fun k => if k = 2 then (PV j2).o else none) (PV j2).f (fun _ _ => 0) (fun _ _ => none), nA cs (PV j2).o (PV j2).fn (PV j2).fd, [(((PV j2).r 1), .inl (cs 0, (PV j2).cn, .inl (PV j2).cd))]] := hw.sub [0, 1, 2, 6, 7, 3, 4, 5, 8] rfl rfl
              have hw : pw D A s.heap _ _ [wd_Ker cs hk kr (fun _ => none) kf ka_24 (gKe pq pz_24 tq_24 rq_24), fm 13 (fTx cs tq_24 TR_24 TO_24 TF_24 TA_24), fo 13 (fRw cs rq_24 RR_24 RM_24 RW_24 RF_24 RA_24 RC_24) ip, wd_Raw cs hx (RR_24 ip) (fun k => if k = 2 then o210 else if k = 4 then (some ((PV j2).r 1)) else none) f8 a9 (fun _ _ => none), nA cs o210 36864 ma11, fm 8 (fPp cs pq PV)] := fpp_back (pr := [wd_Ker cs hk kr (fun _ => none) kf ka_24 (gKe pq pz_24 tq_24 rq_24), fm 13 (fTx cs tq_24 TR_24 TO_24 TF_24 TA_24), fo 13 (fRw cs rq_24 RR_24 RM_24 RW_24 RF_24 RA_24 RC_24) ip, wd_Raw cs hx (RR_24 ip) (fun k => if k = 2 then o210 else if k = 4 then (some ((PV j2).r 1)) else none) f8 a9 (fun _ _ => none), nA cs o210 36864 ma11]) hw hj2 hjq2
              have hw : pw D A s.heap _ _ [wd_Ker cs hk kr (fun _ => none) kf ka_24 (gKe pq pz_24 tq_24 rq_24), fm 13 (fTx cs tq_24 TR_24 TO_24 TF_24 TA_24), fm 8 (fPp cs pq PV), fo 13 (fRw cs rq_24 RR_24 RM_24 RW_24 RF_24 RA_24 RC_24) ip, wd_Raw cs hx (RR_24 ip) (fun k => if k = 2 then o210 else if k = 4 then (some ((PV j2).r 1)) else none) f8 a9 (fun _ _ => none), nA cs o210 36864 ma11] := hw.sub [0, 1, 5, 2, 3, 4] rfl rfl
              have hw := frw_in0 (pr := [wd_Ker cs hk kr (fun _ => none) kf ka_24 (gKe pq pz_24 tq_24 rq_24), fm 13 (fTx cs tq_24 TR_24 TO_24 TF_24 TA_24), fm 8 (fPp cs pq PV)]) hw hip k24_3.1 hto2
              obtain ⟨RM34, hu_RM34⟩ : ∃ y : Nat → Option Nat, y = va_up RM_24 ip o210 := ⟨_, rfl⟩
              obtain ⟨RF35, hu_RF35⟩ : ∃ y : Nat → Nat → Int32, y = va_up RF_24 ip f8 := ⟨_, rfl⟩
              obtain ⟨RA36, hu_RA36⟩ : ∃ y : Nat → Nat → Nat → Int32, y = va_up RA_24 ip a9 := ⟨_, rfl⟩
              obtain ⟨RC37, hu_RC37⟩ : ∃ y : Nat → Nat → Int32, y = va_up RC_24 ip ma11 := ⟨_, rfl⟩
              have hw : pw D A s.heap _ _ [wd_Ker cs hk kr (fun _ => none) kf ka_24 (gKe pq pz_24 tq_24 rq_24), fm 13 (fTx cs tq_24 TR_24 TO_24 TF_24 TA_24), fm 8 (fPp cs pq PV), fm 13 (fRw cs rq_24 RR_24 RM34 RW_24 RF35 RA36 RC37)] := (by rw [hu_RM34, hu_RF35, hu_RA36, hu_RC37]; exact hw)
              have hki : KnI pq PV pz_24 tq_24 rq_24 TO_24 TF_24 TA_24 RW_24 RF35 := (by rw [hu_RF35]; exact hki.upR (show RwN ip f8 from ⟨(show (0 ≤ (f8 7).toInt ∧ (f8 7).toInt ≤ 1600) ∧ (0 ≤ (f8 10).toInt ∧ (f8 10).toInt + (f8 7).toInt ≤ 1600) ∧ ((f8 14).toInt = 0 ∨ (f8 14).toInt = 1) ∧ ((f8 14).toInt = 1 → 1 ≤ (f8 7).toInt) from by first | with_reducible rfl | with_reducible assumption | omega), (show ((f8 8).toInt) = ((ip : Nat) : Int) from by first | with_reducible rfl | with_reducible assumption | omega), (show 0 ≤ (f8 13).toInt ∧ (f8 13).toInt ≤ 3 ∧ ((f8 13).toInt = 0 ∨ 3 * ((ip : Nat) : Int) + (f8 13).toInt ≤ 12) from by first | with_reducible rfl | with_reducible assumption | omega)⟩))
              have hrm : RmI rq_24 RM34 := (by rw [hu_RM34]; exact hrm.up k24_3.1)
              have hnd_RM34 := ndS_up 13 RM_24 ip o210 hip; rw [← hu_RM34] at hnd_RM34
              have hz14_RF35 : (RF35 ip 14).toInt = (f8 14).toInt := (by rw [hu_RF35, va_up_s]; try rfl)
              have hw : pw D A s.heap _ _ [wd_Ker cs hk kr (fun _ => none) kf ka_24 (gKe pq pz_24 tq_24 rq_24), fm 13 (fTx cs tq_24 TR_24 TO_24 TF_24 TA_24), fm 13 (fRw cs rq_24 RR_24 RM34 RW_24 RF35 RA36 RC37), fm 8 (fPp cs pq PV)] := hw.sub [0, 1, 3, 2] rfl rfl
              exact ih24 (ce_24 + k14) (sl_24 + n15) pz_24 tq_24 rq_24 ka_24 TR_24 TO_24 TF_24 TA_24 RR_24 RM34 RW_24 RF35 RA36 RC37 (1 : Int32) (1 : Int32) z33 _ _ ls (show KnI pq PV pz_24 tq_24 rq_24 TO_24 TF_24 TA_24 RW_24 RF35 from hki) (show RoI ka_24 from hro) (show RmI rq_24 RM34 from hrm) (show CuR pq PV rq_24 RW_24 ip hx from k24_3) (show 0 ≤ (1 : Int) from by first | decide | omega) (show (1 : Int) ≤ 1 from by first | decide | omega) (show 0 ≤ (1 : Int) from by first | decide | omega) (show (1 : Int) ≤ 1 from by first | decide | omega) (show 0 ≤ z33.toInt from by first | exact oz_ae613611c0 tz33 k24_8 | omega) (show z33.toInt ≤ 1000000 from by first | exact oz_596acb4ef1 tz33 nc3 | omega) (show (ce_24 + k14) + (5 * ndS 13 tq_24 + 4 * ndS 13 rq_24 + ndS 13 RM34) ≤ 5 * ndS 13 tq + 4 * ndS 13 rq + ndS 13 RM from by first | with_reducible rfl | with_reducible assumption | omega) (show (sl_24 + n15) + (9804 * ndS 13 tq_24 + 342 * ndS 13 rq_24 + 36864 * ndS 13 RM34) ≤ 9804 * ndS 13 tq + 342 * ndS 13 rq + 36864 * ndS 13 RM from by first | with_reducible rfl | with_reducible assumption | omega) (show 1000000 - z33.toInt < (n_24 : Int) from by first | exact oz_301bb61272 hm tz33 | omega) hw (lv_sub hl [3, 4, 2, 1, 0] rfl)
          · have nc6 : ¬ ((RF_24 ip) 14).toInt = (0 : Int) := mt (i_eq (x := ((RF_24 ip) 14)) (y := 0)).mpr c6
            refine lv_aload_n S.x S.b d_Ker_advance_42 rfl (lv_at hl 0 rfl) ?_
            refine lv_aload_n S.x S.b d_Ker_advance_43 rfl (lv_at hl 1 rfl) ?_
            have hw : pw D A s.heap _ _ [wd_Ker cs hk kr (fun _ => none) kf ka_24 (gKe pq pz_24 tq_24 rq_24), fm 13 (fTx cs tq_24 TR_24 TO_24 TF_24 TA_24), fm 8 (fPp cs pq PV), fm 13 (fRw cs rq_24 RR_24 RM_24 RW_24 RF_24 RA_24 RC_24)] := frw_back (pr := [wd_Ker cs hk kr (fun _ => none) kf ka_24 (gKe pq pz_24 tq_24 rq_24), fm 13 (fTx cs tq_24 TR_24 TO_24 TF_24 TA_24), fm 8 (fPp cs pq PV)]) hw hip k24_3.1 hto2
            have hw : pw D A s.heap _ _ [wd_Ker cs hk kr (fun _ => none) kf ka_24 (gKe pq pz_24 tq_24 rq_24), fm 13 (fTx cs tq_24 TR_24 TO_24 TF_24 TA_24), fm 13 (fRw cs rq_24 RR_24 RM_24 RW_24 RF_24 RA_24 RC_24), fm 8 (fPp cs pq PV)] := hw.sub [0, 1, 3, 2] rfl rfl
            refine pg_calli (pr := []) (px_runV (As := [.ref hx]) (rest := []) S (c_k_serve_R l D cs hk kr pq kf PV pz_24 tq_24 rq_24 ka_24 TR_24 TO_24 TF_24 TA_24 RR_24 RM_24 RW_24 RF_24 RA_24 RC_24  ip hx (show 0 ≤ (kf 8).toInt from by first | exact g0 | omega) (show (kf 8).toInt ≤ 100 from by first | exact g1 | omega) (show (RF_24 ip 14).toInt = 1 from by first | with_reducible rfl | with_reducible assumption | omega) hki hro hrm hip k24_3 _ _) hT (pr := []) (pcs := [wd_Ker cs hk kr (fun _ => none) kf ka_24 (gKe pq pz_24 tq_24 rq_24), fm 13 (fTx cs tq_24 TR_24 TO_24 TF_24 TA_24), fm 13 (fRw cs rq_24 RR_24 RM_24 RW_24 RF_24 RA_24 RC_24), fm 8 (fPp cs pq PV)]) hw (px_X.tot px_X.tt) (px_recv hT hw 0 0 rfl rfl rfl) m8_56 m8_53 m8_55 ms_5_8 m1_19 q_Ker_serve ⟨Nat.le_of_ble_eq_true rfl, Nat.le_of_ble_eq_true rfl⟩ hl.1 rfl (Nat.le_of_ble_eq_true rfl) d_Ker_advance_44 ⟨show ce_24 + (5 * ndS 13 tq_24 + 4 * ndS 13 rq_24 + ndS 13 RM_24) ≤ (5 * ndS 13 tq + 4 * ndS 13 rq + ndS 13 RM) from by first | with_reducible rfl | with_reducible assumption | omega, show sl_24 + (9804 * ndS 13 tq_24 + 342 * ndS 13 rq_24 + 36864 * ndS 13 RM_24) ≤ (9804 * ndS 13 tq + 342 * ndS 13 rq + 36864 * ndS 13 RM) from by first | with_reducible rfl | with_reducible assumption | omega⟩) hw hA (fun v67 p66 k68 n69 H locs hp66 hw => ?_)
            dsimp only at hp66
            obtain ⟨pz52, tq53, rq54, ka55, TR56, TO57, TF58, TA59, RR60, RM61, RW62, RF63, RA64, RC65, rfl, e70, e71, e72, e73, e74, e75, e76⟩ := hp66
            have e70 := z_rng e70
            replace e71 : CuR pq PV rq54 RW62 ip hx := e71
            obtain ⟨j77, hp77, hj77, hjq77, hto77⟩ := e71.2
            replace e72 : KnI pq PV pz52 tq53 rq54 TO57 TF58 TA59 RW62 RF63 := e72
            have hki := e72
            replace e73 : RoI ka55 := e73
            have hro := e73
            replace e74 : RmI rq54 RM61 := e74
            have hrm := e74
            replace e75 : k68 + (5 * ndS 13 tq53 + 4 * ndS 13 rq54 + ndS 13 RM61) ≤ 5 * ndS 13 tq_24 + 4 * ndS 13 rq_24 + ndS 13 RM_24 := e75
            replace e76 : n69 + (9804 * ndS 13 tq53 + 342 * ndS 13 rq54 + 36864 * ndS 13 RM61) ≤ 9804 * ndS 13 tq_24 + 342 * ndS 13 rq_24 + 36864 * ndS 13 RM_24 := e76
            replace hw : pw D A s.heap H locs [wd_Ker cs hk kr (fun _ => none) kf ka55 (gKe pq pz52 tq53 rq54), fm 13 (fTx cs tq53 TR56 TO57 TF58 TA59), fm 13 (fRw cs rq54 RR60 RM61 RW62 RF63 RA64 RC65), fm 8 (fPp cs pq PV)] := hw
            have lv67 := Int32.le_toInt v67
            have uv67 := Int32.toInt_lt v67
            refine lv_if_ne (tgt := 55) S.x S.b d_Ker_advance_47 (by decide) (fun c78 => ?_) (fun c78 => ?_)
            · have nc78 : ¬ v67.toInt = (0 : Int) := mt (i_eq (x := v67) (y := 0)).mpr c78
              refine lv_iconst (v := 1) S.x S.b d_Ker_advance_55 (by decide) ?_
              refine lv_istore_n (lv' := [(2, .int 1), (0, .ref hk), (1, .ref hx), (3, .int x24_3), (4, .int x24_4)]) S.x S.b d_Ker_advance_56 rfl hl (by decide) rfl (fun ls hl => ?_)
              refine lv_aload_n S.x S.b d_Ker_advance_57 rfl (lv_at hl 2 rfl) ?_
              have hw : pw D A s.heap _ _ [wd_Ker cs hk kr (fun _ => none) kf ka55 (gKe pq pz52 tq53 rq54), fm 13 (fTx cs tq53 TR56 TO57 TF58 TA59), fm 8 (fPp cs pq PV), fm 13 (fRw cs rq54 RR60 RM61 RW62 RF63 RA64 RC65)] := hw.sub [0, 1, 3, 2] rfl rfl
              have hw : pw D A s.heap _ _ [wd_Ker cs hk kr (fun _ => none) kf ka55 (gKe pq pz52 tq53 rq54), fm 13 (fTx cs tq53 TR56 TO57 TF58 TA59), fm 8 (fPp cs pq PV), fo 13 (fRw cs rq54 RR60 RM61 RW62 RF63 RA64 RC65) ip, wd_Raw cs hx (RR60 ip) (fun k => if k = 2 then (RM61 ip) else if k = 4 then (some ((PV j77).r 1)) else none) (RF63 ip) (RA64 ip) (fun _ _ => none), nA cs (RM61 ip) 36864 (RC65 ip)] := frw_out (pr := [wd_Ker cs hk kr (fun _ => none) kf ka55 (gKe pq pz52 tq53 rq54), fm 13 (fTx cs tq53 TR56 TO57 TF58 TA59), fm 8 (fPp cs pq PV)]) hw hip e71.1 hto77
              have hng79 := ndS_ge 13 RM61 ip hip
              have hrn79 : RwN ip (RF63 ip) := hki.2.2.1 ip hip _ e71.1
              have hro79 := hrn79.1
              unfold RwO at hro79
              have hid79 := hrn79.2.1
              have hch79 := hrn79.2.2
              unfold KcI at hch79
              have hw : pw D A s.heap _ _ [wd_Ker cs hk kr (fun _ => none) kf ka55 (gKe pq pz52 tq53 rq54), fm 13 (fTx cs tq53 TR56 TO57 TF58 TA59), fo 13 (fRw cs rq54 RR60 RM61 RW62 RF63 RA64 RC65) ip, wd_Raw cs hx (RR60 ip) (fun k => if k = 2 then (RM61 ip) else if k = 4 then (some ((PV j77).r 1)) else none) (RF63 ip) (RA64 ip) (fun _ _ => none), nA cs (RM61 ip) 36864 (RC65 ip), fm 8 (fPp cs pq PV)] := hw.sub [0, 1, 3, 4, 5, 2] rfl rfl
              have hw : pw D A s.heap _ _ [wd_Ker cs hk kr (fun _ => none) kf ka55 (gKe pq pz52 tq53 rq54), fm 13 (fTx cs tq53 TR56 TO57 TF58 TA59), fo 13 (fRw cs rq54 RR60 RM61 RW62 RF63 RA64 RC65) ip, wd_Raw cs hx (RR60 ip) (fun k => if k = 2 then (RM61 ip) else if k = 4 then (some ((PV j77).r 1)) else none) (RF63 ip) (RA64 ip) (fun _ _ => none), nA cs (RM61 ip) 36864 (RC65 ip), fo 8 (fPp cs pq PV) j77, wd_Prg cs hp77 (PV j77).r (fun k => if k = 2 then (PV j77).o else none) (PV j77).f (fun _ _ => 0) (fun _ _ => none), nA cs (PV j77).o (PV j77).fn (PV j77).fd, [(((PV j77).r 1), .inl (cs 0, (PV j77).cn, .inl (PV j77).cd))]] := fpp_out (pr := [wd_Ker cs hk kr (fun _ => none) kf ka55 (gKe pq pz52 tq53 rq54), fm 13 (fTx cs tq53 TR56 TO57 TF58 TA59), fo 13 (fRw cs rq54 RR60 RM61 RW62 RF63 RA64 RC65) ip, wd_Raw cs hx (RR60 ip) (fun k => if k = 2 then (RM61 ip) else if k = 4 then (some ((PV j77).r 1)) else none) (RF63 ip) (RA64 ip) (fun _ _ => none), nA cs (RM61 ip) 36864 (RC65 ip)]) hw hj77 hjq77
              have hpv80 := hki.1 j77 hj77 _ hjq77
              have hpn80 := hpv80.1
              have hpz80 := hpv80.2.1
              have hw : pw D A s.heap _ _ [wd_Ker cs hk kr (fun _ => none) kf ka55 (gKe pq pz52 tq53 rq54), fm 13 (fTx cs tq53 TR56 TO57 TF58 TA59), fo 13 (fRw cs rq54 RR60 RM61 RW62 RF63 RA64 RC65) ip, fo 8 (fPp cs pq PV) j77, wd_Prg cs hp77 (PV j77).r (fun k => if k = 2 then (PV j77).o else none) (PV j77).f (fun _ _ => 0) (fun _ _ => none), nA cs (PV j77).o (PV j77).fn (PV j77).fd, wd_Raw cs hx (RR60 ip) (fun k => if k = 2 then (RM61 ip) else if k = 4 then (some ((PV j77).r 1)) else none) (RF63 ip) (RA64 ip) (fun _ _ => none), nA cs (RM61 ip) 36864 (RC65 ip), [(((PV j77).r 1), .inl (cs 0, (PV j77).cn, .inl (PV j77).cd))]] := hw.sub [0, 1, 2, 5, 6, 7, 3, 4, 8] rfl rfl
              refine pg_callv (pr := [wd_Ker cs hk kr (fun _ => none) kf ka55 (gKe pq pz52 tq53 rq54), fm 13 (fTx cs tq53 TR56 TO57 TF58 TA59), fo 13 (fRw cs rq54 RR60 RM61 RW62 RF63 RA64 RC65) ip, fo 8 (fPp cs pq PV) j77, wd_Prg cs hp77 (PV j77).r (fun k => if k = 2 then (PV j77).o else none) (PV j77).f (fun _ _ => 0) (fun _ _ => none), nA cs (PV j77).o (PV j77).fn (PV j77).fd]) (px_runA (As := []) (rest := []) S (c_Raw_go l D cs hx (RR60 ip) (fun _ _ => none) (some ((PV j77).r 1)) (PV j77).cn (PV j77).cd (RF63 ip) (RA64 ip) (RM61 ip) (RC65 ip)   (show 0 ≤ ((RF63 ip) 7).toInt from by first | with_reducible rfl | with_reducible assumption | omega) (show ((RF63 ip) 7).toInt ≤ 1600 from by first | with_reducible rfl | with_reducible assumption | omega) (show 0 ≤ ((RF63 ip) 10).toInt from by first | with_reducible rfl | with_reducible assumption | omega) (show ((RF63 ip) 10).toInt + ((RF63 ip) 7).toInt ≤ 1600 from by first | with_reducible rfl | with_reducible assumption | omega) (show ((RF63 ip) 14).toInt = 0 ∨ ((RF63 ip) 14).toInt = 1 from by first | with_reducible rfl | with_reducible assumption | omega) (show ((RF63 ip) 14).toInt = 1 → 1 ≤ ((RF63 ip) 7).toInt from by first | with_reducible rfl | with_reducible assumption | omega) (show (PV j77).cn ≤ 1000000 from by first | with_reducible rfl | with_reducible assumption | omega) _ _) hT (pr := [wd_Ker cs hk kr (fun _ => none) kf ka55 (gKe pq pz52 tq53 rq54), fm 13 (fTx cs tq53 TR56 TO57 TF58 TA59), fo 13 (fRw cs rq54 RR60 RM61 RW62 RF63 RA64 RC65) ip, fo 8 (fPp cs pq PV) j77, wd_Prg cs hp77 (PV j77).r (fun k => if k = 2 then (PV j77).o else none) (PV j77).f (fun _ _ => 0) (fun _ _ => none), nA cs (PV j77).o (PV j77).fn (PV j77).fd]) (pcs := [wd_Raw cs hx (RR60 ip) (fun k => if k = 2 then (RM61 ip) else if k = 4 then (some ((PV j77).r 1)) else none) (RF63 ip) (RA64 ip) (fun _ _ => none), nA cs (RM61 ip) 36864 (RC65 ip), [(((PV j77).r 1), .inl (cs 0, (PV j77).cn, .inl (PV j77).cd))]]) hw (px_X.tot px_X.tt) (C := "HomeSystem$RawProcess") (owner := "HomeSystem$AnyProcess") (x := ⟨"HomeSystem$AnyProcess", "go", "()V"⟩) (px_recv hT hw 6 0 rfl rfl rfl) m8_168 m8_163 m8_165 m8_167 m8_166 m1_34 m8_164n ⟨by decide, by decide⟩ rfl q_Raw_go ⟨Nat.le_of_ble_eq_true rfl, Nat.le_of_ble_eq_true rfl⟩ hl.1 rfl (Nat.le_of_ble_eq_true rfl) d_Ker_advance_58 ⟨show (ce_24 + k68) + (nd (RM61 ip)) ≤ (5 * ndS 13 tq + 4 * ndS 13 rq + ndS 13 RM) from by first | with_reducible rfl | with_reducible assumption | omega, show (sl_24 + n69) + (36864 * nd (RM61 ip)) ≤ (9804 * ndS 13 tq + 342 * ndS 13 rq + 36864 * ndS 13 RM) from by first | with_reducible rfl | with_reducible assumption | omega⟩) hw hA (fun p85 k87 n88 H locs hp85 hw => ?_)
              dsimp only at hp85
              obtain ⟨f81, a82, o283, ma84, rfl, e89, e90, e91, e92, e93, e94, e95, e96, e97, e98, e99⟩ := hp85
              replace e89 : 0 ≤ (f81 7).toInt := e89
              replace e90 : (f81 7).toInt ≤ 1600 := e90
              replace e91 : 0 ≤ (f81 10).toInt := e91
              replace e92 : (f81 10).toInt + (f81 7).toInt ≤ 1600 := e92
              replace e93 : (f81 14).toInt = 0 ∨ (f81 14).toInt = 1 := e93
              replace e94 : (f81 14).toInt = 1 → 1 ≤ (f81 7).toInt := e94
              replace e95 : (f81 8).toInt = ((RF63 ip) 8).toInt := e95
              replace e96 : (f81 10).toInt = ((RF63 ip) 10).toInt := e96
              replace e97 : (f81 13).toInt = ((RF63 ip) 13).toInt := e97
              replace e98 : k87 + nd o283 ≤ nd (RM61 ip) := e98
              replace e99 : n88 + 36864 * nd o283 ≤ 36864 * nd (RM61 ip) := e99
              replace hw : pw D A s.heap H locs [wd_Ker cs hk kr (fun _ => none) kf ka55 (gKe pq pz52 tq53 rq54), fm 13 (fTx cs tq53 TR56 TO57 TF58 TA59), fo 13 (fRw cs rq54 RR60 RM61 RW62 RF63 RA64 RC65) ip, fo 8 (fPp cs pq PV) j77, wd_Prg cs hp77 (PV j77).r (fun k => if k = 2 then (PV j77).o else none) (PV j77).f (fun _ _ => 0) (fun _ _ => none), nA cs (PV j77).o (PV j77).fn (PV j77).fd, wd_Raw cs hx (RR60 ip) (fun k => if k = 2 then o283 else if k = 4 then (some ((PV j77).r 1)) else none) f81 a82 (fun _ _ => none), nA cs o283 36864 ma84, nA cs (some ((PV j77).r 1)) (PV j77).cn (PV j77).cd] := hw
              refine lv_aload_n S.x S.b d_Ker_advance_61 rfl (lv_at hl 2 rfl) ?_
              refine px_get S k_Raw hT hw 6 0 11 (v := .int (f81 11)) rfl rfl rfl (by decide) m6_139 d_Ker_advance_62 ?_
              refine lv_bipush (v := (-2)) S.x S.b d_Ker_advance_65 (by decide) ?_
              refine lv_icmp_ne (tgt := 74) S.x S.b d_Ker_advance_67 (by decide) (fun c100 => ?_) (fun c100 => ?_)
              · have nc100 : ¬ (f81 11).toInt = (-2 : Int) := mt (i_eq (x := (f81 11)) (y := (-2))).mpr c100
                refine lv_iconst (v := 0) S.x S.b d_Ker_advance_74 (by decide) ?_
                refine lv_istore_n (lv' := [(3, .int 0), (2, .int 1), (0, .ref hk), (1, .ref hx), (4, .int x24_4)]) S.x S.b d_Ker_advance_75 rfl hl (by decide) rfl (fun ls hl => ?_)
                obtain ⟨z101, ez101⟩ : ∃ y : Int32, y = x24_4 + 1 := ⟨_, rfl⟩
                have tz101 : z101.toInt = (x24_4.toInt + 1 + 2147483648) % 4294967296 - 2147483648 := by rw [ez101]; exact i_add x24_4 1
                have lz101 := Int32.le_toInt z101
                have uz101 := Int32.toInt_lt z101
                try replace tz101 : z101.toInt = x24_4.toInt + 1 := by omega
                refine lv_iinc (v := z101) (lv' := [(4, .int z101), (3, .int 0), (2, .int 1), (0, .ref hk), (1, .ref hx)]) S.x S.b d_Ker_advance_76 hl (k := 4) rfl (by rw [ez101]; rfl) (by decide) rfl (fun ls hl => ?_)
                refine lv_goto (tgt := 24) S.x S.b d_Ker_advance_79 (by decide) ?_
                have hw : pw D A s.heap _ _ [wd_Ker cs hk kr (fun _ => none) kf ka55 (gKe pq pz52 tq53 rq54), fm 13 (fTx cs tq53 TR56 TO57 TF58 TA59), fo 13 (fRw cs rq54 RR60 RM61 RW62 RF63 RA64 RC65) ip, fo 8 (fPp cs pq PV) j77, wd_Prg cs hp77 (PV j77).r (fun k => if k = 2 then (PV j77).o else none) (PV j77).f (fun _ _ => 0) (fun _ _ => none), nA cs (PV j77).o (PV j77).fn (PV j77).fd, wd_Raw cs hx (RR60 ip) (fun k => if k = 2 then o283 else if k = 4 then (some ((PV j77).r 1)) else none) f81 a82 (fun _ _ => none), nA cs o283 36864 ma84, [(((PV j77).r 1), .inl (cs 0, (PV j77).cn, .inl (PV j77).cd))]] := hw.eq rfl
                have hw : pw D A s.heap _ _ [wd_Ker cs hk kr (fun _ => none) kf ka55 (gKe pq pz52 tq53 rq54), fm 13 (fTx cs tq53 TR56 TO57 TF58 TA59), fo 13 (fRw cs rq54 RR60 RM61 RW62 RF63 RA64 RC65) ip, wd_Raw cs hx (RR60 ip) (fun k => if k = 2 then o283 else if k = 4 then (some ((PV j77).r 1)) else none) f81 a82 (fun _ _ => none), nA cs o283 36864 ma84, fo 8 (fPp cs pq PV) j77, wd_Prg cs hp77 (PV j77).r (fun k => if k = 2 then (PV j77).o else none) (PV j77).f (fun _ _ => 0) (fun _ _ => none), nA cs (PV j77).o (PV j77).fn (PV j77).fd, [(((PV j77).r 1), .inl (cs 0, (PV j77).cn, .inl (PV j77).cd))]] := hw.sub [0, 1, 2, 6, 7, 3, 4, 5, 8] rfl rfl
                have hw : pw D A s.heap _ _ [wd_Ker cs hk kr (fun _ => none) kf ka55 (gKe pq pz52 tq53 rq54), fm 13 (fTx cs tq53 TR56 TO57 TF58 TA59), fo 13 (fRw cs rq54 RR60 RM61 RW62 RF63 RA64 RC65) ip, wd_Raw cs hx (RR60 ip) (fun k => if k = 2 then o283 else if k = 4 then (some ((PV j77).r 1)) else none) f81 a82 (fun _ _ => none), nA cs o283 36864 ma84, fm 8 (fPp cs pq PV)] := fpp_back (pr := [wd_Ker cs hk kr (fun _ => none) kf ka55 (gKe pq pz52 tq53 rq54), fm 13 (fTx cs tq53 TR56 TO57 TF58 TA59), fo 13 (fRw cs rq54 RR60 RM61 RW62 RF63 RA64 RC65) ip, wd_Raw cs hx (RR60 ip) (fun k => if k = 2 then o283 else if k = 4 then (some ((PV j77).r 1)) else none) f81 a82 (fun _ _ => none), nA cs o283 36864 ma84]) hw hj77 hjq77
                have hw : pw D A s.heap _ _ [wd_Ker cs hk kr (fun _ => none) kf ka55 (gKe pq pz52 tq53 rq54), fm 13 (fTx cs tq53 TR56 TO57 TF58 TA59), fm 8 (fPp cs pq PV), fo 13 (fRw cs rq54 RR60 RM61 RW62 RF63 RA64 RC65) ip, wd_Raw cs hx (RR60 ip) (fun k => if k = 2 then o283 else if k = 4 then (some ((PV j77).r 1)) else none) f81 a82 (fun _ _ => none), nA cs o283 36864 ma84] := hw.sub [0, 1, 5, 2, 3, 4] rfl rfl
                have hw := frw_in0 (pr := [wd_Ker cs hk kr (fun _ => none) kf ka55 (gKe pq pz52 tq53 rq54), fm 13 (fTx cs tq53 TR56 TO57 TF58 TA59), fm 8 (fPp cs pq PV)]) hw hip e71.1 hto77
                obtain ⟨RM102, hu_RM102⟩ : ∃ y : Nat → Option Nat, y = va_up RM61 ip o283 := ⟨_, rfl⟩
                obtain ⟨RF103, hu_RF103⟩ : ∃ y : Nat → Nat → Int32, y = va_up RF63 ip f81 := ⟨_, rfl⟩
                obtain ⟨RA104, hu_RA104⟩ : ∃ y : Nat → Nat → Nat → Int32, y = va_up RA64 ip a82 := ⟨_, rfl⟩
                obtain ⟨RC105, hu_RC105⟩ : ∃ y : Nat → Nat → Int32, y = va_up RC65 ip ma84 := ⟨_, rfl⟩
                have hw : pw D A s.heap _ _ [wd_Ker cs hk kr (fun _ => none) kf ka55 (gKe pq pz52 tq53 rq54), fm 13 (fTx cs tq53 TR56 TO57 TF58 TA59), fm 8 (fPp cs pq PV), fm 13 (fRw cs rq54 RR60 RM102 RW62 RF103 RA104 RC105)] := (by rw [hu_RM102, hu_RF103, hu_RA104, hu_RC105]; exact hw)
                have hki : KnI pq PV pz52 tq53 rq54 TO57 TF58 TA59 RW62 RF103 := (by rw [hu_RF103]; exact hki.upR (show RwN ip f81 from ⟨(show (0 ≤ (f81 7).toInt ∧ (f81 7).toInt ≤ 1600) ∧ (0 ≤ (f81 10).toInt ∧ (f81 10).toInt + (f81 7).toInt ≤ 1600) ∧ ((f81 14).toInt = 0 ∨ (f81 14).toInt = 1) ∧ ((f81 14).toInt = 1 → 1 ≤ (f81 7).toInt) from by first | with_reducible rfl | with_reducible assumption | omega), (show ((f81 8).toInt) = ((ip : Nat) : Int) from by first | with_reducible rfl | with_reducible assumption | omega), (show 0 ≤ (f81 13).toInt ∧ (f81 13).toInt ≤ 3 ∧ ((f81 13).toInt = 0 ∨ 3 * ((ip : Nat) : Int) + (f81 13).toInt ≤ 12) from by first | with_reducible rfl | with_reducible assumption | omega)⟩))
                have hrm : RmI rq54 RM102 := (by rw [hu_RM102]; exact hrm.up e71.1)
                have hnd_RM102 := ndS_up 13 RM61 ip o283 hip; rw [← hu_RM102] at hnd_RM102
                have hz14_RF103 : (RF103 ip 14).toInt = (f81 14).toInt := (by rw [hu_RF103, va_up_s]; try rfl)
                have hw : pw D A s.heap _ _ [wd_Ker cs hk kr (fun _ => none) kf ka55 (gKe pq pz52 tq53 rq54), fm 13 (fTx cs tq53 TR56 TO57 TF58 TA59), fm 13 (fRw cs rq54 RR60 RM102 RW62 RF103 RA104 RC105), fm 8 (fPp cs pq PV)] := hw.sub [0, 1, 3, 2] rfl rfl
                exact ih24 ((ce_24 + k68) + k87) ((sl_24 + n69) + n88) pz52 tq53 rq54 ka55 TR56 TO57 TF58 TA59 RR60 RM102 RW62 RF103 RA104 RC105 (1 : Int32) (0 : Int32) z101 _ _ ls (show KnI pq PV pz52 tq53 rq54 TO57 TF58 TA59 RW62 RF103 from hki) (show RoI ka55 from hro) (show RmI rq54 RM102 from hrm) (show CuR pq PV rq54 RW62 ip hx from e71) (show 0 ≤ (1 : Int) from by first | decide | omega) (show (1 : Int) ≤ 1 from by first | decide | omega) (show 0 ≤ (0 : Int) from by first | decide | omega) (show (0 : Int) ≤ 1 from by first | decide | omega) (show 0 ≤ z101.toInt from by first | exact oz_ae613611c0 tz101 k24_8 | omega) (show z101.toInt ≤ 1000000 from by first | exact oz_596acb4ef1 tz101 nc3 | omega) (show ((ce_24 + k68) + k87) + (5 * ndS 13 tq53 + 4 * ndS 13 rq54 + ndS 13 RM102) ≤ 5 * ndS 13 tq + 4 * ndS 13 rq + ndS 13 RM from by first | with_reducible rfl | with_reducible assumption | omega) (show ((sl_24 + n69) + n88) + (9804 * ndS 13 tq53 + 342 * ndS 13 rq54 + 36864 * ndS 13 RM102) ≤ 9804 * ndS 13 tq + 342 * ndS 13 rq + 36864 * ndS 13 RM from by first | with_reducible rfl | with_reducible assumption | omega) (show 1000000 - z101.toInt < (n_24 : Int) from by first | exact oz_301bb61272 hm tz101 | omega) hw (lv_sub hl [3, 4, 2, 1, 0] rfl)
              · have nc100 : (f81 11).toInt = (-2 : Int) := (i_eq (x := (f81 11)) (y := (-2))).mp c100
                refine lv_iconst (v := 1) S.x S.b d_Ker_advance_70 (by decide) ?_
                refine lv_goto (tgt := 75) S.x S.b d_Ker_advance_71 (by decide) ?_
                refine lv_istore_n (lv' := [(3, .int 1), (2, .int 1), (0, .ref hk), (1, .ref hx), (4, .int x24_4)]) S.x S.b d_Ker_advance_75 rfl hl (by decide) rfl (fun ls hl => ?_)
                obtain ⟨z106, ez106⟩ : ∃ y : Int32, y = x24_4 + 1 := ⟨_, rfl⟩
                have tz106 : z106.toInt = (x24_4.toInt + 1 + 2147483648) % 4294967296 - 2147483648 := by rw [ez106]; exact i_add x24_4 1
                have lz106 := Int32.le_toInt z106
                have uz106 := Int32.toInt_lt z106
                try replace tz106 : z106.toInt = x24_4.toInt + 1 := by omega
                refine lv_iinc (v := z106) (lv' := [(4, .int z106), (3, .int 1), (2, .int 1), (0, .ref hk), (1, .ref hx)]) S.x S.b d_Ker_advance_76 hl (k := 4) rfl (by rw [ez106]; rfl) (by decide) rfl (fun ls hl => ?_)
                refine lv_goto (tgt := 24) S.x S.b d_Ker_advance_79 (by decide) ?_
                have hw : pw D A s.heap _ _ [wd_Ker cs hk kr (fun _ => none) kf ka55 (gKe pq pz52 tq53 rq54), fm 13 (fTx cs tq53 TR56 TO57 TF58 TA59), fo 13 (fRw cs rq54 RR60 RM61 RW62 RF63 RA64 RC65) ip, fo 8 (fPp cs pq PV) j77, wd_Prg cs hp77 (PV j77).r (fun k => if k = 2 then (PV j77).o else none) (PV j77).f (fun _ _ => 0) (fun _ _ => none), nA cs (PV j77).o (PV j77).fn (PV j77).fd, wd_Raw cs hx (RR60 ip) (fun k => if k = 2 then o283 else if k = 4 then (some ((PV j77).r 1)) else none) f81 a82 (fun _ _ => none), nA cs o283 36864 ma84, [(((PV j77).r 1), .inl (cs 0, (PV j77).cn, .inl (PV j77).cd))]] := hw.eq rfl
                have hw : pw D A s.heap _ _ [wd_Ker cs hk kr (fun _ => none) kf ka55 (gKe pq pz52 tq53 rq54), fm 13 (fTx cs tq53 TR56 TO57 TF58 TA59), fo 13 (fRw cs rq54 RR60 RM61 RW62 RF63 RA64 RC65) ip, wd_Raw cs hx (RR60 ip) (fun k => if k = 2 then o283 else if k = 4 then (some ((PV j77).r 1)) else none) f81 a82 (fun _ _ => none), nA cs o283 36864 ma84, fo 8 (fPp cs pq PV) j77, wd_Prg cs hp77 (PV j77).r (fun k => if k = 2 then (PV j77).o else none) (PV j77).f (fun _ _ => 0) (fun _ _ => none), nA cs (PV j77).o (PV j77).fn (PV j77).fd, [(((PV j77).r 1), .inl (cs 0, (PV j77).cn, .inl (PV j77).cd))]] := hw.sub [0, 1, 2, 6, 7, 3, 4, 5, 8] rfl rfl
                have hw : pw D A s.heap _ _ [wd_Ker cs hk kr (fun _ => none) kf ka55 (gKe pq pz52 tq53 rq54), fm 13 (fTx cs tq53 TR56 TO57 TF58 TA59), fo 13 (fRw cs rq54 RR60 RM61 RW62 RF63 RA64 RC65) ip, wd_Raw cs hx (RR60 ip) (fun k => if k = 2 then o283 else if k = 4 then (some ((PV j77).r 1)) else none) f81 a82 (fun _ _ => none), nA cs o283 36864 ma84, fm 8 (fPp cs pq PV)] := fpp_back (pr := [wd_Ker cs hk kr (fun _ => none) kf ka55 (gKe pq pz52 tq53 rq54), fm 13 (fTx cs tq53 TR56 TO57 TF58 TA59), fo 13 (fRw cs rq54 RR60 RM61 RW62 RF63 RA64 RC65) ip, wd_Raw cs hx (RR60 ip) (fun k => if k = 2 then o283 else if k = 4 then (some ((PV j77).r 1)) else none) f81 a82 (fun _ _ => none), nA cs o283 36864 ma84]) hw hj77 hjq77
                have hw : pw D A s.heap _ _ [wd_Ker cs hk kr (fun _ => none) kf ka55 (gKe pq pz52 tq53 rq54), fm 13 (fTx cs tq53 TR56 TO57 TF58 TA59), fm 8 (fPp cs pq PV), fo 13 (fRw cs rq54 RR60 RM61 RW62 RF63 RA64 RC65) ip, wd_Raw cs hx (RR60 ip) (fun k => if k = 2 then o283 else if k = 4 then (some ((PV j77).r 1)) else none) f81 a82 (fun _ _ => none), nA cs o283 36864 ma84] := hw.sub [0, 1, 5, 2, 3, 4] rfl rfl
                have hw := frw_in0 (pr := [wd_Ker cs hk kr (fun _ => none) kf ka55 (gKe pq pz52 tq53 rq54), fm 13 (fTx cs tq53 TR56 TO57 TF58 TA59), fm 8 (fPp cs pq PV)]) hw hip e71.1 hto77
                obtain ⟨RM107, hu_RM107⟩ : ∃ y : Nat → Option Nat, y = va_up RM61 ip o283 := ⟨_, rfl⟩
                obtain ⟨RF108, hu_RF108⟩ : ∃ y : Nat → Nat → Int32, y = va_up RF63 ip f81 := ⟨_, rfl⟩
                obtain ⟨RA109, hu_RA109⟩ : ∃ y : Nat → Nat → Nat → Int32, y = va_up RA64 ip a82 := ⟨_, rfl⟩
                obtain ⟨RC110, hu_RC110⟩ : ∃ y : Nat → Nat → Int32, y = va_up RC65 ip ma84 := ⟨_, rfl⟩
                have hw : pw D A s.heap _ _ [wd_Ker cs hk kr (fun _ => none) kf ka55 (gKe pq pz52 tq53 rq54), fm 13 (fTx cs tq53 TR56 TO57 TF58 TA59), fm 8 (fPp cs pq PV), fm 13 (fRw cs rq54 RR60 RM107 RW62 RF108 RA109 RC110)] := (by rw [hu_RM107, hu_RF108, hu_RA109, hu_RC110]; exact hw)
                have hki : KnI pq PV pz52 tq53 rq54 TO57 TF58 TA59 RW62 RF108 := (by rw [hu_RF108]; exact hki.upR (show RwN ip f81 from ⟨(show (0 ≤ (f81 7).toInt ∧ (f81 7).toInt ≤ 1600) ∧ (0 ≤ (f81 10).toInt ∧ (f81 10).toInt + (f81 7).toInt ≤ 1600) ∧ ((f81 14).toInt = 0 ∨ (f81 14).toInt = 1) ∧ ((f81 14).toInt = 1 → 1 ≤ (f81 7).toInt) from by first | with_reducible rfl | with_reducible assumption | omega), (show ((f81 8).toInt) = ((ip : Nat) : Int) from by first | with_reducible rfl | with_reducible assumption | omega), (show 0 ≤ (f81 13).toInt ∧ (f81 13).toInt ≤ 3 ∧ ((f81 13).toInt = 0 ∨ 3 * ((ip : Nat) : Int) + (f81 13).toInt ≤ 12) from by first | with_reducible rfl | with_reducible assumption | omega)⟩))
                have hrm : RmI rq54 RM107 := (by rw [hu_RM107]; exact hrm.up e71.1)
                have hnd_RM107 := ndS_up 13 RM61 ip o283 hip; rw [← hu_RM107] at hnd_RM107
                have hz14_RF108 : (RF108 ip 14).toInt = (f81 14).toInt := (by rw [hu_RF108, va_up_s]; try rfl)
                have hw : pw D A s.heap _ _ [wd_Ker cs hk kr (fun _ => none) kf ka55 (gKe pq pz52 tq53 rq54), fm 13 (fTx cs tq53 TR56 TO57 TF58 TA59), fm 13 (fRw cs rq54 RR60 RM107 RW62 RF108 RA109 RC110), fm 8 (fPp cs pq PV)] := hw.sub [0, 1, 3, 2] rfl rfl
                exact ih24 ((ce_24 + k68) + k87) ((sl_24 + n69) + n88) pz52 tq53 rq54 ka55 TR56 TO57 TF58 TA59 RR60 RM107 RW62 RF108 RA109 RC110 (1 : Int32) (1 : Int32) z106 _ _ ls (show KnI pq PV pz52 tq53 rq54 TO57 TF58 TA59 RW62 RF108 from hki) (show RoI ka55 from hro) (show RmI rq54 RM107 from hrm) (show CuR pq PV rq54 RW62 ip hx from e71) (show 0 ≤ (1 : Int) from by first | decide | omega) (show (1 : Int) ≤ 1 from by first | decide | omega) (show 0 ≤ (1 : Int) from by first | decide | omega) (show (1 : Int) ≤ 1 from by first | decide | omega) (show 0 ≤ z106.toInt from by first | exact oz_ae613611c0 tz106 k24_8 | omega) (show z106.toInt ≤ 1000000 from by first | exact oz_596acb4ef1 tz106 nc3 | omega) (show ((ce_24 + k68) + k87) + (5 * ndS 13 tq53 + 4 * ndS 13 rq54 + ndS 13 RM107) ≤ 5 * ndS 13 tq + 4 * ndS 13 rq + ndS 13 RM from by first | with_reducible rfl | with_reducible assumption | omega) (show ((sl_24 + n69) + n88) + (9804 * ndS 13 tq53 + 342 * ndS 13 rq54 + 36864 * ndS 13 RM107) ≤ 9804 * ndS 13 tq + 342 * ndS 13 rq + 36864 * ndS 13 RM from by first | with_reducible rfl | with_reducible assumption | omega) (show 1000000 - z106.toInt < (n_24 : Int) from by first | exact oz_301bb61272 hm tz106 | omega) hw (lv_sub hl [3, 4, 2, 1, 0] rfl)
            · have nc78 : v67.toInt = (0 : Int) := (i_eq (x := v67) (y := 0)).mp c78
              refine lv_iconst (v := 0) S.x S.b d_Ker_advance_50 (by decide) ?_
              refine lv_istore_n (lv' := [(3, .int 0), (0, .ref hk), (1, .ref hx), (2, .int x24_2), (4, .int x24_4)]) S.x S.b d_Ker_advance_51 rfl hl (by decide) rfl (fun ls hl => ?_)
              refine lv_goto (tgt := 76) S.x S.b d_Ker_advance_52 (by decide) ?_
              obtain ⟨z111, ez111⟩ : ∃ y : Int32, y = x24_4 + 1 := ⟨_, rfl⟩
              have tz111 : z111.toInt = (x24_4.toInt + 1 + 2147483648) % 4294967296 - 2147483648 := by rw [ez111]; exact i_add x24_4 1
              have lz111 := Int32.le_toInt z111
              have uz111 := Int32.toInt_lt z111
              try replace tz111 : z111.toInt = x24_4.toInt + 1 := by omega
              refine lv_iinc (v := z111) (lv' := [(4, .int z111), (3, .int 0), (0, .ref hk), (1, .ref hx), (2, .int x24_2)]) S.x S.b d_Ker_advance_76 hl (k := 4) rfl (by rw [ez111]; rfl) (by decide) rfl (fun ls hl => ?_)
              refine lv_goto (tgt := 24) S.x S.b d_Ker_advance_79 (by decide) ?_
              exact ih24 (ce_24 + k68) (sl_24 + n69) pz52 tq53 rq54 ka55 TR56 TO57 TF58 TA59 RR60 RM61 RW62 RF63 RA64 RC65 x24_2 (0 : Int32) z111 _ _ ls (show KnI pq PV pz52 tq53 rq54 TO57 TF58 TA59 RW62 RF63 from hki) (show RoI ka55 from hro) (show RmI rq54 RM61 from hrm) (show CuR pq PV rq54 RW62 ip hx from e71) (show 0 ≤ x24_2.toInt from by first | exact k24_4 | omega) (show x24_2.toInt ≤ 1 from by first | exact k24_5 | omega) (show 0 ≤ (0 : Int) from by first | decide | omega) (show (0 : Int) ≤ 1 from by first | decide | omega) (show 0 ≤ z111.toInt from by first | exact oz_ae613611c0 tz111 k24_8 | omega) (show z111.toInt ≤ 1000000 from by first | exact oz_596acb4ef1 tz111 nc3 | omega) (show (ce_24 + k68) + (5 * ndS 13 tq53 + 4 * ndS 13 rq54 + ndS 13 RM61) ≤ 5 * ndS 13 tq + 4 * ndS 13 rq + ndS 13 RM from by first | exact oz_09730e4356 k24_10 e75 | omega) (show (sl_24 + n69) + (9804 * ndS 13 tq53 + 342 * ndS 13 rq54 + 36864 * ndS 13 RM61) ≤ 9804 * ndS 13 tq + 342 * ndS 13 rq + 36864 * ndS 13 RM from by first | exact oz_0d0bbc14c3 k24_11 e76 | omega) (show 1000000 - z111.toInt < (n_24 : Int) from by first | exact oz_301bb61272 hm tz111 | omega) hw (lv_sub hl [2, 3, 4, 1, 0] rfl)
  refine lv_iconst (v := 0) S.x S.b d_Ker_advance_0 (by decide) ?_
  obtain ⟨j112, hp112, hj112, hjq112, hto112⟩ := hcu.2
  refine lv_istore_n (lv' := [(2, .int 0), (0, .ref hk), (1, .ref hx)]) S.x S.b d_Ker_advance_1 rfl hl (by decide) rfl (fun ls hl => ?_)
  refine lv_aload_n S.x S.b d_Ker_advance_2 rfl (lv_at hl 2 rfl) ?_
  refine lv_ifnull S.x S.b d_Ker_advance_3 ?_
  refine lv_aload_n S.x S.b d_Ker_advance_6 rfl (lv_at hl 2 rfl) ?_
  have hw : pw D A s.heap _ _ [wd_Ker cs hk kr (fun _ => none) kf ka (gKe pq pz tq rq), fm 13 (fTx cs tq TR TO TF TA), fm 8 (fPp cs pq PV), fm 13 (fRw cs rq RR RM RW RF RA RC)] := hw.sub [0, 1, 3, 2] rfl rfl
  have hw : pw D A s.heap _ _ [wd_Ker cs hk kr (fun _ => none) kf ka (gKe pq pz tq rq), fm 13 (fTx cs tq TR TO TF TA), fm 8 (fPp cs pq PV), fo 13 (fRw cs rq RR RM RW RF RA RC) ip, wd_Raw cs hx (RR ip) (fun k => if k = 2 then (RM ip) else if k = 4 then (some ((PV j112).r 1)) else none) (RF ip) (RA ip) (fun _ _ => none), nA cs (RM ip) 36864 (RC ip)] := frw_out (pr := [wd_Ker cs hk kr (fun _ => none) kf ka (gKe pq pz tq rq), fm 13 (fTx cs tq TR TO TF TA), fm 8 (fPp cs pq PV)]) hw hip hcu.1 hto112
  have hng113 := ndS_ge 13 RM ip hip
  have hrn113 : RwN ip (RF ip) := hki.2.2.1 ip hip _ hcu.1
  have hro113 := hrn113.1
  unfold RwO at hro113
  have hid113 := hrn113.2.1
  have hch113 := hrn113.2.2
  unfold KcI at hch113
  refine px_get S k_Raw hT hw 4 0 11 (v := .int ((RF ip) 11)) rfl rfl rfl (by decide) m6_139 d_Ker_advance_7 ?_
  refine lv_bipush (v := (-2)) S.x S.b d_Ker_advance_10 (by decide) ?_
  refine lv_icmp_ne (tgt := 19) S.x S.b d_Ker_advance_12 (by decide) (fun c114 => ?_) (fun c114 => ?_)
  · have nc114 : ¬ ((RF ip) 11).toInt = (-2 : Int) := mt (i_eq (x := ((RF ip) 11)) (y := (-2))).mpr c114
    refine lv_iconst (v := 0) S.x S.b d_Ker_advance_19 (by decide) ?_
    refine lv_istore_n (lv' := [(3, .int 0), (2, .int 0), (0, .ref hk), (1, .ref hx)]) S.x S.b d_Ker_advance_20 rfl hl (by decide) rfl (fun ls hl => ?_)
    refine lv_iconst (v := 0) S.x S.b d_Ker_advance_21 (by decide) ?_
    refine lv_istore (lv' := [(4, .int 0), (3, .int 0), (2, .int 0), (0, .ref hk), (1, .ref hx)]) S.x S.b d_Ker_advance_22 hl (by decide) rfl (fun ls hl => ?_)
    have hw : pw D A s.heap _ _ [wd_Ker cs hk kr (fun _ => none) kf ka (gKe pq pz tq rq), fm 13 (fTx cs tq TR TO TF TA), fm 8 (fPp cs pq PV), fm 13 (fRw cs rq RR RM RW RF RA RC)] := frw_back (pr := [wd_Ker cs hk kr (fun _ => none) kf ka (gKe pq pz tq rq), fm 13 (fTx cs tq TR TO TF TA), fm 8 (fPp cs pq PV)]) hw hip hcu.1 hto112
    have hw : pw D A s.heap _ _ [wd_Ker cs hk kr (fun _ => none) kf ka (gKe pq pz tq rq), fm 13 (fTx cs tq TR TO TF TA), fm 13 (fRw cs rq RR RM RW RF RA RC), fm 8 (fPp cs pq PV)] := hw.sub [0, 1, 3, 2] rfl rfl
    exact J24 ((1000000 - (0 : Int)).toNat + 1) 0 0 pz tq rq ka TR TO TF TA RR RM RW RF RA RC (0 : Int32) (0 : Int32) (0 : Int32) _ _ ls (show KnI pq PV pz tq rq TO TF TA RW RF from hki) (show RoI ka from hro) (show RmI rq RM from hrm) (show CuR pq PV rq RW ip hx from hcu) (show 0 ≤ (0 : Int) from by first | decide | omega) (show (0 : Int) ≤ 1 from by first | decide | omega) (show 0 ≤ (0 : Int) from by first | decide | omega) (show (0 : Int) ≤ 1 from by first | decide | omega) (show 0 ≤ (0 : Int) from by first | decide | omega) (show (0 : Int) ≤ 1000000 from by first | decide | omega) (show 0 + (5 * ndS 13 tq + 4 * ndS 13 rq + ndS 13 RM) ≤ 5 * ndS 13 tq + 4 * ndS 13 rq + ndS 13 RM from by first | exact oz_9d19b050ad | omega) (show 0 + (9804 * ndS 13 tq + 342 * ndS 13 rq + 36864 * ndS 13 RM) ≤ 9804 * ndS 13 tq + 342 * ndS 13 rq + 36864 * ndS 13 RM from by first | exact oz_b5592d0ae7 | omega) (show 1000000 - (0 : Int) < ((((1000000 - (0 : Int)).toNat + 1 : Nat) : Int) : Int) from by first | exact oz_natlt | omega) hw (lv_sub hl [3, 4, 2, 1, 0] rfl)
  · have nc114 : ((RF ip) 11).toInt = (-2 : Int) := (i_eq (x := ((RF ip) 11)) (y := (-2))).mp c114
    refine lv_iconst (v := 1) S.x S.b d_Ker_advance_15 (by decide) ?_
    refine lv_goto (tgt := 20) S.x S.b d_Ker_advance_16 (by decide) ?_
    refine lv_istore_n (lv' := [(3, .int 1), (2, .int 0), (0, .ref hk), (1, .ref hx)]) S.x S.b d_Ker_advance_20 rfl hl (by decide) rfl (fun ls hl => ?_)
    refine lv_iconst (v := 0) S.x S.b d_Ker_advance_21 (by decide) ?_
    refine lv_istore (lv' := [(4, .int 0), (3, .int 1), (2, .int 0), (0, .ref hk), (1, .ref hx)]) S.x S.b d_Ker_advance_22 hl (by decide) rfl (fun ls hl => ?_)
    have hw : pw D A s.heap _ _ [wd_Ker cs hk kr (fun _ => none) kf ka (gKe pq pz tq rq), fm 13 (fTx cs tq TR TO TF TA), fm 8 (fPp cs pq PV), fm 13 (fRw cs rq RR RM RW RF RA RC)] := frw_back (pr := [wd_Ker cs hk kr (fun _ => none) kf ka (gKe pq pz tq rq), fm 13 (fTx cs tq TR TO TF TA), fm 8 (fPp cs pq PV)]) hw hip hcu.1 hto112
    have hw : pw D A s.heap _ _ [wd_Ker cs hk kr (fun _ => none) kf ka (gKe pq pz tq rq), fm 13 (fTx cs tq TR TO TF TA), fm 13 (fRw cs rq RR RM RW RF RA RC), fm 8 (fPp cs pq PV)] := hw.sub [0, 1, 3, 2] rfl rfl
    exact J24 ((1000000 - (0 : Int)).toNat + 1) 0 0 pz tq rq ka TR TO TF TA RR RM RW RF RA RC (0 : Int32) (1 : Int32) (0 : Int32) _ _ ls (show KnI pq PV pz tq rq TO TF TA RW RF from hki) (show RoI ka from hro) (show RmI rq RM from hrm) (show CuR pq PV rq RW ip hx from hcu) (show 0 ≤ (0 : Int) from by first | decide | omega) (show (0 : Int) ≤ 1 from by first | decide | omega) (show 0 ≤ (1 : Int) from by first | decide | omega) (show (1 : Int) ≤ 1 from by first | decide | omega) (show 0 ≤ (0 : Int) from by first | decide | omega) (show (0 : Int) ≤ 1000000 from by first | decide | omega) (show 0 + (5 * ndS 13 tq + 4 * ndS 13 rq + ndS 13 RM) ≤ 5 * ndS 13 tq + 4 * ndS 13 rq + ndS 13 RM from by first | exact oz_9d19b050ad | omega) (show 0 + (9804 * ndS 13 tq + 342 * ndS 13 rq + 36864 * ndS 13 RM) ≤ 9804 * ndS 13 tq + 342 * ndS 13 rq + 36864 * ndS 13 RM from by first | exact oz_b5592d0ae7 | omega) (show 1000000 - (0 : Int) < ((((1000000 - (0 : Int)).toNat + 1 : Nat) : Int) : Int) from by first | exact oz_natlt | omega) hw (lv_sub hl [3, 4, 2, 1, 0] rfl)
set_option maxHeartbeats 4000000 in
set_option maxRecDepth 100000 in
theorem c_k_advance_n (l : Launch) (D : va_G) (cs : Nat → ClassId) (hk : Nat) (kr : Nat → Nat) (pq : Nat → Option Nat) (kf : Nat → Int32) (PV : Nat → Pvs) (pz : Nat → Option Nat) (tq : Nat → Option Nat) (rq : Nat → Option Nat) (ka : Nat → Nat → Int32) (TR : Nat → Nat → Nat) (TO : Nat → Option Nat) (TF : Nat → Nat → Int32) (TA : Nat → Nat → Nat → Int32) (RR : Nat → Nat → Nat) (RM : Nat → Option Nat) (RW : Nat → Option Nat) (RF : Nat → Nat → Int32) (RA : Nat → Nat → Nat → Int32) (RC : Nat → Nat → Int32)  (hki : KnI pq PV pz tq rq TO TF TA RW RF) (hro : RoI ka) (hrm : RmI rq RM) : MgI l y_Ker_advance b_Ker_advance 5 (.boolean) D cs 0 0 ((5 * ndS 13 tq + 4 * ndS 13 rq + ndS 13 RM)) ((9804 * ndS 13 tq + 342 * ndS 13 rq + 36864 * ndS 13 RM)) [.ref hk, .null] [wd_Ker cs hk kr (fun _ => none) kf ka (gKe pq pz tq rq), fm 13 (fTx cs tq TR TO TF TA), fm 13 (fRw cs rq RR RM RW RF RA RC), fm 8 (fPp cs pq PV)] (fun _ => True) (fun v ps => ∃ (pz' : Nat → Option Nat) (tq' : Nat → Option Nat) (rq' : Nat → Option Nat) (ka' : Nat → Nat → Int32) (TR' : Nat → Nat → Nat) (TO' : Nat → Option Nat) (TF' : Nat → Nat → Int32) (TA' : Nat → Nat → Nat → Int32) (RR' : Nat → Nat → Nat) (RM' : Nat → Option Nat) (RW' : Nat → Option Nat) (RF' : Nat → Nat → Int32) (RA' : Nat → Nat → Nat → Int32) (RC' : Nat → Nat → Int32), (ps.1 = [wd_Ker cs hk kr (fun _ => none) kf ka' (gKe pq pz' tq' rq'), fm 13 (fTx cs tq' TR' TO' TF' TA'), fm 13 (fRw cs rq' RR' RM' RW' RF' RA' RC'), fm 8 (fPp cs pq PV)]) ∧ (v = 0 ∨ v = 1) ∧ (KnI pq PV pz' tq' rq' TO' TF' TA' RW' RF') ∧ (RoI ka') ∧ (RmI rq' RM') ∧ (ps.2.1 + (5 * ndS 13 tq' + 4 * ndS 13 rq' + ndS 13 RM') ≤ 5 * ndS 13 tq + 4 * ndS 13 rq + ndS 13 RM) ∧ (ps.2.2 + (9804 * ndS 13 tq' + 342 * ndS 13 rq' + 36864 * ndS 13 RM') ≤ 9804 * ndS 13 tq + 342 * ndS 13 rq + 36864 * ndS 13 RM)) := by
  refine pg_enter (by decide) (Nat.le_of_ble_eq_true rfl) ?_
  intro p e s m below meth c A ls hAe S hr hlk hnm hA hT hX hw hl
  replace hl : lv_has ls 5 [(0, .ref hk), (1, .null)] := hl
  have cstm2 : ((-2) : Int32).toInt = (-2) := rfl
  have cst0 : (0 : Int32).toInt = 0 := rfl
  have cst1 : (1 : Int32).toInt = 1 := rfl
  have J24 : ∀ (n_24 : Nat) (ce_24 sl_24 : Nat) (pz_24 : Nat → Option Nat) (tq_24 : Nat → Option Nat) (rq_24 : Nat → Option Nat) (ka_24 : Nat → Nat → Int32) (TR_24 : Nat → Nat → Nat) (TO_24 : Nat → Option Nat) (TF_24 : Nat → Nat → Int32) (TA_24 : Nat → Nat → Nat → Int32) (RR_24 : Nat → Nat → Nat) (RM_24 : Nat → Option Nat) (RW_24 : Nat → Option Nat) (RF_24 : Nat → Nat → Int32) (RA_24 : Nat → Nat → Nat → Int32) (RC_24 : Nat → Nat → Int32) (x24_2 x24_3 x24_4 : Int32) (H : Heap) (locs : List Loc) (ls : Array Slot), (KnI pq PV pz_24 tq_24 rq_24 TO_24 TF_24 TA_24 RW_24 RF_24) → (RoI ka_24) → (RmI rq_24 RM_24) → (x24_2.toInt = 0) → (x24_3.toInt = 0) → (0 ≤ x24_4.toInt) → (x24_4.toInt ≤ 1000000) → (ce_24 + (5 * ndS 13 tq_24 + 4 * ndS 13 rq_24 + ndS 13 RM_24) ≤ 5 * ndS 13 tq + 4 * ndS 13 rq + ndS 13 RM) → (sl_24 + (9804 * ndS 13 tq_24 + 342 * ndS 13 rq_24 + 36864 * ndS 13 RM_24) ≤ 9804 * ndS 13 tq + 342 * ndS 13 rq + 36864 * ndS 13 RM) → 1000000 - x24_4.toInt < (n_24 : Int) → pw D A s.heap H locs [wd_Ker cs hk kr (fun _ => none) kf ka_24 (gKe pq pz_24 tq_24 rq_24), fm 13 (fTx cs tq_24 TR_24 TO_24 TF_24 TA_24), fm 13 (fRw cs rq_24 RR_24 RM_24 RW_24 RF_24 RA_24 RC_24), fm 8 (fPp cs pq PV)] → lv_has ls 5 [(0, .ref hk), (1, .null), (2, .int x24_2), (3, .int x24_3), (4, .int x24_4)] → W p l e { frames := 0, cells := (5 * ndS 13 tq + 4 * ndS 13 rq + ndS 13 RM), slots := (9804 * ndS 13 tq + 342 * ndS 13 rq + 36864 * ndS 13 RM), locals := 0 } s m [.ref hk, .null].toArray below meth c H locs ce_24 sl_24 (MQ below (va_Qi (fun v ps => ∃ (pz' : Nat → Option Nat) (tq' : Nat → Option Nat) (rq' : Nat → Option Nat) (ka' : Nat → Nat → Int32) (TR' : Nat → Nat → Nat) (TO' : Nat → Option Nat) (TF' : Nat → Nat → Int32) (TA' : Nat → Nat → Nat → Int32) (RR' : Nat → Nat → Nat) (RM' : Nat → Option Nat) (RW' : Nat → Option Nat) (RF' : Nat → Nat → Int32) (RA' : Nat → Nat → Nat → Int32) (RC' : Nat → Nat → Int32), (ps.1 = [wd_Ker cs hk kr (fun _ => none) kf ka' (gKe pq pz' tq' rq'), fm 13 (fTx cs tq' TR' TO' TF' TA'), fm 13 (fRw cs rq' RR' RM' RW' RF' RA' RC'), fm 8 (fPp cs pq PV)]) ∧ (v = 0 ∨ v = 1) ∧ (KnI pq PV pz' tq' rq' TO' TF' TA' RW' RF') ∧ (RoI ka') ∧ (RmI rq' RM') ∧ (ps.2.1 + (5 * ndS 13 tq' + 4 * ndS 13 rq' + ndS 13 RM') ≤ 5 * ndS 13 tq + 4 * ndS 13 rq + ndS 13 RM) ∧ (ps.2.2 + (9804 * ndS 13 tq' + 342 * ndS 13 rq' + 36864 * ndS 13 RM') ≤ 9804 * ndS 13 tq + 342 * ndS 13 rq + 36864 * ndS 13 RM)) (pg_B D (va_A ([wd_Ker cs hk kr (fun _ => none) kf ka (gKe pq pz tq rq), fm 13 (fTx cs tq TR TO TF TA), fm 13 (fRw cs rq RR RM RW RF RA RC), fm 8 (fPp cs pq PV)] : List va_W).flatten s.heap.size) s.heap.size (tot s.heap)) (va_A ([wd_Ker cs hk kr (fun _ => none) kf ka (gKe pq pz tq rq), fm 13 (fTx cs tq TR TO TF TA), fm 13 (fRw cs rq RR RM RW RF RA RC), fm 8 (fPp cs pq PV)] : List va_W).flatten s.heap.size)) [.ref hk, .null].toArray s (5 * ndS 13 tq + 4 * ndS 13 rq + ndS 13 RM) (9804 * ndS 13 tq + 342 * ndS 13 rq + 36864 * ndS 13 RM) A) (F0 m 24 ls []) := by
    intro  n_24
    induction n_24 with
    | zero =>
      intro ce_24 sl_24 pz_24 tq_24 rq_24 ka_24 TR_24 TO_24 TF_24 TA_24 RR_24 RM_24 RW_24 RF_24 RA_24 RC_24 x24_2 x24_3 x24_4 H locs ls k24_0 k24_1 k24_2 k24_3 k24_4 k24_5 k24_6 k24_7 k24_8 hm hw hl
      have lx24_2 := Int32.le_toInt x24_2
      have ux24_2 := Int32.toInt_lt x24_2
      have lx24_3 := Int32.le_toInt x24_3
      have ux24_3 := Int32.toInt_lt x24_3
      have lx24_4 := Int32.le_toInt x24_4
      have ux24_4 := Int32.toInt_lt x24_4
      have hki := k24_0
      have hro := k24_1
      have hrm := k24_2
      exact absurd hm (by omega)
    | succ n_24 ih24 =>
      intro ce_24 sl_24 pz_24 tq_24 rq_24 ka_24 TR_24 TO_24 TF_24 TA_24 RR_24 RM_24 RW_24 RF_24 RA_24 RC_24 x24_2 x24_3 x24_4 H locs ls k24_0 k24_1 k24_2 k24_3 k24_4 k24_5 k24_6 k24_7 k24_8 hm hw hl
      have lx24_2 := Int32.le_toInt x24_2
      have ux24_2 := Int32.toInt_lt x24_2
      have lx24_3 := Int32.le_toInt x24_3
      have ux24_3 := Int32.toInt_lt x24_3
      have lx24_4 := Int32.le_toInt x24_4
      have ux24_4 := Int32.toInt_lt x24_4
      have hki := k24_0
      have hro := k24_1
      have hrm := k24_2
      refine lv_iload S.x S.b d_Ker_advance_24 (lv_at hl 4 rfl) ?_
      refine lv_ldc (v := 1000000) S.x S.b S.own (S.w m8_48) d_Ker_advance_26 ?_
      refine lv_icmp_ge (tgt := 82) S.x S.b d_Ker_advance_28 (by decide) (fun c1 => ?_) (fun c1 => ?_)
      · have nc1 : (1000000 : Int) ≤ x24_4.toInt := (i_le (x := 1000000) (y := x24_4)).mp c1
        refine lv_iload_n S.x S.b d_Ker_advance_82 rfl (lv_at hl 2 rfl) ?_
        exact pg_iret (v := x24_2) S hr (z_nar (by omega)) hlk hAe hw (show ce_24 ≤ (5 * ndS 13 tq + 4 * ndS 13 rq + ndS 13 RM) from by first | exact oz_dca5c4e7e4 k24_7 | omega) (show sl_24 ≤ (9804 * ndS 13 tq + 342 * ndS 13 rq + 36864 * ndS 13 RM) from by first | exact oz_f7eb847e67 k24_8 | omega) (⟨pz_24, tq_24, rq_24, ka_24, TR_24, TO_24, TF_24, TA_24, RR_24, RM_24, RW_24, RF_24, RA_24, RC_24, rfl, (show x24_2 = 0 ∨ x24_2 = 1 from by first | exact Or.inl rfl | exact Or.inr rfl | exact z_or (by omega)), (show KnI pq PV pz_24 tq_24 rq_24 TO_24 TF_24 TA_24 RW_24 RF_24 from hki), (show RoI ka_24 from hro), (show RmI rq_24 RM_24 from hrm), (show ce_24 + (5 * ndS 13 tq_24 + 4 * ndS 13 rq_24 + ndS 13 RM_24) ≤ 5 * ndS 13 tq + 4 * ndS 13 rq + ndS 13 RM from by first | exact k24_7 | omega), (show sl_24 + (9804 * ndS 13 tq_24 + 342 * ndS 13 rq_24 + 36864 * ndS 13 RM_24) ≤ 9804 * ndS 13 tq + 342 * ndS 13 rq + 36864 * ndS 13 RM from by first | exact k24_8 | omega)⟩) d_Ker_advance_83
      · have nc1 : ¬ (1000000 : Int) ≤ x24_4.toInt := mt (i_le (x := 1000000) (y := x24_4)).mpr c1
        refine lv_iload_n S.x S.b d_Ker_advance_31 rfl (lv_at hl 3 rfl) ?_
        refine lv_if_eq (tgt := 82) S.x S.b d_Ker_advance_32 (by decide) (fun c2 => ?_) (fun c2 => ?_)
        · have nc2 : x24_3.toInt = (0 : Int) := (i_eq (x := x24_3) (y := 0)).mp c2
          refine lv_iload_n S.x S.b d_Ker_advance_82 rfl (lv_at hl 2 rfl) ?_
          exact pg_iret (v := x24_2) S hr (z_nar (by omega)) hlk hAe hw (show ce_24 ≤ (5 * ndS 13 tq + 4 * ndS 13 rq + ndS 13 RM) from by first | exact oz_dca5c4e7e4 k24_7 | omega) (show sl_24 ≤ (9804 * ndS 13 tq + 342 * ndS 13 rq + 36864 * ndS 13 RM) from by first | exact oz_f7eb847e67 k24_8 | omega) (⟨pz_24, tq_24, rq_24, ka_24, TR_24, TO_24, TF_24, TA_24, RR_24, RM_24, RW_24, RF_24, RA_24, RC_24, rfl, (show x24_2 = 0 ∨ x24_2 = 1 from by first | exact Or.inl rfl | exact Or.inr rfl | exact z_or (by omega)), (show KnI pq PV pz_24 tq_24 rq_24 TO_24 TF_24 TA_24 RW_24 RF_24 from hki), (show RoI ka_24 from hro), (show RmI rq_24 RM_24 from hrm), (show ce_24 + (5 * ndS 13 tq_24 + 4 * ndS 13 rq_24 + ndS 13 RM_24) ≤ 5 * ndS 13 tq + 4 * ndS 13 rq + ndS 13 RM from by first | exact k24_7 | omega), (show sl_24 + (9804 * ndS 13 tq_24 + 342 * ndS 13 rq_24 + 36864 * ndS 13 RM_24) ≤ 9804 * ndS 13 tq + 342 * ndS 13 rq + 36864 * ndS 13 RM from by first | exact k24_8 | omega)⟩) d_Ker_advance_83
        · have nc2 : ¬ x24_3.toInt = (0 : Int) := mt (i_eq (x := x24_3) (y := 0)).mpr c2
          exfalso
          omega
  refine lv_iconst (v := 0) S.x S.b d_Ker_advance_0 (by decide) ?_
  refine lv_istore_n (lv' := [(2, .int 0), (0, .ref hk), (1, .null)]) S.x S.b d_Ker_advance_1 rfl hl (by decide) rfl (fun ls hl => ?_)
  refine lq_aload_n (x := none) S.x S.b d_Ker_advance_2 rfl (lv_at hl 2 rfl) ?_
  refine lv_ifnullN (tgt := 19) S.x S.b d_Ker_advance_3 (by decide) ?_
  refine lv_iconst (v := 0) S.x S.b d_Ker_advance_19 (by decide) ?_
  refine lv_istore_n (lv' := [(3, .int 0), (2, .int 0), (0, .ref hk), (1, .null)]) S.x S.b d_Ker_advance_20 rfl hl (by decide) rfl (fun ls hl => ?_)
  refine lv_iconst (v := 0) S.x S.b d_Ker_advance_21 (by decide) ?_
  refine lv_istore (lv' := [(4, .int 0), (3, .int 0), (2, .int 0), (0, .ref hk), (1, .null)]) S.x S.b d_Ker_advance_22 hl (by decide) rfl (fun ls hl => ?_)
  exact J24 ((1000000 - (0 : Int)).toNat + 1) 0 0 pz tq rq ka TR TO TF TA RR RM RW RF RA RC (0 : Int32) (0 : Int32) (0 : Int32) _ _ ls (show KnI pq PV pz tq rq TO TF TA RW RF from hki) (show RoI ka from hro) (show RmI rq RM from hrm) (show (0 : Int) = 0 from by first | decide | omega) (show (0 : Int) = 0 from by first | decide | omega) (show 0 ≤ (0 : Int) from by first | decide | omega) (show (0 : Int) ≤ 1000000 from by first | decide | omega) (show 0 + (5 * ndS 13 tq + 4 * ndS 13 rq + ndS 13 RM) ≤ 5 * ndS 13 tq + 4 * ndS 13 rq + ndS 13 RM from by first | exact oz_9d19b050ad | omega) (show 0 + (9804 * ndS 13 tq + 342 * ndS 13 rq + 36864 * ndS 13 RM) ≤ 9804 * ndS 13 tq + 342 * ndS 13 rq + 36864 * ndS 13 RM from by first | exact oz_b5592d0ae7 | omega) (show 1000000 - (0 : Int) < ((((1000000 - (0 : Int)).toNat + 1 : Nat) : Int) : Int) from by first | exact oz_natlt | omega) hw (lv_sub hl [3, 4, 2, 1, 0] rfl)
