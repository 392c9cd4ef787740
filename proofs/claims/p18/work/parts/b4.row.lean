theorem oz_6a9f12b40a {a0 a1 a2 a3 : Int} (h0 : a1 - a2 ≤ 4096 * (a0 - a3)) (h1 : 0 ≤ a2) (h2 : a2 ≤ 4 + 4096 * a3) (h3 : a2 ≤ a1) : 0 ≤ a0 := by omega
theorem oz_c501c098b4 {a0 a1 a2 a3 : Int} (h0 : a0 - a2 ≤ 4096 * (a1 - a3)) (h1 : a2 ≤ 4096 * a3) : a0 ≤ 4096 * a1 := by omega
theorem oz_658acb1b4c {a0 a1 a2 a3 : Int} (h0 : a0 - a2 ≤ 4096 * (a1 - a3)) (h1 : a2 ≤ 4 + 4096 * a3) : a0 ≤ 4 + 4096 * a1 := by omega
theorem oz_fd63dfae6d {a0 a2 : Int} {n1 : Nat} (h0 : a2 + (n1 : Int) ≤ 400) (h1 : a0 = a2) : a0 + (n1 : Int) ≤ 400 := by omega
theorem oz_ed5ab580af {a0 a1 a2 a3 a4 a5 : Int} (h0 : 6 * a5 ≤ 6 * a1 + (a2 - a3)) (h1 : 6 * a0 ≤ 6 * a5 + (a4)) : 6 * a0 ≤ 6 * a1 + (a2 - (a3 - a4)) := by omega
theorem oz_b78d9f65b9 {a0 a1 a2 a3 a4 a5 : Int} (h0 : a2 - a3 ≤ 4096 * (a4 - a0)) (h1 : a5 - a2 ≤ 4096 * (a1 - a4)) (h2 : a3 ≤ a2) (h3 : a2 ≤ a5) : a0 ≤ a1 := by omega
theorem oz_7f5bac6b34 {a0 a1 a2 a3 a4 a5 : Int} (h0 : a4 - a1 ≤ 4 * (a5 - a3)) (h1 : a0 - a4 ≤ 4 * (a2 - a5)) : a0 - a1 ≤ 4 * (a2 - a3) := by omega
theorem oz_f877ead219 {a0 a1 a2 a3 a4 a5 : Int} (h0 : a4 - a1 ≤ 4096 * (a5 - a3)) (h1 : a0 - a4 ≤ 4096 * (a2 - a5)) : a0 - a1 ≤ 4096 * (a2 - a3) := by omega
theorem oz_d50b28d761 {a0 a1 a2 a3 a4 a5 : Int} (h0 : 6 * a3 ≤ 6 * a4 + (a2 - a0)) (h1 : 6 * a5 ≤ 6 * a3 + (a1)) (h2 : a4 ≤ a3) (h3 : a3 ≤ a5) : (a0 - a1) ≤ a2 := by omega
theorem oz_73dc218776 {a0 a1 a2 a3 a4 a5 a6 : Int} (h0 : a2 - a3 ≤ 4096 * (a4 - a0)) (h1 : a1 = a4) (h2 : a5 ≤ a6) (h3 : a6 - a5 ≤ 4 * (a2 - a3)) : a0 ≤ a1 := by omega
theorem oz_68efb193db {a0 a1 a2 a3 : Int} (h0 : 6 * a3 ≤ 6 * a1 + (a2)) (h1 : a0 = a3) : 6 * a0 ≤ 6 * a1 + (a2) := by omega
theorem oz_94ff7ee8ed {a0 a1 a2 a3 a4 : Int} (h0 : a2 - a3 ≤ 4 * (a4 - a0)) (h1 : a1 = a4) (h2 : a3 ≤ a2) : a0 ≤ a1 := by omega
theorem oz_4001d13b45 {a0 a1 a2 a3 a4 a5 : Int} (h0 : a4 - a1 ≤ 4 * (a5 - a3)) (h1 : a2 = a5) (h2 : a0 = a4) : a0 - a1 ≤ 4 * (a2 - a3) := by omega
theorem oz_761fc723f5 {a0 a1 a2 a3 a4 a5 : Int} (h0 : a4 - a1 ≤ 4096 * (a5 - a3)) (h1 : a2 = a5) (h2 : a0 = a4) : a0 - a1 ≤ 4096 * (a2 - a3) := by omega
theorem oz_0e7a26fe4a {a0 a1 a2 a3 a4 a5 : Int} (h0 : a4 - a1 ≤ 4096 * (a5 - a3)) (h1 : a0 = a4) (h2 : a2 = a5) : a0 - a1 ≤ 4096 * (a2 - a3) := by omega
theorem oz_06ad533572 {a0 a2 : Int} {n1 : Nat} (h0 : a2 + (n1 : Int) + 1 ≤ 400) (h1 : a0 = a2 + (1 : Int)) : a0 + (n1 : Int) ≤ 400 := by omega
theorem oz_61a5b4c47c {a0 a1 a2 a3 : Int} (h0 : a2 = a1 + (1 : Int)) (h1 : a0 = a3 - (1 : Int)) (h2 : a3 = a2) : a0 = a1 := by omega
theorem oz_092373726c {a0 a1 a2 : Int} (h0 : 0 ≤ a2) (h1 : a0 = a1) : 6 * a0 ≤ 6 * a1 + (a2) := by omega
theorem oz_7f23dbcb5f {a0 a1 a2 a3 : Int} (h0 : a2 = a3) (h1 : a0 = a1) : a0 - a1 ≤ 4 * (a2 - a3) := by omega
theorem oz_a2be20d97d {a0 a1 a2 a3 : Int} (h0 : a2 = a3) (h1 : a0 = a1) : a0 - a1 ≤ 4096 * (a2 - a3) := by omega
theorem oz_48fba83842 {a0 a1 a2 a3 : Int} (h0 : 0 ≤ a2) (h1 : a3 = a1) (h2 : a0 = a3) : 6 * a0 ≤ 6 * a1 + (a2) := by omega
theorem oz_609cf4b982 {a0 a1 a2 a3 a4 a5 : Int} (h0 : a4 = a3) (h1 : a5 = a1) (h2 : a2 = a4) (h3 : a0 = a5) : a0 - a1 ≤ 4 * (a2 - a3) := by omega
theorem oz_9a318b6183 {a0 a1 a2 a3 a4 a5 : Int} (h0 : a4 = a3) (h1 : a5 = a1) (h2 : a2 = a4) (h3 : a0 = a5) : a0 - a1 ≤ 4096 * (a2 - a3) := by omega
theorem oz_5a408f7934 {a0 a1 : Int} (h0 : 0 ≤ a1) : 6 * a0 ≤ 6 * a0 + (a1) := by omega
theorem m12_198 : Cond.methodLink "HomeSystemModel$Program" 636 ⟨"HomeSystemModel$Program", "checkStatement", "(I)V"⟩ ∈ AL := AL_12 (List.mem_of_getElem? (i := 198) rfl) rfl
theorem m12_201 : Cond.code ⟨"HomeSystemModel$Program", "checkStatement", "(I)V"⟩ prog_16_method_91_code 3 (Option.none : Option Jvm.ClassFile.FieldType) ∈ AL := AL_12 (List.mem_of_getElem? (i := 201) rfl) rfl
theorem ms_12_3 : Cond.selects "HomeSystemModel$Program" ⟨"HomeSystemModel$Program", "checkStatement", "(I)V"⟩ ⟨"HomeSystemModel$Program", "checkStatement", "(I)V"⟩ ∈ AL := AL_p (q := (⟨"HomeSystemModel$Program", "checkStatement", "(I)V"⟩, 69)) (by unfold lw_privs; exact List.mem_append_right _ (List.mem_append_right _ (List.mem_append_right _ (List.mem_append_right _ (List.mem_append_right _ (List.mem_append_right _ (List.mem_append_right _ (List.mem_append_right _ (List.mem_append_right _ (List.mem_append_right _ (List.mem_append_right _ (List.mem_append_left _ (List.mem_of_getElem? (i := 3) rfl)))))))))))))
theorem m12_200 : Cond.instanceMethod ⟨"HomeSystemModel$Program", "checkStatement", "(I)V"⟩ ∈ AL := AL_12 (List.mem_of_getElem? (i := 200) rfl) rfl
theorem m12_194 : Cond.methodLink "HomeSystemModel$Program" 639 ⟨"HomeSystemModel$Program", "statements", "(I)V"⟩ ∈ AL := AL_12 (List.mem_of_getElem? (i := 194) rfl) rfl
theorem m12_197 : Cond.code ⟨"HomeSystemModel$Program", "statements", "(I)V"⟩ prog_16_method_88_code 3 (Option.none : Option Jvm.ClassFile.FieldType) ∈ AL := AL_12 (List.mem_of_getElem? (i := 197) rfl) rfl
theorem ms_12_2 : Cond.selects "HomeSystemModel$Program" ⟨"HomeSystemModel$Program", "statements", "(I)V"⟩ ⟨"HomeSystemModel$Program", "statements", "(I)V"⟩ ∈ AL := AL_p (q := (⟨"HomeSystemModel$Program", "statements", "(I)V"⟩, 69)) (by unfold lw_privs; exact List.mem_append_right _ (List.mem_append_right _ (List.mem_append_right _ (List.mem_append_right _ (List.mem_append_right _ (List.mem_append_right _ (List.mem_append_right _ (List.mem_append_right _ (List.mem_append_right _ (List.mem_append_right _ (List.mem_append_right _ (List.mem_append_left _ (List.mem_of_getElem? (i := 2) rfl)))))))))))))
theorem m12_196 : Cond.instanceMethod ⟨"HomeSystemModel$Program", "statements", "(I)V"⟩ ∈ AL := AL_12 (List.mem_of_getElem? (i := 196) rfl) rfl
theorem m12_206 : Cond.methodLink "HomeSystemModel$Program" 642 ⟨"HomeSystemModel$Program", "leave", "(II)V"⟩ ∈ AL := AL_12 (List.mem_of_getElem? (i := 206) rfl) rfl
theorem m12_209 : Cond.code ⟨"HomeSystemModel$Program", "leave", "(II)V"⟩ prog_16_method_89_code 3 (Option.none : Option Jvm.ClassFile.FieldType) ∈ AL := AL_12 (List.mem_of_getElem? (i := 209) rfl) rfl
theorem ms_12_5 : Cond.selects "HomeSystemModel$Program" ⟨"HomeSystemModel$Program", "leave", "(II)V"⟩ ⟨"HomeSystemModel$Program", "leave", "(II)V"⟩ ∈ AL := AL_p (q := (⟨"HomeSystemModel$Program", "leave", "(II)V"⟩, 69)) (by unfold lw_privs; exact List.mem_append_right _ (List.mem_append_right _ (List.mem_append_right _ (List.mem_append_right _ (List.mem_append_right _ (List.mem_append_right _ (List.mem_append_right _ (List.mem_append_right _ (List.mem_append_right _ (List.mem_append_right _ (List.mem_append_right _ (List.mem_append_left _ (List.mem_of_getElem? (i := 5) rfl)))))))))))))
theorem m12_208 : Cond.instanceMethod ⟨"HomeSystemModel$Program", "leave", "(II)V"⟩ ∈ AL := AL_12 (List.mem_of_getElem? (i := 208) rfl) rfl
theorem m10_35 : Cond.fieldLink "HomeSystemModel$Program" 667 "HomeSystemModel$Program" "loops" "I" ∈ AL := AL_10 (List.mem_of_getElem? (i := 35) rfl) rfl
abbrev b_Mpg_checkStatement : ByteArray := prog_16_method_91_code
def y_Mpg_checkStatement : MethodName := ⟨"HomeSystemModel$Program", "checkStatement", "(I)V"⟩
theorem d_Mpg_checkStatement_0 : decode b_Mpg_checkStatement 0 = .ok (.aload_n 0, 1) := by decide +kernel
theorem d_Mpg_checkStatement_1 : decode b_Mpg_checkStatement 1 = .ok (.getfield 207, 3) := by decide +kernel
theorem d_Mpg_checkStatement_4 : decode b_Mpg_checkStatement 4 = .ok (.iload_n 1, 1) := by decide +kernel
theorem d_Mpg_checkStatement_5 : decode b_Mpg_checkStatement 5 = .ok (.baload, 1) := by decide +kernel
theorem d_Mpg_checkStatement_6 : decode b_Mpg_checkStatement 6 = .ok (.tableswitch 221 20 33 #[70, 78, 81, 94, 103, 147, 172, 197, 205, 221, 221, 221, 221, 213], 70) := by decide +kernel
theorem d_Mpg_checkStatement_76 : decode b_Mpg_checkStatement 76 = .ok (.aload_n 0, 1) := by decide +kernel
theorem d_Mpg_checkStatement_77 : decode b_Mpg_checkStatement 77 = .ok (.iload_n 1, 1) := by decide +kernel
theorem d_Mpg_checkStatement_78 : decode b_Mpg_checkStatement 78 = .ok (.invokevirtual 645, 3) := by decide +kernel
theorem d_Mpg_checkStatement_81 : decode b_Mpg_checkStatement 81 = .ok (.goto 193, 3) := by decide +kernel
theorem d_Mpg_checkStatement_84 : decode b_Mpg_checkStatement 84 = .ok (.goto 190, 3) := by decide +kernel
theorem d_Mpg_checkStatement_87 : decode b_Mpg_checkStatement 87 = .ok (.aload_n 0, 1) := by decide +kernel
theorem d_Mpg_checkStatement_88 : decode b_Mpg_checkStatement 88 = .ok (.aload_n 0, 1) := by decide +kernel
theorem d_Mpg_checkStatement_89 : decode b_Mpg_checkStatement 89 = .ok (.getfield 216, 3) := by decide +kernel
theorem d_Mpg_checkStatement_92 : decode b_Mpg_checkStatement 92 = .ok (.iload_n 1, 1) := by decide +kernel
theorem d_Mpg_checkStatement_93 : decode b_Mpg_checkStatement 93 = .ok (.iaload, 1) := by decide +kernel
theorem d_Mpg_checkStatement_94 : decode b_Mpg_checkStatement 94 = .ok (.invokevirtual 648, 3) := by decide +kernel
theorem d_Mpg_checkStatement_97 : decode b_Mpg_checkStatement 97 = .ok (.goto 177, 3) := by decide +kernel
theorem d_Mpg_checkStatement_100 : decode b_Mpg_checkStatement 100 = .ok (.aload_n 0, 1) := by decide +kernel
theorem d_Mpg_checkStatement_101 : decode b_Mpg_checkStatement 101 = .ok (.iload_n 1, 1) := by decide +kernel
theorem d_Mpg_checkStatement_102 : decode b_Mpg_checkStatement 102 = .ok (.iconst 0, 1) := by decide +kernel
theorem d_Mpg_checkStatement_103 : decode b_Mpg_checkStatement 103 = .ok (.invokevirtual 651, 3) := by decide +kernel
theorem d_Mpg_checkStatement_106 : decode b_Mpg_checkStatement 106 = .ok (.goto 168, 3) := by decide +kernel
theorem d_Mpg_checkStatement_109 : decode b_Mpg_checkStatement 109 = .ok (.aload_n 0, 1) := by decide +kernel
theorem d_Mpg_checkStatement_110 : decode b_Mpg_checkStatement 110 = .ok (.aload_n 0, 1) := by decide +kernel
theorem d_Mpg_checkStatement_111 : decode b_Mpg_checkStatement 111 = .ok (.getfield 216, 3) := by decide +kernel
theorem d_Mpg_checkStatement_114 : decode b_Mpg_checkStatement 114 = .ok (.iload_n 1, 1) := by decide +kernel
theorem d_Mpg_checkStatement_115 : decode b_Mpg_checkStatement 115 = .ok (.iaload, 1) := by decide +kernel
theorem d_Mpg_checkStatement_116 : decode b_Mpg_checkStatement 116 = .ok (.iconst 1, 1) := by decide +kernel
theorem d_Mpg_checkStatement_117 : decode b_Mpg_checkStatement 117 = .ok (.invokevirtual 577, 3) := by decide +kernel
theorem d_Mpg_checkStatement_120 : decode b_Mpg_checkStatement 120 = .ok (.pop, 1) := by decide +kernel
theorem d_Mpg_checkStatement_121 : decode b_Mpg_checkStatement 121 = .ok (.aload_n 0, 1) := by decide +kernel
theorem d_Mpg_checkStatement_122 : decode b_Mpg_checkStatement 122 = .ok (.aload_n 0, 1) := by decide +kernel
theorem d_Mpg_checkStatement_123 : decode b_Mpg_checkStatement 123 = .ok (.getfield 219, 3) := by decide +kernel
theorem d_Mpg_checkStatement_126 : decode b_Mpg_checkStatement 126 = .ok (.iload_n 1, 1) := by decide +kernel
theorem d_Mpg_checkStatement_127 : decode b_Mpg_checkStatement 127 = .ok (.iaload, 1) := by decide +kernel
theorem d_Mpg_checkStatement_128 : decode b_Mpg_checkStatement 128 = .ok (.invokevirtual 636, 3) := by decide +kernel
theorem d_Mpg_checkStatement_131 : decode b_Mpg_checkStatement 131 = .ok (.aload_n 0, 1) := by decide +kernel
theorem d_Mpg_checkStatement_132 : decode b_Mpg_checkStatement 132 = .ok (.getfield 222, 3) := by decide +kernel
theorem d_Mpg_checkStatement_135 : decode b_Mpg_checkStatement 135 = .ok (.iload_n 1, 1) := by decide +kernel
theorem d_Mpg_checkStatement_136 : decode b_Mpg_checkStatement 136 = .ok (.iaload, 1) := by decide +kernel
theorem d_Mpg_checkStatement_137 : decode b_Mpg_checkStatement 137 = .ok (.ifCond .lt 137, 3) := by decide +kernel
theorem d_Mpg_checkStatement_140 : decode b_Mpg_checkStatement 140 = .ok (.aload_n 0, 1) := by decide +kernel
theorem d_Mpg_checkStatement_141 : decode b_Mpg_checkStatement 141 = .ok (.aload_n 0, 1) := by decide +kernel
theorem d_Mpg_checkStatement_142 : decode b_Mpg_checkStatement 142 = .ok (.getfield 222, 3) := by decide +kernel
theorem d_Mpg_checkStatement_145 : decode b_Mpg_checkStatement 145 = .ok (.iload_n 1, 1) := by decide +kernel
theorem d_Mpg_checkStatement_146 : decode b_Mpg_checkStatement 146 = .ok (.iaload, 1) := by decide +kernel
theorem d_Mpg_checkStatement_147 : decode b_Mpg_checkStatement 147 = .ok (.invokevirtual 636, 3) := by decide +kernel
theorem d_Mpg_checkStatement_150 : decode b_Mpg_checkStatement 150 = .ok (.goto 124, 3) := by decide +kernel
theorem d_Mpg_checkStatement_153 : decode b_Mpg_checkStatement 153 = .ok (.aload_n 0, 1) := by decide +kernel
theorem d_Mpg_checkStatement_154 : decode b_Mpg_checkStatement 154 = .ok (.aload_n 0, 1) := by decide +kernel
theorem d_Mpg_checkStatement_155 : decode b_Mpg_checkStatement 155 = .ok (.getfield 216, 3) := by decide +kernel
theorem d_Mpg_checkStatement_158 : decode b_Mpg_checkStatement 158 = .ok (.iload_n 1, 1) := by decide +kernel
theorem d_Mpg_checkStatement_159 : decode b_Mpg_checkStatement 159 = .ok (.iaload, 1) := by decide +kernel
theorem d_Mpg_checkStatement_160 : decode b_Mpg_checkStatement 160 = .ok (.iconst 1, 1) := by decide +kernel
theorem d_Mpg_checkStatement_161 : decode b_Mpg_checkStatement 161 = .ok (.invokevirtual 577, 3) := by decide +kernel
theorem d_Mpg_checkStatement_164 : decode b_Mpg_checkStatement 164 = .ok (.pop, 1) := by decide +kernel
theorem d_Mpg_checkStatement_165 : decode b_Mpg_checkStatement 165 = .ok (.aload_n 0, 1) := by decide +kernel
theorem d_Mpg_checkStatement_166 : decode b_Mpg_checkStatement 166 = .ok (.aload_n 0, 1) := by decide +kernel
theorem d_Mpg_checkStatement_167 : decode b_Mpg_checkStatement 167 = .ok (.getfield 219, 3) := by decide +kernel
theorem d_Mpg_checkStatement_170 : decode b_Mpg_checkStatement 170 = .ok (.iload_n 1, 1) := by decide +kernel
theorem d_Mpg_checkStatement_171 : decode b_Mpg_checkStatement 171 = .ok (.iaload, 1) := by decide +kernel
theorem d_Mpg_checkStatement_172 : decode b_Mpg_checkStatement 172 = .ok (.invokevirtual 655, 3) := by decide +kernel
theorem d_Mpg_checkStatement_175 : decode b_Mpg_checkStatement 175 = .ok (.goto 99, 3) := by decide +kernel
theorem d_Mpg_checkStatement_178 : decode b_Mpg_checkStatement 178 = .ok (.aload_n 0, 1) := by decide +kernel
theorem d_Mpg_checkStatement_179 : decode b_Mpg_checkStatement 179 = .ok (.aload_n 0, 1) := by decide +kernel
theorem d_Mpg_checkStatement_180 : decode b_Mpg_checkStatement 180 = .ok (.getfield 219, 3) := by decide +kernel
theorem d_Mpg_checkStatement_183 : decode b_Mpg_checkStatement 183 = .ok (.iload_n 1, 1) := by decide +kernel
theorem d_Mpg_checkStatement_184 : decode b_Mpg_checkStatement 184 = .ok (.iaload, 1) := by decide +kernel
theorem d_Mpg_checkStatement_185 : decode b_Mpg_checkStatement 185 = .ok (.invokevirtual 655, 3) := by decide +kernel
theorem d_Mpg_checkStatement_188 : decode b_Mpg_checkStatement 188 = .ok (.aload_n 0, 1) := by decide +kernel
theorem d_Mpg_checkStatement_189 : decode b_Mpg_checkStatement 189 = .ok (.aload_n 0, 1) := by decide +kernel
theorem d_Mpg_checkStatement_190 : decode b_Mpg_checkStatement 190 = .ok (.getfield 216, 3) := by decide +kernel
theorem d_Mpg_checkStatement_193 : decode b_Mpg_checkStatement 193 = .ok (.iload_n 1, 1) := by decide +kernel
theorem d_Mpg_checkStatement_194 : decode b_Mpg_checkStatement 194 = .ok (.iaload, 1) := by decide +kernel
theorem d_Mpg_checkStatement_195 : decode b_Mpg_checkStatement 195 = .ok (.iconst 1, 1) := by decide +kernel
theorem d_Mpg_checkStatement_196 : decode b_Mpg_checkStatement 196 = .ok (.invokevirtual 577, 3) := by decide +kernel
theorem d_Mpg_checkStatement_199 : decode b_Mpg_checkStatement 199 = .ok (.pop, 1) := by decide +kernel
theorem d_Mpg_checkStatement_200 : decode b_Mpg_checkStatement 200 = .ok (.goto 74, 3) := by decide +kernel
theorem d_Mpg_checkStatement_203 : decode b_Mpg_checkStatement 203 = .ok (.aload_n 0, 1) := by decide +kernel
theorem d_Mpg_checkStatement_204 : decode b_Mpg_checkStatement 204 = .ok (.iload_n 1, 1) := by decide +kernel
theorem d_Mpg_checkStatement_205 : decode b_Mpg_checkStatement 205 = .ok (.invokevirtual 658, 3) := by decide +kernel
theorem d_Mpg_checkStatement_208 : decode b_Mpg_checkStatement 208 = .ok (.goto 66, 3) := by decide +kernel
theorem d_Mpg_checkStatement_211 : decode b_Mpg_checkStatement 211 = .ok (.aload_n 0, 1) := by decide +kernel
theorem d_Mpg_checkStatement_212 : decode b_Mpg_checkStatement 212 = .ok (.iload_n 1, 1) := by decide +kernel
theorem d_Mpg_checkStatement_213 : decode b_Mpg_checkStatement 213 = .ok (.invokevirtual 661, 3) := by decide +kernel
theorem d_Mpg_checkStatement_216 : decode b_Mpg_checkStatement 216 = .ok (.goto 58, 3) := by decide +kernel
theorem d_Mpg_checkStatement_219 : decode b_Mpg_checkStatement 219 = .ok (.aload_n 0, 1) := by decide +kernel
theorem d_Mpg_checkStatement_220 : decode b_Mpg_checkStatement 220 = .ok (.iload_n 1, 1) := by decide +kernel
theorem d_Mpg_checkStatement_221 : decode b_Mpg_checkStatement 221 = .ok (.invokevirtual 664, 3) := by decide +kernel
theorem d_Mpg_checkStatement_224 : decode b_Mpg_checkStatement 224 = .ok (.goto 50, 3) := by decide +kernel
theorem d_Mpg_checkStatement_227 : decode b_Mpg_checkStatement 227 = .ok (.aload_n 0, 1) := by decide +kernel
theorem d_Mpg_checkStatement_228 : decode b_Mpg_checkStatement 228 = .ok (.getfield 667, 3) := by decide +kernel
theorem d_Mpg_checkStatement_231 : decode b_Mpg_checkStatement 231 = .ok (.ifCond .gt 21, 3) := by decide +kernel
theorem d_Mpg_checkStatement_234 : decode b_Mpg_checkStatement 234 = .ok (.aload_n 0, 1) := by decide +kernel
theorem d_Mpg_checkStatement_235 : decode b_Mpg_checkStatement 235 = .ok (.getfield 207, 3) := by decide +kernel
theorem d_Mpg_checkStatement_238 : decode b_Mpg_checkStatement 238 = .ok (.iload_n 1, 1) := by decide +kernel
theorem d_Mpg_checkStatement_239 : decode b_Mpg_checkStatement 239 = .ok (.baload, 1) := by decide +kernel
theorem d_Mpg_checkStatement_240 : decode b_Mpg_checkStatement 240 = .ok (.bipush 31, 2) := by decide +kernel
theorem d_Mpg_checkStatement_242 : decode b_Mpg_checkStatement 242 = .ok (.if_icmp .ne 14, 3) := by decide +kernel
theorem d_Mpg_checkStatement_245 : decode b_Mpg_checkStatement 245 = .ok (.aload_n 0, 1) := by decide +kernel
theorem d_Mpg_checkStatement_246 : decode b_Mpg_checkStatement 246 = .ok (.getfield 670, 3) := by decide +kernel
theorem d_Mpg_checkStatement_249 : decode b_Mpg_checkStatement 249 = .ok (.ifCond .le 7, 3) := by decide +kernel
theorem d_Mpg_checkStatement_252 : decode b_Mpg_checkStatement 252 = .ok (.iconst 1, 1) := by decide +kernel
theorem d_Mpg_checkStatement_253 : decode b_Mpg_checkStatement 253 = .ok (.goto 4, 3) := by decide +kernel
theorem d_Mpg_checkStatement_256 : decode b_Mpg_checkStatement 256 = .ok (.iconst 0, 1) := by decide +kernel
theorem d_Mpg_checkStatement_257 : decode b_Mpg_checkStatement 257 = .ok (.istore_n 2, 1) := by decide +kernel
theorem d_Mpg_checkStatement_258 : decode b_Mpg_checkStatement 258 = .ok (.iload_n 2, 1) := by decide +kernel
theorem d_Mpg_checkStatement_259 : decode b_Mpg_checkStatement 259 = .ok (.ifCond .ne 15, 3) := by decide +kernel
theorem d_Mpg_checkStatement_262 : decode b_Mpg_checkStatement 262 = .ok (.aload_n 0, 1) := by decide +kernel
theorem d_Mpg_checkStatement_263 : decode b_Mpg_checkStatement 263 = .ok (.bipush 9, 2) := by decide +kernel
theorem d_Mpg_checkStatement_265 : decode b_Mpg_checkStatement 265 = .ok (.aload_n 0, 1) := by decide +kernel
theorem d_Mpg_checkStatement_266 : decode b_Mpg_checkStatement 266 = .ok (.getfield 210, 3) := by decide +kernel
theorem d_Mpg_checkStatement_269 : decode b_Mpg_checkStatement 269 = .ok (.iload_n 1, 1) := by decide +kernel
theorem d_Mpg_checkStatement_270 : decode b_Mpg_checkStatement 270 = .ok (.iaload, 1) := by decide +kernel
theorem d_Mpg_checkStatement_271 : decode b_Mpg_checkStatement 271 = .ok (.invokevirtual 565, 3) := by decide +kernel
theorem d_Mpg_checkStatement_274 : decode b_Mpg_checkStatement 274 = .ok (.return_, 1) := by decide +kernel
theorem q_Mpg_checkStatement : px_y y_Mpg_checkStatement 1 := by unfold px_y; decide +kernel
def StC (l : Launch) (D : va_G) (cs : Nat → ClassId) (d : Nat) : Prop := ∀ (ma0 : Nat → Nat → Int32) (ys : Int) (nf : Int) (tx : Int) (lo : Int) (hi : Int) (w : Int) (h : Nat) (r : Nat → Nat) (g : Nat → Nat → Option Nat) (tf : Nat → Int32) (ta : Nat → Nat → Int32) (pf : Nat → Int32) (na : Nat → Nat → Int32) (wa : Nat → Nat → Int32) (ef : Nat → Int32) (ea : Nat → Nat → Int32) (xf : Nat → Int32) (xa : Nat → Nat → Int32) (ma : Nat → Nat → Int32) (cf : Nat → Int32) (ca : Nat → Nat → Int32) (p0 : Int32)  (g0 : 0 ≤ lo) (g1 : hi ≤ (pf 13).toInt) (g2 : (pf 13).toInt ≤ 2100) (g3 : (tf 6).toInt ≤ 2049) (g4 : 0 ≤ (cf 33).toInt) (g5 : 0 ≤ w) (g6 : 6 * (cf 33).toInt + w ≤ 6540) (g7 : 0 ≤ (cf 48).toInt) (g8 : 6 * (cf 48).toInt + w ≤ 6540) (g9 : (cf 38).toInt = nf) (g10 : 0 ≤ nf) (g11 : 0 ≤ (cf 37).toInt) (g12 : 0 ≤ (cf 54).toInt) (g13 : (cf 54).toInt ≤ 4096 * (cf 48).toInt) (g14 : 0 ≤ (cf 42).toInt) (g15 : (cf 42).toInt ≤ 4 + 4096 * (cf 48).toInt) (g16 : 0 ≤ (cf 44).toInt) (g17 : 0 ≤ (cf 45).toInt) (g18 : ys ≤ (cf 48).toInt ∨ tx = 1) (g19 : 0 ≤ (cf 46).toInt) (g20 : (cf 46).toInt ≤ 1) (g21 : 0 ≤ (cf 47).toInt) (g22 : (cf 47).toInt ≤ 1) (g23 : (cf 44).toInt + (d : Int) ≤ 400) (g24 : (cf 45).toInt + (d : Int) ≤ 400) (g25 : 0 ≤ (cf 43).toInt) (g26 : (cf 43).toInt < 2100) (g27 : tx = 0) (htk : TkI tf ta) (hfs : FsI (tf 6).toInt (pf 13).toInt na) (hwr : WrV cf (tf 6).toInt) (hkt : KnT (tf 6).toInt ca (cf 33).toInt) (hft : FnT (tf 6).toInt na ca (cf 38).toInt) (hks : KnS ca (cf 33).toInt (cf 48).toInt ys) (hfp : FnP na ca nf) (hsr : SyR ca ys (cf 48).toInt (cf 54).toInt tx) (han : Ann na ma0 ma) (htx : txo (cf 43).toInt = tx) (hsc : ScV ta (tf 6).toInt na ma0 d lo hi w p0), MetV l y_Mpg_checkStatement b_Mpg_checkStatement 3 D cs (6 * d + 26) (260 * d + 900) (0) (0) [.ref h, .int p0] [wdP cs h r g tf ta pf na ma wa cf ca ef ea xf xa] (oX (fun A U H => (oP A g U H)) [wdP cs h r g tf ta pf na ma wa cf ca ef ea xf xa]) (fun ps => ∃ (ma' : Nat → Nat → Int32) (cf' : Nat → Int32) (ca' : Nat → Nat → Int32), (ps = [wdP cs h r g tf ta pf na ma' wa cf' ca' ef ea xf xa]) ∧ ((cf' 30).toInt = 0 → (cf 30).toInt = 0) ∧ (WrV cf' (tf 6).toInt) ∧ ((cf' 37).toInt = (cf 37).toInt) ∧ ((cf' 38).toInt = (cf 38).toInt) ∧ ((cf' 43).toInt = (cf 43).toInt) ∧ ((cf' 44).toInt = (cf 44).toInt) ∧ ((cf' 45).toInt = (cf 45).toInt) ∧ ((cf' 46).toInt = (cf 46).toInt) ∧ ((cf' 47).toInt = (cf 47).toInt) ∧ ((cf' 41).toInt = (cf 41).toInt) ∧ ((cf' 55).toInt = (cf 55).toInt) ∧ ((cf' 59).toInt = (cf 59).toInt) ∧ ((cf 33).toInt ≤ (cf' 33).toInt) ∧ (6 * (cf' 33).toInt ≤ 6 * (cf 33).toInt + (w)) ∧ ((cf 48).toInt ≤ (cf' 48).toInt) ∧ (6 * (cf' 48).toInt ≤ 6 * (cf 48).toInt + (w)) ∧ ((cf 54).toInt ≤ (cf' 54).toInt) ∧ ((cf 42).toInt ≤ (cf' 42).toInt) ∧ ((cf' 54).toInt - (cf 54).toInt ≤ 4 * ((cf' 42).toInt - (cf 42).toInt)) ∧ ((cf' 54).toInt - (cf 54).toInt ≤ 4096 * ((cf' 48).toInt - (cf 48).toInt)) ∧ ((cf' 42).toInt - (cf 42).toInt ≤ 4096 * ((cf' 48).toInt - (cf 48).toInt)) ∧ (KnT (tf 6).toInt ca' (cf' 33).toInt) ∧ (KnS ca' (cf' 33).toInt (cf' 48).toInt ys) ∧ (CaG ca ca' (cf 33).toInt (cf 48).toInt) ∧ (SyR ca' ys (cf' 48).toInt (cf' 54).toInt tx) ∧ (Ann na ma0 ma') ∧ (FrC lo hi ma ma') ∧ (ZTe cf' ta ca' na ma0 (cf' 48).toInt ys nf ma' lo hi p0 (tgv (cf 44).toInt (cf 45).toInt)))
abbrev b_Mpg_statements : ByteArray := prog_16_method_88_code
def y_Mpg_statements : MethodName := ⟨"HomeSystemModel$Program", "statements", "(I)V"⟩
theorem d_Mpg_statements_0 : decode b_Mpg_statements 0 = .ok (.iload_n 1, 1) := by decide +kernel
theorem d_Mpg_statements_1 : decode b_Mpg_statements 1 = .ok (.istore_n 2, 1) := by decide +kernel
theorem d_Mpg_statements_2 : decode b_Mpg_statements 2 = .ok (.iload_n 2, 1) := by decide +kernel
theorem d_Mpg_statements_3 : decode b_Mpg_statements 3 = .ok (.ifCond .lt 18, 3) := by decide +kernel
theorem d_Mpg_statements_6 : decode b_Mpg_statements 6 = .ok (.aload_n 0, 1) := by decide +kernel
theorem d_Mpg_statements_7 : decode b_Mpg_statements 7 = .ok (.iload_n 2, 1) := by decide +kernel
theorem d_Mpg_statements_8 : decode b_Mpg_statements 8 = .ok (.invokevirtual 636, 3) := by decide +kernel
theorem d_Mpg_statements_11 : decode b_Mpg_statements 11 = .ok (.aload_n 0, 1) := by decide +kernel
theorem d_Mpg_statements_12 : decode b_Mpg_statements 12 = .ok (.getfield 228, 3) := by decide +kernel
theorem d_Mpg_statements_15 : decode b_Mpg_statements 15 = .ok (.iload_n 2, 1) := by decide +kernel
theorem d_Mpg_statements_16 : decode b_Mpg_statements 16 = .ok (.iaload, 1) := by decide +kernel
theorem d_Mpg_statements_17 : decode b_Mpg_statements 17 = .ok (.istore_n 2, 1) := by decide +kernel
theorem d_Mpg_statements_18 : decode b_Mpg_statements 18 = .ok (.goto (-16), 3) := by decide +kernel
theorem d_Mpg_statements_21 : decode b_Mpg_statements 21 = .ok (.return_, 1) := by decide +kernel
theorem q_Mpg_statements : px_y y_Mpg_statements 1 := by unfold px_y; decide +kernel
set_option maxHeartbeats 4000000 in
set_option maxRecDepth 100000 in
theorem c_mp_statements (l : Launch) (D : va_G) (cs : Nat → ClassId) (ma0 : Nat → Nat → Int32) (ys : Int) (nf : Int) (tx : Int) (d : Nat) (lo : Int) (hi : Int) (w : Int) (h : Nat) (r : Nat → Nat) (g : Nat → Nat → Option Nat) (tf : Nat → Int32) (ta : Nat → Nat → Int32) (pf : Nat → Int32) (na : Nat → Nat → Int32) (wa : Nat → Nat → Int32) (ef : Nat → Int32) (ea : Nat → Nat → Int32) (xf : Nat → Int32) (xa : Nat → Nat → Int32) (ma : Nat → Nat → Int32) (cf : Nat → Int32) (ca : Nat → Nat → Int32) (p0 : Int32)  (g0 : 0 ≤ lo) (g1 : hi ≤ (pf 13).toInt) (g2 : (pf 13).toInt ≤ 2100) (g3 : (tf 6).toInt ≤ 2049) (g4 : 0 ≤ (cf 33).toInt) (g5 : 0 ≤ w) (g6 : 6 * (cf 33).toInt + w ≤ 6540) (g7 : 0 ≤ (cf 48).toInt) (g8 : 6 * (cf 48).toInt + w ≤ 6540) (g9 : (cf 38).toInt = nf) (g10 : 0 ≤ nf) (g11 : 0 ≤ (cf 37).toInt) (g12 : 0 ≤ (cf 54).toInt) (g13 : (cf 54).toInt ≤ 4096 * (cf 48).toInt) (g14 : 0 ≤ (cf 42).toInt) (g15 : (cf 42).toInt ≤ 4 + 4096 * (cf 48).toInt) (g16 : 0 ≤ (cf 44).toInt) (g17 : 0 ≤ (cf 45).toInt) (g18 : ys ≤ (cf 48).toInt ∨ tx = 1) (g19 : 0 ≤ (cf 46).toInt) (g20 : (cf 46).toInt ≤ 1) (g21 : 0 ≤ (cf 47).toInt) (g22 : (cf 47).toInt ≤ 1) (g23 : (cf 44).toInt + (d : Int) ≤ 400) (g24 : (cf 45).toInt + (d : Int) ≤ 400) (g25 : 0 ≤ (cf 43).toInt) (g26 : (cf 43).toInt < 2100) (g27 : tx = 0) (g28 : lo ≤ hi) (htk : TkI tf ta) (hfs : FsI (tf 6).toInt (pf 13).toInt na) (hwr : WrV cf (tf 6).toInt) (hkt : KnT (tf 6).toInt ca (cf 33).toInt) (hft : FnT (tf 6).toInt na ca (cf 38).toInt) (hks : KnS ca (cf 33).toInt (cf 48).toInt ys) (hfp : FnP na ca nf) (hsr : SyR ca ys (cf 48).toInt (cf 54).toInt tx) (han : Ann na ma0 ma) (htx : txo (cf 43).toInt = tx) (hrs : RvS ta (tf 6).toInt na ma0 d lo hi w p0) (hLS : StC l D cs d) : MetV l y_Mpg_statements b_Mpg_statements 3 D cs (6 * d + 27) (260 * d + 940) (0) (0) [.ref h, .int p0] [wdP cs h r g tf ta pf na ma wa cf ca ef ea xf xa] (oX (fun A U H => (oP A g U H)) [wdP cs h r g tf ta pf na ma wa cf ca ef ea xf xa]) (fun ps => ∃ (ma' : Nat → Nat → Int32) (cf' : Nat → Int32) (ca' : Nat → Nat → Int32), (ps = [wdP cs h r g tf ta pf na ma' wa cf' ca' ef ea xf xa]) ∧ ((cf' 30).toInt = 0 → (cf 30).toInt = 0) ∧ (WrV cf' (tf 6).toInt) ∧ ((cf' 37).toInt = (cf 37).toInt) ∧ ((cf' 38).toInt = (cf 38).toInt) ∧ ((cf' 43).toInt = (cf 43).toInt) ∧ ((cf' 44).toInt = (cf 44).toInt) ∧ ((cf' 45).toInt = (cf 45).toInt) ∧ ((cf' 46).toInt = (cf 46).toInt) ∧ ((cf' 47).toInt = (cf 47).toInt) ∧ ((cf' 41).toInt = (cf 41).toInt) ∧ ((cf' 55).toInt = (cf 55).toInt) ∧ ((cf' 59).toInt = (cf 59).toInt) ∧ ((cf 33).toInt ≤ (cf' 33).toInt) ∧ (6 * (cf' 33).toInt ≤ 6 * (cf 33).toInt + (w)) ∧ ((cf 48).toInt ≤ (cf' 48).toInt) ∧ (6 * (cf' 48).toInt ≤ 6 * (cf 48).toInt + (w)) ∧ ((cf 54).toInt ≤ (cf' 54).toInt) ∧ ((cf 42).toInt ≤ (cf' 42).toInt) ∧ ((cf' 54).toInt - (cf 54).toInt ≤ 4 * ((cf' 42).toInt - (cf 42).toInt)) ∧ ((cf' 54).toInt - (cf 54).toInt ≤ 4096 * ((cf' 48).toInt - (cf 48).toInt)) ∧ ((cf' 42).toInt - (cf 42).toInt ≤ 4096 * ((cf' 48).toInt - (cf 48).toInt)) ∧ (KnT (tf 6).toInt ca' (cf' 33).toInt) ∧ (KnS ca' (cf' 33).toInt (cf' 48).toInt ys) ∧ (CaG ca ca' (cf 33).toInt (cf 48).toInt) ∧ (SyR ca' ys (cf' 48).toInt (cf' 54).toInt tx) ∧ (Ann na ma0 ma') ∧ (FrC lo hi ma ma') ∧ (ZTw cf' ta ca' na ma0 (cf' 48).toInt ys nf ma' lo hi p0 (tgv (cf 44).toInt (cf 45).toInt))) := by
  refine px_enter (by decide) (Nat.le_of_ble_eq_true rfl) ?_
  intro p e s m below meth c A ls hAe S hr hlk hnm hA hT hX hw hl
  replace hl : lv_has ls 3 [(0, .ref h), (1, .int p0)] := hl
  have lp0 := Int32.le_toInt p0
  have up0 := Int32.toInt_lt p0
  have hX : (fun A U H => (oP A g U H)) A s s.heap := by rw [hAe]; exact hX
  have hP := hX
  have hZ := hP.1
  have hF0 := hP.2.1
  have hfc : FrC lo hi ma ma := FrC.rf
  have hwr0 := hwr.1
  have hk11 := hkt.1
  have hf11 := hft.1
  have hcg : CaG ca ca (cf 33).toInt (cf 48).toInt := CaG.rf
  have J2 : ∀ (n_2 : Nat) (ma_2 : Nat → Nat → Int32) (cf_2 : Nat → Int32) (ca_2 : Nat → Nat → Int32) (mid_2 : Int) (wr_2 : Int) (x2_2 : Int32) (H : Heap) (locs : List Loc) (ls : Array Slot), ((cf_2 30).toInt = 0 → (cf 30).toInt = 0) → (WrV cf_2 (tf 6).toInt) → ((cf_2 37).toInt = (cf 37).toInt) → ((cf_2 38).toInt = (cf 38).toInt) → ((cf_2 43).toInt = (cf 43).toInt) → ((cf_2 44).toInt = (cf 44).toInt) → ((cf_2 45).toInt = (cf 45).toInt) → ((cf_2 46).toInt = (cf 46).toInt) → ((cf_2 47).toInt = (cf 47).toInt) → ((cf_2 41).toInt = (cf 41).toInt) → ((cf_2 55).toInt = (cf 55).toInt) → ((cf_2 59).toInt = (cf 59).toInt) → ((cf 33).toInt ≤ (cf_2 33).toInt) → (6 * (cf_2 33).toInt ≤ 6 * (cf 33).toInt + (w - wr_2)) → ((cf 48).toInt ≤ (cf_2 48).toInt) → (6 * (cf_2 48).toInt ≤ 6 * (cf 48).toInt + (w - wr_2)) → ((cf 54).toInt ≤ (cf_2 54).toInt) → ((cf 42).toInt ≤ (cf_2 42).toInt) → ((cf_2 54).toInt - (cf 54).toInt ≤ 4 * ((cf_2 42).toInt - (cf 42).toInt)) → ((cf_2 54).toInt - (cf 54).toInt ≤ 4096 * ((cf_2 48).toInt - (cf 48).toInt)) → ((cf_2 42).toInt - (cf 42).toInt ≤ 4096 * ((cf_2 48).toInt - (cf 48).toInt)) → (KnT (tf 6).toInt ca_2 (cf_2 33).toInt) → (KnS ca_2 (cf_2 33).toInt (cf_2 48).toInt ys) → (CaG ca ca_2 (cf 33).toInt (cf 48).toInt) → (SyR ca_2 ys (cf_2 48).toInt (cf_2 54).toInt tx) → (Ann na ma0 ma_2) → (FrC lo hi ma ma_2) → (lo ≤ mid_2) → (mid_2 ≤ hi) → (0 ≤ wr_2) → (wr_2 ≤ w) → (RvS ta (tf 6).toInt na ma0 d mid_2 hi wr_2 x2_2) → (ZTs cf_2 ta ca_2 na ma0 (cf_2 48).toInt ys nf ma_2 lo mid_2 p0 x2_2 (tgv (cf 44).toInt (cf 45).toInt)) → hi - mid_2 < (n_2 : Int) → pw D A s.heap H locs [wdP cs h r g tf ta pf na ma_2 wa cf_2 ca_2 ef ea xf xa] → lv_has ls 3 [(0, .ref h), (1, .int p0), (2, .int x2_2)] → W p l e { frames := (6 * d + 27), cells := 0, slots := 0, locals := (260 * d + 940) } s m [.ref h, .int p0].toArray below meth c H locs 0 0 (MQ below (va_Qv (fun ps => ∃ (ma' : Nat → Nat → Int32) (cf' : Nat → Int32) (ca' : Nat → Nat → Int32), (ps = [wdP cs h r g tf ta pf na ma' wa cf' ca' ef ea xf xa]) ∧ ((cf' 30).toInt = 0 → (cf 30).toInt = 0) ∧ (WrV cf' (tf 6).toInt) ∧ ((cf' 37).toInt = (cf 37).toInt) ∧ ((cf' 38).toInt = (cf 38).toInt) ∧ ((cf' 43).toInt = (cf 43).toInt) ∧ ((cf' 44).toInt = (cf 44).toInt) ∧ ((cf' 45).toInt = (cf 45).toInt) ∧ ((cf' 46).toInt = (cf 46).toInt) ∧ ((cf' 47).toInt = (cf 47).toInt) ∧ ((cf' 41).toInt = (cf 41).toInt) ∧ ((cf' 55).toInt = (cf 55).toInt) ∧ ((cf' 59).toInt = (cf 59).toInt) ∧ ((cf 33).toInt ≤ (cf' 33).toInt) ∧ (6 * (cf' 33).toInt ≤ 6 * (cf 33).toInt + (w)) ∧ ((cf 48).toInt ≤ (cf' 48).toInt) ∧ (6 * (cf' 48).toInt ≤ 6 * (cf 48).toInt + (w)) ∧ ((cf 54).toInt ≤ (cf' 54).toInt) ∧ ((cf 42).toInt ≤ (cf' 42).toInt) ∧ ((cf' 54).toInt - (cf 54).toInt ≤ 4 * ((cf' 42).toInt - (cf 42).toInt)) ∧ ((cf' 54).toInt - (cf 54).toInt ≤ 4096 * ((cf' 48).toInt - (cf 48).toInt)) ∧ ((cf' 42).toInt - (cf 42).toInt ≤ 4096 * ((cf' 48).toInt - (cf 48).toInt)) ∧ (KnT (tf 6).toInt ca' (cf' 33).toInt) ∧ (KnS ca' (cf' 33).toInt (cf' 48).toInt ys) ∧ (CaG ca ca' (cf 33).toInt (cf 48).toInt) ∧ (SyR ca' ys (cf' 48).toInt (cf' 54).toInt tx) ∧ (Ann na ma0 ma') ∧ (FrC lo hi ma ma') ∧ (ZTw cf' ta ca' na ma0 (cf' 48).toInt ys nf ma' lo hi p0 (tgv (cf 44).toInt (cf 45).toInt))) (pc_B D (va_A ([wdP cs h r g tf ta pf na ma wa cf ca ef ea xf xa] : List va_W).flatten s.heap.size)) (va_A ([wdP cs h r g tf ta pf na ma wa cf ca ef ea xf xa] : List va_W).flatten s.heap.size)) [.ref h, .int p0].toArray s 0 0 A) (F0 m 2 ls []) := by
    intro  n_2
    induction n_2 with
    | zero =>
      intro ma_2 cf_2 ca_2 mid_2 wr_2 x2_2 H locs ls k2_0 k2_1 k2_2 k2_3 k2_4 k2_5 k2_6 k2_7 k2_8 k2_9 k2_10 k2_11 k2_12 k2_13 k2_14 k2_15 k2_16 k2_17 k2_18 k2_19 k2_20 k2_21 k2_22 k2_23 k2_24 k2_25 k2_26 k2_27 k2_28 k2_29 k2_30 k2_31 k2_32 hm hw hl
      have lx2_2 := Int32.le_toInt x2_2
      have ux2_2 := Int32.toInt_lt x2_2
      have hwr := k2_1
      have hw0_k2_1 := hwr.1
      have hkt := k2_21
      have hk11_k2_21 := hkt.1
      have hks := k2_22
      have hcg := k2_23
      have hft := hft.cg k2_23
      have hfp := hfp.cg k2_23
      have hsr := k2_24
      have han := k2_25
      have hfc := k2_26
      have hrs := k2_31
      have hzts := k2_32
      exact absurd hm (by first | with_reducible rfl | with_reducible assumption | omega)
    | succ n_2 ih2 =>
      intro ma_2 cf_2 ca_2 mid_2 wr_2 x2_2 H locs ls k2_0 k2_1 k2_2 k2_3 k2_4 k2_5 k2_6 k2_7 k2_8 k2_9 k2_10 k2_11 k2_12 k2_13 k2_14 k2_15 k2_16 k2_17 k2_18 k2_19 k2_20 k2_21 k2_22 k2_23 k2_24 k2_25 k2_26 k2_27 k2_28 k2_29 k2_30 k2_31 k2_32 hm hw hl
      have lx2_2 := Int32.le_toInt x2_2
      have ux2_2 := Int32.toInt_lt x2_2
      have hwr := k2_1
      have hw0_k2_1 := hwr.1
      have hkt := k2_21
      have hk11_k2_21 := hkt.1
      have hks := k2_22
      have hcg := k2_23
      have hft := hft.cg k2_23
      have hfp := hfp.cg k2_23
      have hsr := k2_24
      have han := k2_25
      have hfc := k2_26
      have hrs := k2_31
      have hzts := k2_32
      refine lv_iload_n S.x S.b d_Mpg_statements_2 rfl (lv_at hl 2 rfl) ?_
      refine lv_if_lt (tgt := 21) S.x S.b d_Mpg_statements_3 (by decide) (fun c1 => ?_) (fun c1 => ?_)
      · have nc1 : x2_2.toInt < (0 : Int) := (i_lt (x := x2_2) (y := 0)).mp c1
        exact px_vret S hr hlk hAe hw (Nat.le_of_ble_eq_true rfl) (Nat.le_of_ble_eq_true rfl) (⟨ma_2, cf_2, ca_2, rfl, (show (cf_2 30).toInt = 0 → (cf 30).toInt = 0 from by first | exact k2_0 | omega), (show WrV cf_2 (tf 6).toInt from hwr), (show (cf_2 37).toInt = (cf 37).toInt from by first | exact k2_2 | omega), (show (cf_2 38).toInt = (cf 38).toInt from by first | exact k2_3 | omega), (show (cf_2 43).toInt = (cf 43).toInt from by first | exact k2_4 | omega), (show (cf_2 44).toInt = (cf 44).toInt from by first | exact k2_5 | omega), (show (cf_2 45).toInt = (cf 45).toInt from by first | exact k2_6 | omega), (show (cf_2 46).toInt = (cf 46).toInt from by first | exact k2_7 | omega), (show (cf_2 47).toInt = (cf 47).toInt from by first | exact k2_8 | omega), (show (cf_2 41).toInt = (cf 41).toInt from by first | exact k2_9 | omega), (show (cf_2 55).toInt = (cf 55).toInt from by first | exact k2_10 | omega), (show (cf_2 59).toInt = (cf 59).toInt from by first | exact k2_11 | omega), (show (cf 33).toInt ≤ (cf_2 33).toInt from by first | exact k2_12 | omega), (show 6 * (cf_2 33).toInt ≤ 6 * (cf 33).toInt + (w) from by first | exact oz_45803030ed k2_13 k2_29 | omega), (show (cf 48).toInt ≤ (cf_2 48).toInt from by first | exact k2_14 | omega), (show 6 * (cf_2 48).toInt ≤ 6 * (cf 48).toInt + (w) from by first | exact oz_45803030ed k2_15 k2_29 | omega), (show (cf 54).toInt ≤ (cf_2 54).toInt from by first | exact k2_16 | omega), (show (cf 42).toInt ≤ (cf_2 42).toInt from by first | exact k2_17 | omega), (show (cf_2 54).toInt - (cf 54).toInt ≤ 4 * ((cf_2 42).toInt - (cf 42).toInt) from by first | exact k2_18 | omega), (show (cf_2 54).toInt - (cf 54).toInt ≤ 4096 * ((cf_2 48).toInt - (cf 48).toInt) from by first | exact k2_19 | omega), (show (cf_2 42).toInt - (cf 42).toInt ≤ 4096 * ((cf_2 48).toInt - (cf 48).toInt) from by first | exact k2_20 | omega), (show KnT (tf 6).toInt ca_2 (cf_2 33).toInt from (KnT.eq hkt (by first | with_reducible rfl | with_reducible assumption | omega))), (show KnS ca_2 (cf_2 33).toInt (cf_2 48).toInt ys from (KnS.eq hks (by first | with_reducible rfl | with_reducible assumption | omega) (by first | with_reducible rfl | with_reducible assumption | omega))), (show CaG ca ca_2 (cf 33).toInt (cf 48).toInt from (hcg.le (by first | with_reducible rfl | with_reducible assumption | omega) (by first | with_reducible rfl | with_reducible assumption | omega))), (show SyR ca_2 ys (cf_2 48).toInt (cf_2 54).toInt tx from (SyR.eq hsr (by first | with_reducible rfl | with_reducible assumption | omega) (by first | with_reducible rfl | with_reducible assumption | omega))), (show Ann na ma0 ma_2 from han), (show FrC lo hi ma ma_2 from hfc), (show ZTw cf_2 ta ca_2 na ma0 (cf_2 48).toInt ys nf ma_2 lo hi p0 (tgv (cf 44).toInt (cf 45).toInt) from (ZTs.w hzts (by first | with_reducible rfl | with_reducible assumption | omega) (fun q => by first | with_reducible rfl | with_reducible assumption | omega) (by first | with_reducible rfl | with_reducible assumption | omega) (by first | with_reducible rfl | with_reducible assumption | omega) (by first | with_reducible rfl | with_reducible assumption | omega) rfl))⟩) d_Mpg_statements_21
      · have nc1 : ¬ x2_2.toInt < (0 : Int) := mt (i_lt (x := x2_2) (y := 0)).mpr c1
        refine lv_aload_n S.x S.b d_Mpg_statements_6 rfl (lv_at hl 0 rfl) ?_
        obtain ⟨md2, wv3, hm1_md2, hm2_md2, hm3_md2, hsc_x2_2, hx3_md2, hrs2⟩ := RvE.step hrs (by first | with_reducible rfl | with_reducible assumption | omega); have hwp2 := RvE.wp hrs2; have hsr_x2_2 := ScV.rng hsc_x2_2
        refine lv_iload_n S.x S.b d_Mpg_statements_7 rfl (lv_at hl 2 rfl) ?_
        refine px_callv (pr := []) (px_runV (As := [.int x2_2]) (rest := []) S (hLS ma0 ys nf tx mid_2 md2 wv3 h r g tf ta pf na wa ef ea xf xa ma_2 cf_2 ca_2 x2_2 (show 0 ≤ mid_2 from by first | exact oz_16d7fa9f32 k2_27 g0 | omega) (show md2 ≤ (pf 13).toInt from by first | exact oz_bbb5b20c1a g1 hm2_md2 | omega) (show (pf 13).toInt ≤ 2100 from by first | exact g2 | omega) (show (tf 6).toInt ≤ 2049 from by first | exact g3 | omega) (show 0 ≤ (cf_2 33).toInt from by first | exact oz_16d7fa9f32 k2_12 g4 | omega) (show 0 ≤ wv3 from by first | exact hm3_md2 | omega) (show 6 * (cf_2 33).toInt + wv3 ≤ 6540 from by first | with_reducible rfl | with_reducible assumption | omega) (show 0 ≤ (cf_2 48).toInt from by first | exact oz_6a9f12b40a k2_20 g14 g15 k2_17 | omega) (show 6 * (cf_2 48).toInt + wv3 ≤ 6540 from by first | with_reducible rfl | with_reducible assumption | omega) (show (cf_2 38).toInt = nf from by first | exact oz_1687f4cc65 g9 k2_3 | omega) (show 0 ≤ nf from by first | exact g10 | omega) (show 0 ≤ (cf_2 37).toInt from by first | exact oz_f3ebed1ad0 k2_2 g11 | omega) (show 0 ≤ (cf_2 54).toInt from by first | exact oz_16d7fa9f32 k2_16 g12 | omega) (show (cf_2 54).toInt ≤ 4096 * (cf_2 48).toInt from by first | exact oz_c501c098b4 k2_19 g13 | omega) (show 0 ≤ (cf_2 42).toInt from by first | exact oz_16d7fa9f32 k2_17 g14 | omega) (show (cf_2 42).toInt ≤ 4 + 4096 * (cf_2 48).toInt from by first | exact oz_658acb1b4c k2_20 g15 | omega) (show 0 ≤ (cf_2 44).toInt from by first | exact oz_f3ebed1ad0 k2_5 g16 | omega) (show 0 ≤ (cf_2 45).toInt from by first | exact oz_f3ebed1ad0 k2_6 g17 | omega) (show ys ≤ (cf_2 48).toInt ∨ tx = 1 from by first | with_reducible rfl | with_reducible assumption | omega) (show 0 ≤ (cf_2 46).toInt from by first | exact oz_f3ebed1ad0 k2_7 g19 | omega) (show (cf_2 46).toInt ≤ 1 from by first | exact oz_878017becc k2_7 g20 | omega) (show 0 ≤ (cf_2 47).toInt from by first | exact oz_f3ebed1ad0 k2_8 g21 | omega) (show (cf_2 47).toInt ≤ 1 from by first | exact oz_878017becc k2_8 g22 | omega) (show (cf_2 44).toInt + (d : Int) ≤ 400 from by first | exact oz_fd63dfae6d g23 k2_5 | omega) (show (cf_2 45).toInt + (d : Int) ≤ 400 from by first | exact oz_fd63dfae6d g24 k2_6 | omega) (show 0 ≤ (cf_2 43).toInt from by first | exact oz_f3ebed1ad0 k2_4 g25 | omega) (show (cf_2 43).toInt < 2100 from by first | exact oz_b365134983 k2_4 g26 | omega) (show tx = 0 from by first | exact g27 | omega) htk (FsI.le (N' := (pf 13).toInt) hfs (by first | with_reducible rfl | with_reducible assumption | omega)) hwr (KnT.eq hkt (by first | with_reducible rfl | with_reducible assumption | omega)) (FnT.eq hft (by first | with_reducible rfl | with_reducible assumption | omega)) (KnS.eq hks (by first | with_reducible rfl | with_reducible assumption | omega) (by first | with_reducible rfl | with_reducible assumption | omega)) hfp (SyR.eq hsr (by first | with_reducible rfl | with_reducible assumption | omega) (by first | with_reducible rfl | with_reducible assumption | omega)) han (show txo (cf_2 43).toInt = tx from by rw [show (cf_2 43).toInt = (cf 43).toInt by omega]; exact htx) hsc_x2_2 _) hT (pr := []) (pcs := [wdP cs h r g tf ta pf na ma_2 wa cf_2 ca_2 ef ea xf xa]) hw (oX_call (P := (fun A U H => (oP A g U H))) (pr := []) oG_P hw hA hP) (px_recv hT hw 0 0 rfl rfl rfl) m12_201 m12_198 m12_200 ms_12_3 m1_21 q_Mpg_checkStatement ⟨show (6 * d + 26) + 1 ≤ (6 * d + 27) from by first | with_reducible rfl | with_reducible assumption | omega, show 8 + (3 + 11) + (260 * d + 900) ≤ (260 * d + 940) from by first | with_reducible rfl | with_reducible assumption | omega⟩ hl.1 rfl (Nat.le_of_ble_eq_true rfl) d_Mpg_statements_8 ⟨Nat.le_of_ble_eq_true rfl, Nat.le_of_ble_eq_true rfl⟩) hw hA (fun p10 H locs hp10 hw => ?_)
        obtain ⟨ma7, cf8, ca9, rfl, e12, e13, e14, e15, e16, e17, e18, e19, e20, e21, e22, e23, e24, e25, e26, e27, e28, e29, e30, e31, e32, e33, e34, e35, e36, e37, e38, e39⟩ := hp10
        replace e12 : (cf8 30).toInt = 0 → (cf_2 30).toInt = 0 := e12
        replace e13 : WrV cf8 (tf 6).toInt := e13
        have hwr := e13
        have hw0_e13 := hwr.1
        replace e14 : (cf8 37).toInt = (cf_2 37).toInt := e14
        replace e15 : (cf8 38).toInt = (cf_2 38).toInt := e15
        replace e16 : (cf8 43).toInt = (cf_2 43).toInt := e16
        replace e17 : (cf8 44).toInt = (cf_2 44).toInt := e17
        replace e18 : (cf8 45).toInt = (cf_2 45).toInt := e18
        replace e19 : (cf8 46).toInt = (cf_2 46).toInt := e19
        replace e20 : (cf8 47).toInt = (cf_2 47).toInt := e20
        replace e21 : (cf8 41).toInt = (cf_2 41).toInt := e21
        replace e22 : (cf8 55).toInt = (cf_2 55).toInt := e22
        replace e23 : (cf8 59).toInt = (cf_2 59).toInt := e23
        replace e24 : (cf_2 33).toInt ≤ (cf8 33).toInt := e24
        replace e25 : 6 * (cf8 33).toInt ≤ 6 * (cf_2 33).toInt + (wv3) := e25
        replace e26 : (cf_2 48).toInt ≤ (cf8 48).toInt := e26
        replace e27 : 6 * (cf8 48).toInt ≤ 6 * (cf_2 48).toInt + (wv3) := e27
        replace e28 : (cf_2 54).toInt ≤ (cf8 54).toInt := e28
        replace e29 : (cf_2 42).toInt ≤ (cf8 42).toInt := e29
        replace e30 : (cf8 54).toInt - (cf_2 54).toInt ≤ 4 * ((cf8 42).toInt - (cf_2 42).toInt) := e30
        replace e31 : (cf8 54).toInt - (cf_2 54).toInt ≤ 4096 * ((cf8 48).toInt - (cf_2 48).toInt) := e31
        replace e32 : (cf8 42).toInt - (cf_2 42).toInt ≤ 4096 * ((cf8 48).toInt - (cf_2 48).toInt) := e32
        replace e33 : KnT (tf 6).toInt ca9 (cf8 33).toInt := e33
        have hkt := e33
        have hk11_e33 := hkt.1
        replace e34 : KnS ca9 (cf8 33).toInt (cf8 48).toInt ys := e34
        have hks := e34
        replace e35 : CaG ca_2 ca9 (cf_2 33).toInt (cf_2 48).toInt := e35
        have hcg := hcg.tr e35 (by first | with_reducible rfl | with_reducible assumption | omega) (by first | with_reducible rfl | with_reducible assumption | omega)
        have hft := hft.cg e35
        have hfp := hfp.cg e35
        replace e36 : SyR ca9 ys (cf8 48).toInt (cf8 54).toInt tx := e36
        have hsr := e36
        replace e37 : Ann na ma0 ma7 := e37
        have han := e37
        replace e38 : FrC mid_2 md2 ma_2 ma7 := e38
        have hfc := hfc.tr e38 (by first | with_reducible rfl | with_reducible assumption | omega) (by first | with_reducible rfl | with_reducible assumption | omega)
        have hzts : ZTs cf8 ta ca9 na ma0 (cf8 48).toInt ys nf ma7 lo mid_2 p0 x2_2 (tgv (cf 44).toInt (cf 45).toInt) := ZTs.tr hzts (fun q => by first | with_reducible rfl | with_reducible assumption | omega) e38 (by first | with_reducible rfl | with_reducible assumption | omega) e35 (by first | with_reducible rfl | with_reducible assumption | omega) (by first | with_reducible rfl | with_reducible assumption | omega)
        replace e39 : ZTe cf8 ta ca9 na ma0 (cf8 48).toInt ys nf ma7 mid_2 md2 x2_2 (tgv (cf_2 44).toInt (cf_2 45).toInt) := e39
        have hts_x2_2 : ZTe cf8 ta ca9 na ma0 (cf8 48).toInt ys nf ma7 mid_2 md2 x2_2 (tgv (cf 44).toInt (cf 45).toInt) := ZTe.to e39 (fun q => by first | with_reducible rfl | with_reducible assumption | omega) (by first | with_reducible rfl | with_reducible assumption | omega) (Int.le_refl _) (Int.le_refl _) (by congr 1 <;> omega)
        replace hw : pw D A s.heap H locs [wdP cs h r g tf ta pf na ma7 wa cf8 ca9 ef ea xf xa] := hw
        refine lv_aload_n S.x S.b d_Mpg_statements_11 rfl (lv_at hl 0 rfl) ?_
        refine px_get S k_Mpg hT hw 0 0 21 (v := .ref (r 21)) rfl rfl rfl (by decide) m10_7 d_Mpg_statements_12 ?_
        refine lv_iload_n S.x S.b d_Mpg_statements_15 rfl (lv_at hl 2 rfl) ?_
        refine px_iald S hT hw 0 17 (n := 2100) (f := (na 21)) rfl gp_21 (x := x2_2) (vp_in_iff.mpr (by constructor <;> omega)) d_Mpg_statements_16 ?_
        refine lv_topi (fun z40 ez40 => ?_)
        have lz40 := Int32.le_toInt z40
        have uz40 := Int32.toInt_lt z40
        refine lv_istore_n (lv' := [(2, .int z40), (0, .ref h), (1, .int p0)]) S.x S.b d_Mpg_statements_17 rfl hl (by decide) rfl (fun ls hl => ?_)
        refine lv_goto (tgt := 2) S.x S.b d_Mpg_statements_18 (by decide) ?_
        exact ih2 ma7 cf8 ca9 md2 (wr_2 - wv3) z40 _ _ ls (show (cf8 30).toInt = 0 → (cf 30).toInt = 0 from by first | with_reducible rfl | with_reducible assumption | omega) (show WrV cf8 (tf 6).toInt from hwr) (show (cf8 37).toInt = (cf 37).toInt from by first | exact oz_1687f4cc65 k2_2 e14 | omega) (show (cf8 38).toInt = (cf 38).toInt from by first | exact oz_1687f4cc65 k2_3 e15 | omega) (show (cf8 43).toInt = (cf 43).toInt from by first | exact oz_1687f4cc65 k2_4 e16 | omega) (show (cf8 44).toInt = (cf 44).toInt from by first | exact oz_1687f4cc65 k2_5 e17 | omega) (show (cf8 45).toInt = (cf 45).toInt from by first | exact oz_1687f4cc65 k2_6 e18 | omega) (show (cf8 46).toInt = (cf 46).toInt from by first | exact oz_1687f4cc65 k2_7 e19 | omega) (show (cf8 47).toInt = (cf 47).toInt from by first | exact oz_1687f4cc65 k2_8 e20 | omega) (show (cf8 41).toInt = (cf 41).toInt from by first | exact oz_1687f4cc65 k2_9 e21 | omega) (show (cf8 55).toInt = (cf 55).toInt from by first | exact oz_1687f4cc65 k2_10 e22 | omega) (show (cf8 59).toInt = (cf 59).toInt from by first | exact oz_1687f4cc65 k2_11 e23 | omega) (show (cf 33).toInt ≤ (cf8 33).toInt from by first | exact oz_be764f19f0 k2_12 e24 | omega) (show 6 * (cf8 33).toInt ≤ 6 * (cf 33).toInt + (w - (wr_2 - wv3)) from by first | exact oz_ed5ab580af k2_13 e25 | omega) (show (cf 48).toInt ≤ (cf8 48).toInt from by first | exact oz_b78d9f65b9 k2_20 e32 k2_17 e29 | omega) (show 6 * (cf8 48).toInt ≤ 6 * (cf 48).toInt + (w - (wr_2 - wv3)) from by first | exact oz_ed5ab580af k2_15 e27 | omega) (show (cf 54).toInt ≤ (cf8 54).toInt from by first | exact oz_be764f19f0 k2_16 e28 | omega) (show (cf 42).toInt ≤ (cf8 42).toInt from by first | exact oz_be764f19f0 k2_17 e29 | omega) (show (cf8 54).toInt - (cf 54).toInt ≤ 4 * ((cf8 42).toInt - (cf 42).toInt) from by first | exact oz_7f5bac6b34 k2_18 e30 | omega) (show (cf8 54).toInt - (cf 54).toInt ≤ 4096 * ((cf8 48).toInt - (cf 48).toInt) from by first | exact oz_f877ead219 k2_19 e31 | omega) (show (cf8 42).toInt - (cf 42).toInt ≤ 4096 * ((cf8 48).toInt - (cf 48).toInt) from by first | exact oz_f877ead219 k2_20 e32 | omega) (show KnT (tf 6).toInt ca9 (cf8 33).toInt from (KnT.eq hkt (by first | with_reducible rfl | with_reducible assumption | omega))) (show KnS ca9 (cf8 33).toInt (cf8 48).toInt ys from (KnS.eq hks (by first | with_reducible rfl | with_reducible assumption | omega) (by first | with_reducible rfl | with_reducible assumption | omega))) (show CaG ca ca9 (cf 33).toInt (cf 48).toInt from (hcg.le (by first | with_reducible rfl | with_reducible assumption | omega) (by first | with_reducible rfl | with_reducible assumption | omega))) (show SyR ca9 ys (cf8 48).toInt (cf8 54).toInt tx from (SyR.eq hsr (by first | with_reducible rfl | with_reducible assumption | omega) (by first | with_reducible rfl | with_reducible assumption | omega))) (show Ann na ma0 ma7 from han) (show FrC lo hi ma ma7 from hfc) (show lo ≤ md2 from by first | exact hm1_md2 | omega) (show md2 ≤ hi from by first | exact hm2_md2 | omega) (show 0 ≤ (wr_2 - wv3) from by first | with_reducible rfl | with_reducible assumption | omega) (show (wr_2 - wv3) ≤ w from by first | exact oz_d50b28d761 k2_15 e27 k2_14 e26 | omega) (show RvS ta (tf 6).toInt na ma0 d md2 hi (wr_2 - wv3) z40 from (by rw [ez40]; exact hrs2)) (show ZTs cf8 ta ca9 na ma0 (cf8 48).toInt ys nf ma7 lo md2 p0 z40 (tgv (cf 44).toInt (cf 45).toInt) from (ZTs.nx (ZTs.to hzts (fun q => by first | with_reducible rfl | with_reducible assumption | omega) (by first | with_reducible rfl | with_reducible assumption | omega) (Int.le_refl _) (by first | with_reducible rfl | with_reducible assumption | omega) rfl) (ZTe.to hts_x2_2 (fun q => by first | with_reducible rfl | with_reducible assumption | omega) (by first | with_reducible rfl | with_reducible assumption | omega) (by first | with_reducible rfl | with_reducible assumption | omega) (Int.le_refl _) rfl) (by first | with_reducible rfl | with_reducible assumption | omega) ez40)) (show hi - md2 < (n_2 : Int) from by first | with_reducible rfl | with_reducible assumption | omega) hw (lv_sub hl [1, 2, 0] rfl)
  refine lv_iload_n S.x S.b d_Mpg_statements_0 rfl (lv_at hl 1 rfl) ?_
  refine lv_istore_n (lv' := [(2, .int p0), (0, .ref h), (1, .int p0)]) S.x S.b d_Mpg_statements_1 rfl hl (by decide) rfl (fun ls hl => ?_)
  exact J2 ((hi - lo).toNat + 1) ma cf ca lo w p0 _ _ ls (show (cf 30).toInt = 0 → (cf 30).toInt = 0 from by first | exact fun q9 => q9 | omega) (show WrV cf (tf 6).toInt from hwr) (show (cf 37).toInt = (cf 37).toInt from rfl) (show (cf 38).toInt = (cf 38).toInt from rfl) (show (cf 43).toInt = (cf 43).toInt from rfl) (show (cf 44).toInt = (cf 44).toInt from rfl) (show (cf 45).toInt = (cf 45).toInt from rfl) (show (cf 46).toInt = (cf 46).toInt from rfl) (show (cf 47).toInt = (cf 47).toInt from rfl) (show (cf 41).toInt = (cf 41).toInt from rfl) (show (cf 55).toInt = (cf 55).toInt from rfl) (show (cf 59).toInt = (cf 59).toInt from rfl) (show (cf 33).toInt ≤ (cf 33).toInt from by first | exact oz_1cb5f934a5 | omega) (show 6 * (cf 33).toInt ≤ 6 * (cf 33).toInt + (w - w) from by first | exact oz_1c3b0c11f9 | omega) (show (cf 48).toInt ≤ (cf 48).toInt from by first | exact oz_1cb5f934a5 | omega) (show 6 * (cf 48).toInt ≤ 6 * (cf 48).toInt + (w - w) from by first | exact oz_1c3b0c11f9 | omega) (show (cf 54).toInt ≤ (cf 54).toInt from by first | exact oz_1cb5f934a5 | omega) (show (cf 42).toInt ≤ (cf 42).toInt from by first | exact oz_1cb5f934a5 | omega) (show (cf 54).toInt - (cf 54).toInt ≤ 4 * ((cf 42).toInt - (cf 42).toInt) from by first | exact oz_a1153f1990 | omega) (show (cf 54).toInt - (cf 54).toInt ≤ 4096 * ((cf 48).toInt - (cf 48).toInt) from by first | exact oz_f4137ca117 | omega) (show (cf 42).toInt - (cf 42).toInt ≤ 4096 * ((cf 48).toInt - (cf 48).toInt) from by first | exact oz_f4137ca117 | omega) (show KnT (tf 6).toInt ca (cf 33).toInt from (KnT.eq hkt (by first | with_reducible rfl | with_reducible assumption | omega))) (show KnS ca (cf 33).toInt (cf 48).toInt ys from (KnS.eq hks (by first | with_reducible rfl | with_reducible assumption | omega) (by first | with_reducible rfl | with_reducible assumption | omega))) (show CaG ca ca (cf 33).toInt (cf 48).toInt from (hcg.le (by first | with_reducible rfl | with_reducible assumption | omega) (by first | with_reducible rfl | with_reducible assumption | omega))) (show SyR ca ys (cf 48).toInt (cf 54).toInt tx from (SyR.eq hsr (by first | with_reducible rfl | with_reducible assumption | omega) (by first | with_reducible rfl | with_reducible assumption | omega))) (show Ann na ma0 ma from han) (show FrC lo hi ma ma from hfc) (show lo ≤ lo from by first | exact oz_1cb5f934a5 | omega) (show lo ≤ hi from by first | exact g28 | omega) (show 0 ≤ w from by first | exact g5 | omega) (show w ≤ w from by first | exact oz_1cb5f934a5 | omega) (show RvS ta (tf 6).toInt na ma0 d lo hi w p0 from hrs) (show ZTs cf ta ca na ma0 (cf 48).toInt ys nf ma lo lo p0 p0 (tgv (cf 44).toInt (cf 45).toInt) from (zts_0 rfl)) (show hi - lo < ((((hi - lo).toNat + 1 : Nat) : Int) : Int) from by first | exact oz_natlt | omega) hw (lv_sub hl [1, 2, 0] rfl)
abbrev b_Mpg_checkBlock : ByteArray := prog_16_method_90_code
def y_Mpg_checkBlock : MethodName := ⟨"HomeSystemModel$Program", "checkBlock", "(I)V"⟩
theorem d_Mpg_checkBlock_0 : decode b_Mpg_checkBlock 0 = .ok (.aload_n 0, 1) := by decide +kernel
theorem d_Mpg_checkBlock_1 : decode b_Mpg_checkBlock 1 = .ok (.getfield 528, 3) := by decide +kernel
theorem d_Mpg_checkBlock_4 : decode b_Mpg_checkBlock 4 = .ok (.istore_n 2, 1) := by decide +kernel
theorem d_Mpg_checkBlock_5 : decode b_Mpg_checkBlock 5 = .ok (.aload_n 0, 1) := by decide +kernel
theorem d_Mpg_checkBlock_6 : decode b_Mpg_checkBlock 6 = .ok (.getfield 556, 3) := by decide +kernel
theorem d_Mpg_checkBlock_9 : decode b_Mpg_checkBlock 9 = .ok (.istore_n 3, 1) := by decide +kernel
theorem d_Mpg_checkBlock_10 : decode b_Mpg_checkBlock 10 = .ok (.aload_n 0, 1) := by decide +kernel
theorem d_Mpg_checkBlock_11 : decode b_Mpg_checkBlock 11 = .ok (.aload_n 0, 1) := by decide +kernel
theorem d_Mpg_checkBlock_12 : decode b_Mpg_checkBlock 12 = .ok (.getfield 528, 3) := by decide +kernel
theorem d_Mpg_checkBlock_15 : decode b_Mpg_checkBlock 15 = .ok (.putfield 556, 3) := by decide +kernel
theorem d_Mpg_checkBlock_18 : decode b_Mpg_checkBlock 18 = .ok (.aload_n 0, 1) := by decide +kernel
theorem d_Mpg_checkBlock_19 : decode b_Mpg_checkBlock 19 = .ok (.aload_n 0, 1) := by decide +kernel
theorem d_Mpg_checkBlock_20 : decode b_Mpg_checkBlock 20 = .ok (.getfield 216, 3) := by decide +kernel
theorem d_Mpg_checkBlock_23 : decode b_Mpg_checkBlock 23 = .ok (.iload_n 1, 1) := by decide +kernel
theorem d_Mpg_checkBlock_24 : decode b_Mpg_checkBlock 24 = .ok (.iaload, 1) := by decide +kernel
theorem d_Mpg_checkBlock_25 : decode b_Mpg_checkBlock 25 = .ok (.invokevirtual 639, 3) := by decide +kernel
theorem d_Mpg_checkBlock_28 : decode b_Mpg_checkBlock 28 = .ok (.aload_n 0, 1) := by decide +kernel
theorem d_Mpg_checkBlock_29 : decode b_Mpg_checkBlock 29 = .ok (.iload_n 2, 1) := by decide +kernel
theorem d_Mpg_checkBlock_30 : decode b_Mpg_checkBlock 30 = .ok (.iload_n 3, 1) := by decide +kernel
theorem d_Mpg_checkBlock_31 : decode b_Mpg_checkBlock 31 = .ok (.invokevirtual 642, 3) := by decide +kernel
theorem d_Mpg_checkBlock_34 : decode b_Mpg_checkBlock 34 = .ok (.return_, 1) := by decide +kernel
theorem q_Mpg_checkBlock : px_y y_Mpg_checkBlock 1 := by unfold px_y; decide +kernel
set_option maxHeartbeats 4000000 in
set_option maxRecDepth 100000 in
theorem c_mp_checkBlock (l : Launch) (D : va_G) (cs : Nat → ClassId) (ma0 : Nat → Nat → Int32) (ys : Int) (nf : Int) (tx : Int) (d : Nat) (lo : Int) (hi : Int) (w : Int) (h : Nat) (r : Nat → Nat) (g : Nat → Nat → Option Nat) (tf : Nat → Int32) (ta : Nat → Nat → Int32) (pf : Nat → Int32) (na : Nat → Nat → Int32) (wa : Nat → Nat → Int32) (ef : Nat → Int32) (ea : Nat → Nat → Int32) (xf : Nat → Int32) (xa : Nat → Nat → Int32) (ma : Nat → Nat → Int32) (cf : Nat → Int32) (ca : Nat → Nat → Int32) (p0 : Int32)  (g0 : 0 ≤ lo) (g1 : hi ≤ (pf 13).toInt) (g2 : (pf 13).toInt ≤ 2100) (g3 : (tf 6).toInt ≤ 2049) (g4 : 0 ≤ (cf 33).toInt) (g5 : 0 ≤ w) (g6 : 6 * (cf 33).toInt + w ≤ 6540) (g7 : 0 ≤ (cf 48).toInt) (g8 : 6 * (cf 48).toInt + w ≤ 6540) (g9 : (cf 38).toInt = nf) (g10 : 0 ≤ nf) (g11 : 0 ≤ (cf 37).toInt) (g12 : 0 ≤ (cf 54).toInt) (g13 : (cf 54).toInt ≤ 4096 * (cf 48).toInt) (g14 : 0 ≤ (cf 42).toInt) (g15 : (cf 42).toInt ≤ 4 + 4096 * (cf 48).toInt) (g16 : 0 ≤ (cf 44).toInt) (g17 : 0 ≤ (cf 45).toInt) (g18 : ys ≤ (cf 48).toInt ∨ tx = 1) (g19 : 0 ≤ (cf 46).toInt) (g20 : (cf 46).toInt ≤ 1) (g21 : 0 ≤ (cf 47).toInt) (g22 : (cf 47).toInt ≤ 1) (g23 : (cf 44).toInt + (d : Int) ≤ 400) (g24 : (cf 45).toInt + (d : Int) ≤ 400) (g25 : 0 ≤ (cf 43).toInt) (g26 : (cf 43).toInt < 2100) (g27 : tx = 0) (g28 : (na 14 p0.toNatClampNeg).toInt = 20) (htk : TkI tf ta) (hfs : FsI (tf 6).toInt (pf 13).toInt na) (hwr : WrV cf (tf 6).toInt) (hkt : KnT (tf 6).toInt ca (cf 33).toInt) (hft : FnT (tf 6).toInt na ca (cf 38).toInt) (hks : KnS ca (cf 33).toInt (cf 48).toInt ys) (hfp : FnP na ca nf) (hsr : SyR ca ys (cf 48).toInt (cf 54).toInt tx) (han : Ann na ma0 ma) (htx : txo (cf 43).toInt = tx) (hsc : ScV ta (tf 6).toInt na ma0 (d + 1) lo hi w p0) (hLS : StC l D cs d) : MetV l y_Mpg_checkBlock b_Mpg_checkBlock 4 D cs (6 * d + 28) (260 * d + 980) (0) (0) [.ref h, .int p0] [wdP cs h r g tf ta pf na ma wa cf ca ef ea xf xa] (oX (fun A U H => (oP A g U H)) [wdP cs h r g tf ta pf na ma wa cf ca ef ea xf xa]) (fun ps => ∃ (ma' : Nat → Nat → Int32) (cf' : Nat → Int32) (ca' : Nat → Nat → Int32), (ps = [wdP cs h r g tf ta pf na ma' wa cf' ca' ef ea xf xa]) ∧ ((cf' 30).toInt = 0 → (cf 30).toInt = 0) ∧ (WrV cf' (tf 6).toInt) ∧ ((cf' 37).toInt = (cf 37).toInt) ∧ ((cf' 38).toInt = (cf 38).toInt) ∧ ((cf' 43).toInt = (cf 43).toInt) ∧ ((cf' 44).toInt = (cf 44).toInt) ∧ ((cf' 45).toInt = (cf 45).toInt) ∧ ((cf' 46).toInt = (cf 46).toInt) ∧ ((cf' 47).toInt = (cf 47).toInt) ∧ ((cf' 41).toInt = (cf 41).toInt) ∧ ((cf' 55).toInt = (cf 55).toInt) ∧ ((cf' 59).toInt = (cf 59).toInt) ∧ ((cf' 33).toInt = (cf 33).toInt) ∧ ((cf 48).toInt ≤ (cf' 48).toInt) ∧ (6 * (cf' 48).toInt ≤ 6 * (cf 48).toInt + (w)) ∧ ((cf 54).toInt ≤ (cf' 54).toInt) ∧ ((cf 42).toInt ≤ (cf' 42).toInt) ∧ ((cf' 54).toInt - (cf 54).toInt ≤ 4 * ((cf' 42).toInt - (cf 42).toInt)) ∧ ((cf' 54).toInt - (cf 54).toInt ≤ 4096 * ((cf' 48).toInt - (cf 48).toInt)) ∧ ((cf' 42).toInt - (cf 42).toInt ≤ 4096 * ((cf' 48).toInt - (cf 48).toInt)) ∧ (KnT (tf 6).toInt ca' (cf' 33).toInt) ∧ (KnS ca' (cf' 33).toInt (cf' 48).toInt ys) ∧ (CaG ca ca' (cf 33).toInt (cf 48).toInt) ∧ (SyR ca' ys (cf' 48).toInt (cf' 54).toInt tx) ∧ (Ann na ma0 ma') ∧ (FrC lo hi ma ma') ∧ (ZTe cf' ta ca' na ma0 (cf' 48).toInt ys nf ma' lo hi p0 (tgv (cf 44).toInt (cf 45).toInt))) := by
  refine px_enter (by decide) (Nat.le_of_ble_eq_true rfl) ?_
  intro p e s m below meth c A ls hAe S hr hlk hnm hA hT hX hw hl
  replace hl : lv_has ls 4 [(0, .ref h), (1, .int p0)] := hl
  have lp0 := Int32.le_toInt p0
  have up0 := Int32.toInt_lt p0
  have hX : (fun A U H => (oP A g U H)) A s s.heap := by rw [hAe]; exact hX
  have hP := hX
  have hZ := hP.1
  have hF0 := hP.2.1
  have hfc : FrC lo hi ma ma := FrC.rf
  have hwr0 := hwr.1
  have hk11 := hkt.1
  have hf11 := hft.1
  have hcg : CaG ca ca (cf 33).toInt (cf 48).toInt := CaG.rf
  have hkt0 := hkt
  have hks0 := hks
  have hsr0 := ScV.rng hsc
  have hrs_a := ScV.s20 hsc (by first | with_reducible rfl | with_reducible assumption | omega) rfl
  refine lv_aload_n S.x S.b d_Mpg_checkBlock_0 rfl (lv_at hl 0 rfl) ?_
  refine px_get S k_Mpg hT hw 0 0 33 (v := .int (cf 33)) rfl rfl rfl (by decide) m10_22 d_Mpg_checkBlock_1 ?_
  refine lv_istore_n (lv' := [(2, .int (cf 33)), (0, .ref h), (1, .int p0)]) S.x S.b d_Mpg_checkBlock_4 rfl hl (by decide) rfl (fun ls hl => ?_)
  refine lv_aload_n S.x S.b d_Mpg_checkBlock_5 rfl (lv_at hl 1 rfl) ?_
  refine px_get S k_Mpg hT hw 0 0 37 (v := .int (cf 37)) rfl rfl rfl (by decide) m10_26 d_Mpg_checkBlock_6 ?_
  refine lv_istore_n (lv' := [(3, .int (cf 37)), (2, .int (cf 33)), (0, .ref h), (1, .int p0)]) S.x S.b d_Mpg_checkBlock_9 rfl hl (by decide) rfl (fun ls hl => ?_)
  refine lv_aload_n S.x S.b d_Mpg_checkBlock_10 rfl (lv_at hl 2 rfl) ?_
  refine lv_aload_n S.x S.b d_Mpg_checkBlock_11 rfl (lv_at hl 2 rfl) ?_
  refine px_get S k_Mpg hT hw 0 0 33 (v := .int (cf 33)) rfl rfl rfl (by decide) m10_22 d_Mpg_checkBlock_12 ?_
  refine px_put S k_Mpg hT hw 0 0 37 rfl rfl (by decide) m10_26 rfl rfl rfl (Nat.le_of_ble_eq_true rfl) d_Mpg_checkBlock_15 (w' := wdP cs h r g tf ta pf na ma wa (upd cf 37 (cf 33)) ca ef ea xf xa) (ps' := [wdP cs h r g tf ta pf na ma wa (upd cf 37 (cf 33)) ca ef ea xf xa]) rfl rfl (fun H locs hw => ?_)
  refine lv_aload_n S.x S.b d_Mpg_checkBlock_18 rfl (lv_at hl 2 rfl) ?_
  refine lv_aload_n S.x S.b d_Mpg_checkBlock_19 rfl (lv_at hl 2 rfl) ?_
  refine px_get S k_Mpg hT hw 0 0 17 (v := .ref (r 17)) rfl rfl rfl (by decide) m10_1 d_Mpg_checkBlock_20 ?_
  refine lv_iload_n S.x S.b d_Mpg_checkBlock_23 rfl (lv_at hl 3 rfl) ?_
  refine px_iald S hT hw 0 13 (n := 2100) (f := (na 17)) rfl gp_17 (x := p0) (vp_in_iff.mpr (by first | exact oz_a7e05de1cd hsr0.2.2.1 hsr0.2.1 g1 g2 | (constructor <;> omega))) d_Mpg_checkBlock_24 ?_
  refine lv_topi (fun z1 ez1 => ?_)
  have lz1 := Int32.le_toInt z1
  have uz1 := Int32.toInt_lt z1
  have hrs_z1 : RvS ta (tf 6).toInt na ma0 d (p0.toInt + 1) hi w z1 := (by rw [ez1]; exact hrs_a)
  refine px_callv (pr := []) (px_runV (As := [.int z1]) (rest := []) S (c_mp_statements l D cs ma0 ys nf tx d (p0.toInt + 1) hi w h r g tf ta pf na wa ef ea xf xa ma (upd cf 37 (cf 33)) ca z1  (show 0 ≤ (p0.toInt + 1) from by first | exact oz_c12c169b81 hsr0.2.2.1 | omega) (show hi ≤ (pf 13).toInt from by first | exact g1 | omega) (show (pf 13).toInt ≤ 2100 from by first | exact g2 | omega) (show (tf 6).toInt ≤ 2049 from by first | exact g3 | omega) (show 0 ≤ (cf 33).toInt from by first | exact g4 | omega) (show 0 ≤ w from by first | exact g5 | omega) (show 6 * (cf 33).toInt + w ≤ 6540 from by first | exact g6 | omega) (show 0 ≤ (cf 48).toInt from by first | exact g7 | omega) (show 6 * (cf 48).toInt + w ≤ 6540 from by first | exact g8 | omega) (show (cf 38).toInt = nf from by first | exact g9 | omega) (show 0 ≤ nf from by first | exact g10 | omega) (show 0 ≤ (cf 33).toInt from by first | exact g4 | omega) (show 0 ≤ (cf 54).toInt from by first | exact g12 | omega) (show (cf 54).toInt ≤ 4096 * (cf 48).toInt from by first | exact g13 | omega) (show 0 ≤ (cf 42).toInt from by first | exact g14 | omega) (show (cf 42).toInt ≤ 4 + 4096 * (cf 48).toInt from by first | exact g15 | omega) (show 0 ≤ (cf 44).toInt from by first | exact g16 | omega) (show 0 ≤ (cf 45).toInt from by first | exact g17 | omega) (show ys ≤ (cf 48).toInt ∨ tx = 1 from by first | exact g18 | omega) (show 0 ≤ (cf 46).toInt from by first | exact g19 | omega) (show (cf 46).toInt ≤ 1 from by first | exact g20 | omega) (show 0 ≤ (cf 47).toInt from by first | exact g21 | omega) (show (cf 47).toInt ≤ 1 from by first | exact g22 | omega) (show (cf 44).toInt + (d : Int) ≤ 400 from by first | exact g23 | omega) (show (cf 45).toInt + (d : Int) ≤ 400 from by first | exact g24 | omega) (show 0 ≤ (cf 43).toInt from by first | exact g25 | omega) (show (cf 43).toInt < 2100 from by first | exact g26 | omega) (show tx = 0 from by first | exact g27 | omega) (show (p0.toInt + 1) ≤ hi from by first | exact oz_8cd8185cc8 hsr0.2.1 | omega) htk (FsI.le (N' := (pf 13).toInt) hfs (by first | with_reducible rfl | with_reducible assumption | omega)) (WrV.u hwr (by decide) (by decide)) (KnT.eq hkt (show _ = (cf 33).toInt by omega)) (FnT.eq hft (show _ = (cf 38).toInt by omega)) (KnS.eq hks (show _ = (cf 33).toInt by omega) (show _ = (cf 48).toInt by omega)) hfp (SyR.eq hsr (show _ = (cf 48).toInt by omega) (show _ = (cf 54).toInt by omega)) han (show txo (cf 43).toInt = tx from by rw [show (cf 43).toInt = (cf 43).toInt by omega]; exact htx) hrs_z1 hLS _) hT (pr := []) (pcs := [wdP cs h r g tf ta pf na ma wa (upd cf 37 (cf 33)) ca ef ea xf xa]) hw (oX_call (P := (fun A U H => (oP A g U H))) (pr := []) oG_P hw hA hP) (px_recv hT hw 0 0 rfl rfl rfl) m12_197 m12_194 m12_196 ms_12_2 m1_21 q_Mpg_statements ⟨show (6 * d + 27) + 1 ≤ (6 * d + 28) from by first | with_reducible rfl | with_reducible assumption | omega, show 8 + (3 + 11) + (260 * d + 940) ≤ (260 * d + 980) from by first | with_reducible rfl | with_reducible assumption | omega⟩ hl.1 rfl (Nat.le_of_ble_eq_true rfl) d_Mpg_checkBlock_25 ⟨Nat.le_of_ble_eq_true rfl, Nat.le_of_ble_eq_true rfl⟩) hw hA (fun p8 H locs hp8 hw => ?_)
  obtain ⟨ma5, cf6, ca7, rfl, e10, e11, e12, e13, e14, e15, e16, e17, e18, e19, e20, e21, e22, e23, e24, e25, e26, e27, e28, e29, e30, e31, e32, e33, e34, e35, e36, e37⟩ := hp8
  replace e10 : (cf6 30).toInt = 0 → (cf 30).toInt = 0 := e10
  replace e11 : WrV cf6 (tf 6).toInt := e11
  have hwr := e11
  have hw0_e11 := hwr.1
  replace e12 : (cf6 37).toInt = (cf 33).toInt := e12
  replace e13 : (cf6 38).toInt = (cf 38).toInt := e13
  replace e14 : (cf6 43).toInt = (cf 43).toInt := e14
  replace e15 : (cf6 44).toInt = (cf 44).toInt := e15
  replace e16 : (cf6 45).toInt = (cf 45).toInt := e16
  replace e17 : (cf6 46).toInt = (cf 46).toInt := e17
  replace e18 : (cf6 47).toInt = (cf 47).toInt := e18
  replace e19 : (cf6 41).toInt = (cf 41).toInt := e19
  replace e20 : (cf6 55).toInt = (cf 55).toInt := e20
  replace e21 : (cf6 59).toInt = (cf 59).toInt := e21
  replace e22 : (cf 33).toInt ≤ (cf6 33).toInt := e22
  replace e23 : 6 * (cf6 33).toInt ≤ 6 * (cf 33).toInt + (w) := e23
  replace e24 : (cf 48).toInt ≤ (cf6 48).toInt := e24
  replace e25 : 6 * (cf6 48).toInt ≤ 6 * (cf 48).toInt + (w) := e25
  replace e26 : (cf 54).toInt ≤ (cf6 54).toInt := e26
  replace e27 : (cf 42).toInt ≤ (cf6 42).toInt := e27
  replace e28 : (cf6 54).toInt - (cf 54).toInt ≤ 4 * ((cf6 42).toInt - (cf 42).toInt) := e28
  replace e29 : (cf6 54).toInt - (cf 54).toInt ≤ 4096 * ((cf6 48).toInt - (cf 48).toInt) := e29
  replace e30 : (cf6 42).toInt - (cf 42).toInt ≤ 4096 * ((cf6 48).toInt - (cf 48).toInt) := e30
  replace e31 : KnT (tf 6).toInt ca7 (cf6 33).toInt := e31
  have hkt := e31
  have hk11_e31 := hkt.1
  replace e32 : KnS ca7 (cf6 33).toInt (cf6 48).toInt ys := e32
  have hks := e32
  replace e33 : CaG ca ca7 (cf 33).toInt (cf 48).toInt := e33
  have hcg := hcg.tr e33 (by first | with_reducible rfl | with_reducible assumption | omega) (by first | with_reducible rfl | with_reducible assumption | omega)
  have hft := hft.cg e33
  have hfp := hfp.cg e33
  replace e34 : SyR ca7 ys (cf6 48).toInt (cf6 54).toInt tx := e34
  have hsr := e34
  replace e35 : Ann na ma0 ma5 := e35
  have han := e35
  replace e36 : FrC (p0.toInt + 1) hi ma ma5 := e36
  have hfc := hfc.tr e36 (by first | with_reducible rfl | with_reducible assumption | omega) (by first | with_reducible rfl | with_reducible assumption | omega)
  replace e37 : ZTw cf6 ta ca7 na ma0 (cf6 48).toInt ys nf ma5 (p0.toInt + 1) hi z1 (tgv (cf 44).toInt (cf 45).toInt) := e37
  have hzw : ZTw cf6 ta ca7 na ma0 (cf6 48).toInt ys nf ma5 (p0.toInt + 1) hi z1 (tgv (cf 44).toInt (cf 45).toInt) := ZTw.to e37 (fun q => by first | with_reducible rfl | with_reducible assumption | omega) (by first | with_reducible rfl | with_reducible assumption | omega) (Int.le_refl _) (Int.le_refl _) (by congr 1 <;> omega)
  replace hw : pw D A s.heap H locs [wdP cs h r g tf ta pf na ma5 wa cf6 ca7 ef ea xf xa] := hw
  refine lv_aload_n S.x S.b d_Mpg_checkBlock_28 rfl (lv_at hl 2 rfl) ?_
  refine lv_iload_n S.x S.b d_Mpg_checkBlock_29 rfl (lv_at hl 1 rfl) ?_
  refine lv_iload_n S.x S.b d_Mpg_checkBlock_30 rfl (lv_at hl 0 rfl) ?_
  refine px_callv (pr := []) (px_runV (As := [.int (cf 33), .int (cf 37)]) (rest := []) S (c_mp_leave l D cs h r g tf ta pf na ma5 wa ca7 ef ea xf xa cf6 (cf 33) (cf 37)  htk _) hT (pr := []) (pcs := [wdP cs h r g tf ta pf na ma5 wa cf6 ca7 ef ea xf xa]) hw px_X.tt (px_recv hT hw 0 0 rfl rfl rfl) m12_209 m12_206 m12_208 ms_12_5 m1_21 q_Mpg_leave ⟨show 0 + 1 ≤ (6 * d + 28) from by first | with_reducible rfl | with_reducible assumption | omega, show 8 + (3 + 11) + 0 ≤ (260 * d + 980) from by first | with_reducible rfl | with_reducible assumption | omega⟩ hl.1 rfl (Nat.le_of_ble_eq_true rfl) d_Mpg_checkBlock_31 ⟨Nat.le_of_ble_eq_true rfl, Nat.le_of_ble_eq_true rfl⟩) hw hA (fun p40 H locs hp40 hw => ?_)
  obtain ⟨cf39, rfl, e42, e43, e44, e45, e46, e47, e48, e49, e50, e51, e52, e53, e54, e55, e56, e57, e58, e59⟩ := hp40
  replace e42 : (cf39 33).toInt = (cf 33).toInt := e42
  replace e43 : (cf39 37).toInt = (cf 37).toInt := e43
  replace e44 : (cf39 30).toInt = (cf6 30).toInt := e44
  replace e45 : (cf39 31).toInt = (cf6 31).toInt := e45
  replace e46 : (cf39 38).toInt = (cf6 38).toInt := e46
  replace e47 : (cf39 41).toInt = (cf6 41).toInt := e47
  replace e48 : (cf39 42).toInt = (cf6 42).toInt := e48
  replace e49 : (cf39 43).toInt = (cf6 43).toInt := e49
  replace e50 : (cf39 44).toInt = (cf6 44).toInt := e50
  replace e51 : (cf39 45).toInt = (cf6 45).toInt := e51
  replace e52 : (cf39 46).toInt = (cf6 46).toInt := e52
  replace e53 : (cf39 47).toInt = (cf6 47).toInt := e53
  replace e54 : (cf39 48).toInt = (cf6 48).toInt := e54
  replace e55 : (cf39 54).toInt = (cf6 54).toInt := e55
  replace e56 : (cf39 55).toInt = (cf6 55).toInt := e56
  replace e57 : (cf39 57).toInt = (cf6 57).toInt := e57
  replace e58 : (cf39 58).toInt = (cf6 58).toInt := e58
  replace e59 : (cf39 59).toInt = (cf6 59).toInt := e59
  have hwr : WrV cf39 (tf 6).toInt := WrV.eq hwr (by first | with_reducible rfl | with_reducible assumption | omega) (by first | with_reducible rfl | with_reducible assumption | omega)
  have hkt := KnT.eq (n' := (cf39 33).toInt) (KnT.cg hkt0 hcg (Int.le_refl _)) (by first | with_reducible rfl | with_reducible assumption | omega)
  have hks := KnS.eq (n' := (cf39 33).toInt) (KnS.cg hks0 hcg (Int.le_refl _) (Int.le_refl _) (n2 := (cf39 48).toInt) (by first | with_reducible rfl | with_reducible assumption | omega)) (by first | with_reducible rfl | with_reducible assumption | omega) rfl
  have hzw : ZTw cf39 ta ca7 na ma0 (cf39 48).toInt ys nf ma5 (p0.toInt + 1) hi z1 (tgv (cf 44).toInt (cf 45).toInt) := ZTw.to hzw (fun q => by first | with_reducible rfl | with_reducible assumption | omega) (by first | with_reducible rfl | with_reducible assumption | omega) (Int.le_refl _) (Int.le_refl _) rfl
  replace hw : pw D A s.heap H locs [wdP cs h r g tf ta pf na ma5 wa cf39 ca7 ef ea xf xa] := hw
  exact px_vret S hr hlk hAe hw (Nat.le_of_ble_eq_true rfl) (Nat.le_of_ble_eq_true rfl) (⟨ma5, cf39, ca7, rfl, (show (cf39 30).toInt = 0 → (cf 30).toInt = 0 from by first | with_reducible rfl | with_reducible assumption | omega), (show WrV cf39 (tf 6).toInt from hwr), (show (cf39 37).toInt = (cf 37).toInt from by first | exact e43 | omega), (show (cf39 38).toInt = (cf 38).toInt from by first | exact oz_1687f4cc65 e13 e46 | omega), (show (cf39 43).toInt = (cf 43).toInt from by first | exact oz_1687f4cc65 e14 e49 | omega), (show (cf39 44).toInt = (cf 44).toInt from by first | exact oz_1687f4cc65 e15 e50 | omega), (show (cf39 45).toInt = (cf 45).toInt from by first | exact oz_1687f4cc65 e16 e51 | omega), (show (cf39 46).toInt = (cf 46).toInt from by first | exact oz_1687f4cc65 e17 e52 | omega), (show (cf39 47).toInt = (cf 47).toInt from by first | exact oz_1687f4cc65 e18 e53 | omega), (show (cf39 41).toInt = (cf 41).toInt from by first | exact oz_1687f4cc65 e19 e47 | omega), (show (cf39 55).toInt = (cf 55).toInt from by first | exact oz_1687f4cc65 e20 e56 | omega), (show (cf39 59).toInt = (cf 59).toInt from by first | exact oz_1687f4cc65 e21 e59 | omega), (show (cf39 33).toInt = (cf 33).toInt from by first | exact e42 | omega), (show (cf 48).toInt ≤ (cf39 48).toInt from by first | exact oz_73dc218776 e30 e54 e26 e28 | omega), (show 6 * (cf39 48).toInt ≤ 6 * (cf 48).toInt + (w) from by first | exact oz_68efb193db e25 e54 | omega), (show (cf 54).toInt ≤ (cf39 54).toInt from by first | exact oz_b1a9dcfb4c e26 e55 | omega), (show (cf 42).toInt ≤ (cf39 42).toInt from by first | exact oz_94ff7ee8ed e28 e48 e26 | omega), (show (cf39 54).toInt - (cf 54).toInt ≤ 4 * ((cf39 42).toInt - (cf 42).toInt) from by first | exact oz_4001d13b45 e28 e48 e55 | omega), (show (cf39 54).toInt - (cf 54).toInt ≤ 4096 * ((cf39 48).toInt - (cf 48).toInt) from by first | exact oz_761fc723f5 e29 e54 e55 | omega), (show (cf39 42).toInt - (cf 42).toInt ≤ 4096 * ((cf39 48).toInt - (cf 48).toInt) from by first | exact oz_0e7a26fe4a e30 e48 e54 | omega), (show KnT (tf 6).toInt ca7 (cf39 33).toInt from (KnT.eq hkt (by first | with_reducible rfl | with_reducible assumption | omega))), (show KnS ca7 (cf39 33).toInt (cf39 48).toInt ys from (KnS.eq hks (by first | with_reducible rfl | with_reducible assumption | omega) (by first | with_reducible rfl | with_reducible assumption | omega))), (show CaG ca ca7 (cf 33).toInt (cf 48).toInt from (hcg.le (by first | with_reducible rfl | with_reducible assumption | omega) (by first | with_reducible rfl | with_reducible assumption | omega))), (show SyR ca7 ys (cf39 48).toInt (cf39 54).toInt tx from (SyR.eq hsr (by first | with_reducible rfl | with_reducible assumption | omega) (by first | with_reducible rfl | with_reducible assumption | omega))), (show Ann na ma0 ma5 from han), (show FrC lo hi ma ma5 from hfc), (show ZTe cf39 ta ca7 na ma0 (cf39 48).toInt ys nf ma5 lo hi p0 (tgv (cf 44).toInt (cf 45).toInt) from (fun zz => (ZTw.at hzw (by first | with_reducible rfl | with_reducible assumption | omega) (by first | with_reducible rfl | with_reducible assumption | omega) (by first | with_reducible rfl | with_reducible assumption | omega) (by first | with_reducible rfl | with_reducible assumption | omega) rfl).elim fun k9 g9 => tys_20 ⟨by first | with_reducible rfl | with_reducible assumption | omega, by first | with_reducible rfl | with_reducible assumption | omega, by first | with_reducible rfl | with_reducible assumption | omega⟩ tgv_rng (by first | with_reducible rfl | with_reducible assumption | omega) ez1 g9.2 g9.1))⟩) d_Mpg_checkBlock_34
abbrev b_Mpg_checkBody : ByteArray := prog_16_method_93_code
def y_Mpg_checkBody : MethodName := ⟨"HomeSystemModel$Program", "checkBody", "(I)V"⟩
theorem d_Mpg_checkBody_0 : decode b_Mpg_checkBody 0 = .ok (.aload_n 0, 1) := by decide +kernel
theorem d_Mpg_checkBody_1 : decode b_Mpg_checkBody 1 = .ok (.dup, 1) := by decide +kernel
theorem d_Mpg_checkBody_2 : decode b_Mpg_checkBody 2 = .ok (.getfield 667, 3) := by decide +kernel
theorem d_Mpg_checkBody_5 : decode b_Mpg_checkBody 5 = .ok (.iconst 1, 1) := by decide +kernel
theorem d_Mpg_checkBody_6 : decode b_Mpg_checkBody 6 = .ok (.iadd, 1) := by decide +kernel
theorem d_Mpg_checkBody_7 : decode b_Mpg_checkBody 7 = .ok (.putfield 667, 3) := by decide +kernel
theorem d_Mpg_checkBody_10 : decode b_Mpg_checkBody 10 = .ok (.aload_n 0, 1) := by decide +kernel
theorem d_Mpg_checkBody_11 : decode b_Mpg_checkBody 11 = .ok (.iload_n 1, 1) := by decide +kernel
theorem d_Mpg_checkBody_12 : decode b_Mpg_checkBody 12 = .ok (.invokevirtual 636, 3) := by decide +kernel
theorem d_Mpg_checkBody_15 : decode b_Mpg_checkBody 15 = .ok (.aload_n 0, 1) := by decide +kernel
theorem d_Mpg_checkBody_16 : decode b_Mpg_checkBody 16 = .ok (.dup, 1) := by decide +kernel
theorem d_Mpg_checkBody_17 : decode b_Mpg_checkBody 17 = .ok (.getfield 667, 3) := by decide +kernel
theorem d_Mpg_checkBody_20 : decode b_Mpg_checkBody 20 = .ok (.iconst 1, 1) := by decide +kernel
theorem d_Mpg_checkBody_21 : decode b_Mpg_checkBody 21 = .ok (.isub, 1) := by decide +kernel
theorem d_Mpg_checkBody_22 : decode b_Mpg_checkBody 22 = .ok (.putfield 667, 3) := by decide +kernel
theorem d_Mpg_checkBody_25 : decode b_Mpg_checkBody 25 = .ok (.return_, 1) := by decide +kernel
theorem q_Mpg_checkBody : px_y y_Mpg_checkBody 1 := by unfold px_y; decide +kernel
set_option maxHeartbeats 4000000 in
set_option maxRecDepth 100000 in
theorem c_mp_checkBody (l : Launch) (D : va_G) (cs : Nat → ClassId) (ma0 : Nat → Nat → Int32) (ys : Int) (nf : Int) (tx : Int) (d : Nat) (lo : Int) (hi : Int) (w : Int) (h : Nat) (r : Nat → Nat) (g : Nat → Nat → Option Nat) (tf : Nat → Int32) (ta : Nat → Nat → Int32) (pf : Nat → Int32) (na : Nat → Nat → Int32) (wa : Nat → Nat → Int32) (ef : Nat → Int32) (ea : Nat → Nat → Int32) (xf : Nat → Int32) (xa : Nat → Nat → Int32) (ma : Nat → Nat → Int32) (cf : Nat → Int32) (ca : Nat → Nat → Int32) (p0 : Int32)  (g0 : 0 ≤ lo) (g1 : hi ≤ (pf 13).toInt) (g2 : (pf 13).toInt ≤ 2100) (g3 : (tf 6).toInt ≤ 2049) (g4 : 0 ≤ (cf 33).toInt) (g5 : 0 ≤ w) (g6 : 6 * (cf 33).toInt + w ≤ 6540) (g7 : 0 ≤ (cf 48).toInt) (g8 : 6 * (cf 48).toInt + w ≤ 6540) (g9 : (cf 38).toInt = nf) (g10 : 0 ≤ nf) (g11 : 0 ≤ (cf 37).toInt) (g12 : 0 ≤ (cf 54).toInt) (g13 : (cf 54).toInt ≤ 4096 * (cf 48).toInt) (g14 : 0 ≤ (cf 42).toInt) (g15 : (cf 42).toInt ≤ 4 + 4096 * (cf 48).toInt) (g16 : 0 ≤ (cf 44).toInt) (g17 : 0 ≤ (cf 45).toInt) (g18 : ys ≤ (cf 48).toInt ∨ tx = 1) (g19 : 0 ≤ (cf 46).toInt) (g20 : (cf 46).toInt ≤ 1) (g21 : 0 ≤ (cf 47).toInt) (g22 : (cf 47).toInt ≤ 1) (g23 : (cf 44).toInt + (d : Int) ≤ 400) (g24 : (cf 45).toInt + (d : Int) ≤ 400) (g25 : 0 ≤ (cf 43).toInt) (g26 : (cf 43).toInt < 2100) (g27 : tx = 0) (g28 : (cf 44).toInt + (d : Int) + 1 ≤ 400) (htk : TkI tf ta) (hfs : FsI (tf 6).toInt (pf 13).toInt na) (hwr : WrV cf (tf 6).toInt) (hkt : KnT (tf 6).toInt ca (cf 33).toInt) (hft : FnT (tf 6).toInt na ca (cf 38).toInt) (hks : KnS ca (cf 33).toInt (cf 48).toInt ys) (hfp : FnP na ca nf) (hsr : SyR ca ys (cf 48).toInt (cf 54).toInt tx) (han : Ann na ma0 ma) (htx : txo (cf 43).toInt = tx) (hsc : ScV ta (tf 6).toInt na ma0 d lo hi w p0) (hLS : StC l D cs d) : MetV l y_Mpg_checkBody b_Mpg_checkBody 2 D cs (6 * d + 27) (260 * d + 940) (0) (0) [.ref h, .int p0] [wdP cs h r g tf ta pf na ma wa cf ca ef ea xf xa] (oX (fun A U H => (oP A g U H)) [wdP cs h r g tf ta pf na ma wa cf ca ef ea xf xa]) (fun ps => ∃ (ma' : Nat → Nat → Int32) (cf' : Nat → Int32) (ca' : Nat → Nat → Int32), (ps = [wdP cs h r g tf ta pf na ma' wa cf' ca' ef ea xf xa]) ∧ ((cf' 30).toInt = 0 → (cf 30).toInt = 0) ∧ (WrV cf' (tf 6).toInt) ∧ ((cf' 37).toInt = (cf 37).toInt) ∧ ((cf' 38).toInt = (cf 38).toInt) ∧ ((cf' 43).toInt = (cf 43).toInt) ∧ ((cf' 44).toInt = (cf 44).toInt) ∧ ((cf' 45).toInt = (cf 45).toInt) ∧ ((cf' 46).toInt = (cf 46).toInt) ∧ ((cf' 47).toInt = (cf 47).toInt) ∧ ((cf' 41).toInt = (cf 41).toInt) ∧ ((cf' 55).toInt = (cf 55).toInt) ∧ ((cf' 59).toInt = (cf 59).toInt) ∧ ((cf 33).toInt ≤ (cf' 33).toInt) ∧ (6 * (cf' 33).toInt ≤ 6 * (cf 33).toInt + (w)) ∧ ((cf 48).toInt ≤ (cf' 48).toInt) ∧ (6 * (cf' 48).toInt ≤ 6 * (cf 48).toInt + (w)) ∧ ((cf 54).toInt ≤ (cf' 54).toInt) ∧ ((cf 42).toInt ≤ (cf' 42).toInt) ∧ ((cf' 54).toInt - (cf 54).toInt ≤ 4 * ((cf' 42).toInt - (cf 42).toInt)) ∧ ((cf' 54).toInt - (cf 54).toInt ≤ 4096 * ((cf' 48).toInt - (cf 48).toInt)) ∧ ((cf' 42).toInt - (cf 42).toInt ≤ 4096 * ((cf' 48).toInt - (cf 48).toInt)) ∧ (KnT (tf 6).toInt ca' (cf' 33).toInt) ∧ (KnS ca' (cf' 33).toInt (cf' 48).toInt ys) ∧ (CaG ca ca' (cf 33).toInt (cf 48).toInt) ∧ (SyR ca' ys (cf' 48).toInt (cf' 54).toInt tx) ∧ (Ann na ma0 ma') ∧ (FrC lo hi ma ma') ∧ (ZTe cf' ta ca' na ma0 (cf' 48).toInt ys nf ma' lo hi p0 4)) := by
  refine px_enter (by decide) (Nat.le_of_ble_eq_true rfl) ?_
  intro p e s m below meth c A ls hAe S hr hlk hnm hA hT hX hw hl
  replace hl : lv_has ls 2 [(0, .ref h), (1, .int p0)] := hl
  have lp0 := Int32.le_toInt p0
  have up0 := Int32.toInt_lt p0
  have cst1 : (1 : Int32).toInt = 1 := rfl
  have hX : (fun A U H => (oP A g U H)) A s s.heap := by rw [hAe]; exact hX
  have hP := hX
  have hZ := hP.1
  have hF0 := hP.2.1
  have hfc : FrC lo hi ma ma := FrC.rf
  have hwr0 := hwr.1
  have hk11 := hkt.1
  have hf11 := hft.1
  have hcg : CaG ca ca (cf 33).toInt (cf 48).toInt := CaG.rf
  have hsc_p0 := hsc
  have hsr0 := ScV.rng hsc
  refine lv_aload_n S.x S.b d_Mpg_checkBody_0 rfl (lv_at hl 0 rfl) ?_
  refine lv_dup S.x S.b d_Mpg_checkBody_1 rfl ?_
  refine px_get S k_Mpg hT hw 0 0 44 (v := .int (cf 44)) rfl rfl rfl (by decide) m10_35 d_Mpg_checkBody_2 ?_
  refine lv_iconst (v := 1) S.x S.b d_Mpg_checkBody_5 (by decide) ?_
  refine lv_iadd S.x S.b d_Mpg_checkBody_6 ?_
  have lr1 := Int32.le_toInt (cf 44)
  have ur1 := Int32.toInt_lt (cf 44)
  refine lv_topi (fun z2 ez2 => ?_)
  have tz2 : z2.toInt = ((cf 44).toInt + (1 : Int) + 2147483648) % 4294967296 - 2147483648 := by rw [ez2]; exact i_add (cf 44) 1
  have lz2 := Int32.le_toInt z2
  have uz2 := Int32.toInt_lt z2
  try replace tz2 : z2.toInt = (cf 44).toInt + (1 : Int) := by omega
  refine px_put S k_Mpg hT hw 0 0 44 rfl rfl (by decide) m10_35 rfl rfl rfl (Nat.le_of_ble_eq_true rfl) d_Mpg_checkBody_7 (w' := wdP cs h r g tf ta pf na ma wa (upd cf 44 z2) ca ef ea xf xa) (ps' := [wdP cs h r g tf ta pf na ma wa (upd cf 44 z2) ca ef ea xf xa]) rfl rfl (fun H locs hw => ?_)
  refine lv_aload_n S.x S.b d_Mpg_checkBody_10 rfl (lv_at hl 0 rfl) ?_
  refine lv_iload_n S.x S.b d_Mpg_checkBody_11 rfl (lv_at hl 1 rfl) ?_
  refine px_callv (pr := []) (px_runV (As := [.int p0]) (rest := []) S (hLS ma0 ys nf tx lo hi w h r g tf ta pf na wa ef ea xf xa ma (upd cf 44 z2) ca p0 (show 0 ≤ lo from by first | exact g0 | omega) (show hi ≤ (pf 13).toInt from by first | exact g1 | omega) (show (pf 13).toInt ≤ 2100 from by first | exact g2 | omega) (show (tf 6).toInt ≤ 2049 from by first | exact g3 | omega) (show 0 ≤ (cf 33).toInt from by first | exact g4 | omega) (show 0 ≤ w from by first | exact g5 | omega) (show 6 * (cf 33).toInt + w ≤ 6540 from by first | exact g6 | omega) (show 0 ≤ (cf 48).toInt from by first | exact g7 | omega) (show 6 * (cf 48).toInt + w ≤ 6540 from by first | exact g8 | omega) (show (cf 38).toInt = nf from by first | exact g9 | omega) (show 0 ≤ nf from by first | exact g10 | omega) (show 0 ≤ (cf 37).toInt from by first | exact g11 | omega) (show 0 ≤ (cf 54).toInt from by first | exact g12 | omega) (show (cf 54).toInt ≤ 4096 * (cf 48).toInt from by first | exact g13 | omega) (show 0 ≤ (cf 42).toInt from by first | exact g14 | omega) (show (cf 42).toInt ≤ 4 + 4096 * (cf 48).toInt from by first | exact g15 | omega) (show 0 ≤ z2.toInt from by first | exact oz_b3b25f0e49 tz2 g16 | omega) (show 0 ≤ (cf 45).toInt from by first | exact g17 | omega) (show ys ≤ (cf 48).toInt ∨ tx = 1 from by first | exact g18 | omega) (show 0 ≤ (cf 46).toInt from by first | exact g19 | omega) (show (cf 46).toInt ≤ 1 from by first | exact g20 | omega) (show 0 ≤ (cf 47).toInt from by first | exact g21 | omega) (show (cf 47).toInt ≤ 1 from by first | exact g22 | omega) (show z2.toInt + (d : Int) ≤ 400 from by first | exact oz_06ad533572 g28 tz2 | omega) (show (cf 45).toInt + (d : Int) ≤ 400 from by first | exact g24 | omega) (show 0 ≤ (cf 43).toInt from by first | exact g25 | omega) (show (cf 43).toInt < 2100 from by first | exact g26 | omega) (show tx = 0 from by first | exact g27 | omega) htk (FsI.le (N' := (pf 13).toInt) hfs (by first | with_reducible rfl | with_reducible assumption | omega)) (WrV.u hwr (by decide) (by decide)) (KnT.eq hkt (show _ = (cf 33).toInt by omega)) (FnT.eq hft (show _ = (cf 38).toInt by omega)) (KnS.eq hks (show _ = (cf 33).toInt by omega) (show _ = (cf 48).toInt by omega)) hfp (SyR.eq hsr (show _ = (cf 48).toInt by omega) (show _ = (cf 54).toInt by omega)) han (show txo (cf 43).toInt = tx from by rw [show (cf 43).toInt = (cf 43).toInt by omega]; exact htx) hsc_p0 _) hT (pr := []) (pcs := [wdP cs h r g tf ta pf na ma wa (upd cf 44 z2) ca ef ea xf xa]) hw (oX_call (P := (fun A U H => (oP A g U H))) (pr := []) oG_P hw hA hP) (px_recv hT hw 0 0 rfl rfl rfl) m12_201 m12_198 m12_200 ms_12_3 m1_21 q_Mpg_checkStatement ⟨show (6 * d + 26) + 1 ≤ (6 * d + 27) from by first | with_reducible rfl | with_reducible assumption | omega, show 8 + (3 + 11) + (260 * d + 900) ≤ (260 * d + 940) from by first | with_reducible rfl | with_reducible assumption | omega⟩ hl.1 rfl (Nat.le_of_ble_eq_true rfl) d_Mpg_checkBody_12 ⟨Nat.le_of_ble_eq_true rfl, Nat.le_of_ble_eq_true rfl⟩) hw hA (fun p9 H locs hp9 hw => ?_)
  obtain ⟨ma6, cf7, ca8, rfl, e11, e12, e13, e14, e15, e16, e17, e18, e19, e20, e21, e22, e23, e24, e25, e26, e27, e28, e29, e30, e31, e32, e33, e34, e35, e36, e37, e38⟩ := hp9
  replace e11 : (cf7 30).toInt = 0 → (cf 30).toInt = 0 := e11
  replace e12 : WrV cf7 (tf 6).toInt := e12
  have hwr := e12
  have hw0_e12 := hwr.1
  replace e13 : (cf7 37).toInt = (cf 37).toInt := e13
  replace e14 : (cf7 38).toInt = (cf 38).toInt := e14
  replace e15 : (cf7 43).toInt = (cf 43).toInt := e15
  replace e16 : (cf7 44).toInt = z2.toInt := e16
  replace e17 : (cf7 45).toInt = (cf 45).toInt := e17
  replace e18 : (cf7 46).toInt = (cf 46).toInt := e18
  replace e19 : (cf7 47).toInt = (cf 47).toInt := e19
  replace e20 : (cf7 41).toInt = (cf 41).toInt := e20
  replace e21 : (cf7 55).toInt = (cf 55).toInt := e21
  replace e22 : (cf7 59).toInt = (cf 59).toInt := e22
  replace e23 : (cf 33).toInt ≤ (cf7 33).toInt := e23
  replace e24 : 6 * (cf7 33).toInt ≤ 6 * (cf 33).toInt + (w) := e24
  replace e25 : (cf 48).toInt ≤ (cf7 48).toInt := e25
  replace e26 : 6 * (cf7 48).toInt ≤ 6 * (cf 48).toInt + (w) := e26
  replace e27 : (cf 54).toInt ≤ (cf7 54).toInt := e27
  replace e28 : (cf 42).toInt ≤ (cf7 42).toInt := e28
  replace e29 : (cf7 54).toInt - (cf 54).toInt ≤ 4 * ((cf7 42).toInt - (cf 42).toInt) := e29
  replace e30 : (cf7 54).toInt - (cf 54).toInt ≤ 4096 * ((cf7 48).toInt - (cf 48).toInt) := e30
  replace e31 : (cf7 42).toInt - (cf 42).toInt ≤ 4096 * ((cf7 48).toInt - (cf 48).toInt) := e31
  replace e32 : KnT (tf 6).toInt ca8 (cf7 33).toInt := e32
  have hkt := e32
  have hk11_e32 := hkt.1
  replace e33 : KnS ca8 (cf7 33).toInt (cf7 48).toInt ys := e33
  have hks := e33
  replace e34 : CaG ca ca8 (cf 33).toInt (cf 48).toInt := e34
  have hcg := hcg.tr e34 (by first | with_reducible rfl | with_reducible assumption | omega) (by first | with_reducible rfl | with_reducible assumption | omega)
  have hft := hft.cg e34
  have hfp := hfp.cg e34
  replace e35 : SyR ca8 ys (cf7 48).toInt (cf7 54).toInt tx := e35
  have hsr := e35
  replace e36 : Ann na ma0 ma6 := e36
  have han := e36
  replace e37 : FrC lo hi ma ma6 := e37
  have hfc := hfc.tr e37 (by first | with_reducible rfl | with_reducible assumption | omega) (by first | with_reducible rfl | with_reducible assumption | omega)
  replace e38 : ZTe cf7 ta ca8 na ma0 (cf7 48).toInt ys nf ma6 lo hi p0 (tgv z2.toInt (cf 45).toInt) := e38
  have hts_p0 : ZTe cf7 ta ca8 na ma0 (cf7 48).toInt ys nf ma6 lo hi p0 4 := ZTe.to e38 (fun q => by first | with_reducible rfl | with_reducible assumption | omega) (by first | with_reducible rfl | with_reducible assumption | omega) (Int.le_refl _) (Int.le_refl _) (tgv_4 (by first | with_reducible rfl | with_reducible assumption | omega))
  replace hw : pw D A s.heap H locs [wdP cs h r g tf ta pf na ma6 wa cf7 ca8 ef ea xf xa] := hw
  refine lv_aload_n S.x S.b d_Mpg_checkBody_15 rfl (lv_at hl 0 rfl) ?_
  refine lv_dup S.x S.b d_Mpg_checkBody_16 rfl ?_
  refine px_get S k_Mpg hT hw 0 0 44 (v := .int (cf7 44)) rfl rfl rfl (by decide) m10_35 d_Mpg_checkBody_17 ?_
  refine lv_iconst (v := 1) S.x S.b d_Mpg_checkBody_20 (by decide) ?_
  refine lv_isub S.x S.b d_Mpg_checkBody_21 ?_
  have lr39 := Int32.le_toInt (cf7 44)
  have ur39 := Int32.toInt_lt (cf7 44)
  refine lv_topi (fun z40 ez40 => ?_)
  have tz40 : z40.toInt = ((cf7 44).toInt - (1 : Int) + 2147483648) % 4294967296 - 2147483648 := by rw [ez40]; exact i_sub (cf7 44) 1
  have lz40 := Int32.le_toInt z40
  have uz40 := Int32.toInt_lt z40
  try replace tz40 : z40.toInt = (cf7 44).toInt - (1 : Int) := by omega
  refine px_put S k_Mpg hT hw 0 0 44 rfl rfl (by decide) m10_35 rfl rfl rfl (Nat.le_of_ble_eq_true rfl) d_Mpg_checkBody_22 (w' := wdP cs h r g tf ta pf na ma6 wa (upd cf7 44 z40) ca8 ef ea xf xa) (ps' := [wdP cs h r g tf ta pf na ma6 wa (upd cf7 44 z40) ca8 ef ea xf xa]) rfl rfl (fun H locs hw => ?_)
  exact px_vret S hr hlk hAe hw (Nat.le_of_ble_eq_true rfl) (Nat.le_of_ble_eq_true rfl) (⟨ma6, (upd cf7 44 z40), ca8, rfl, (show (cf7 30).toInt = 0 → (cf 30).toInt = 0 from by first | exact e11 | omega), (show WrV (upd cf7 44 z40) (tf 6).toInt from (WrV.u hwr (by decide) (by decide))), (show (cf7 37).toInt = (cf 37).toInt from by first | exact e13 | omega), (show (cf7 38).toInt = (cf 38).toInt from by first | exact e14 | omega), (show (cf7 43).toInt = (cf 43).toInt from by first | exact e15 | omega), (show z40.toInt = (cf 44).toInt from by first | exact oz_61a5b4c47c tz2 tz40 e16 | omega), (show (cf7 45).toInt = (cf 45).toInt from by first | exact e17 | omega), (show (cf7 46).toInt = (cf 46).toInt from by first | exact e18 | omega), (show (cf7 47).toInt = (cf 47).toInt from by first | exact e19 | omega), (show (cf7 41).toInt = (cf 41).toInt from by first | exact e20 | omega), (show (cf7 55).toInt = (cf 55).toInt from by first | exact e21 | omega), (show (cf7 59).toInt = (cf 59).toInt from by first | exact e22 | omega), (show (cf 33).toInt ≤ (cf7 33).toInt from by first | exact e23 | omega), (show 6 * (cf7 33).toInt ≤ 6 * (cf 33).toInt + (w) from by first | exact e24 | omega), (show (cf 48).toInt ≤ (cf7 48).toInt from by first | exact e25 | omega), (show 6 * (cf7 48).toInt ≤ 6 * (cf 48).toInt + (w) from by first | exact e26 | omega), (show (cf 54).toInt ≤ (cf7 54).toInt from by first | exact e27 | omega), (show (cf 42).toInt ≤ (cf7 42).toInt from by first | exact e28 | omega), (show (cf7 54).toInt - (cf 54).toInt ≤ 4 * ((cf7 42).toInt - (cf 42).toInt) from by first | exact e29 | omega), (show (cf7 54).toInt - (cf 54).toInt ≤ 4096 * ((cf7 48).toInt - (cf 48).toInt) from by first | exact e30 | omega), (show (cf7 42).toInt - (cf 42).toInt ≤ 4096 * ((cf7 48).toInt - (cf 48).toInt) from by first | exact e31 | omega), (show KnT (tf 6).toInt ca8 (cf7 33).toInt from (KnT.eq hkt (by first | with_reducible rfl | with_reducible assumption | omega))), (show KnS ca8 (cf7 33).toInt (cf7 48).toInt ys from (KnS.eq hks (by first | with_reducible rfl | with_reducible assumption | omega) (by first | with_reducible rfl | with_reducible assumption | omega))), (show CaG ca ca8 (cf 33).toInt (cf 48).toInt from (hcg.le (by first | with_reducible rfl | with_reducible assumption | omega) (by first | with_reducible rfl | with_reducible assumption | omega))), (show SyR ca8 ys (cf7 48).toInt (cf7 54).toInt tx from (SyR.eq hsr (by first | with_reducible rfl | with_reducible assumption | omega) (by first | with_reducible rfl | with_reducible assumption | omega))), (show Ann na ma0 ma6 from han), (show FrC lo hi ma ma6 from hfc), (show ZTe (upd cf7 44 z40) ta ca8 na ma0 (cf7 48).toInt ys nf ma6 lo hi p0 4 from (fun zz => by rw [pk_un (by decide)] at zz; exact (ZTe.at hts_p0 (by first | with_reducible rfl | with_reducible assumption | omega) (by first | with_reducible rfl | with_reducible assumption | omega) (by first | with_reducible rfl | with_reducible assumption | omega) (by first | with_reducible rfl | with_reducible assumption | omega) rfl)))⟩) d_Mpg_checkBody_25
abbrev b_Mpg_checkReturn : ByteArray := prog_16_method_96_code
def y_Mpg_checkReturn : MethodName := ⟨"HomeSystemModel$Program", "checkReturn", "(I)V"⟩
theorem d_Mpg_checkReturn_0 : decode b_Mpg_checkReturn 0 = .ok (.aload_n 0, 1) := by decide +kernel
theorem d_Mpg_checkReturn_1 : decode b_Mpg_checkReturn 1 = .ok (.getfield 231, 3) := by decide +kernel
theorem d_Mpg_checkReturn_4 : decode b_Mpg_checkReturn 4 = .ok (.aload_n 0, 1) := by decide +kernel
theorem d_Mpg_checkReturn_5 : decode b_Mpg_checkReturn 5 = .ok (.getfield 550, 3) := by decide +kernel
theorem d_Mpg_checkReturn_8 : decode b_Mpg_checkReturn 8 = .ok (.iaload, 1) := by decide +kernel
theorem d_Mpg_checkReturn_9 : decode b_Mpg_checkReturn 9 = .ok (.iconst 2, 1) := by decide +kernel
theorem d_Mpg_checkReturn_10 : decode b_Mpg_checkReturn 10 = .ok (.if_icmp .ne 7, 3) := by decide +kernel
theorem d_Mpg_checkReturn_13 : decode b_Mpg_checkReturn 13 = .ok (.iconst 1, 1) := by decide +kernel
theorem d_Mpg_checkReturn_14 : decode b_Mpg_checkReturn 14 = .ok (.goto 4, 3) := by decide +kernel
theorem d_Mpg_checkReturn_17 : decode b_Mpg_checkReturn 17 = .ok (.iconst 0, 1) := by decide +kernel
theorem d_Mpg_checkReturn_18 : decode b_Mpg_checkReturn 18 = .ok (.istore_n 2, 1) := by decide +kernel
theorem d_Mpg_checkReturn_19 : decode b_Mpg_checkReturn 19 = .ok (.iload_n 2, 1) := by decide +kernel
theorem d_Mpg_checkReturn_20 : decode b_Mpg_checkReturn 20 = .ok (.aload_n 0, 1) := by decide +kernel
theorem d_Mpg_checkReturn_21 : decode b_Mpg_checkReturn 21 = .ok (.getfield 216, 3) := by decide +kernel
theorem d_Mpg_checkReturn_24 : decode b_Mpg_checkReturn 24 = .ok (.iload_n 1, 1) := by decide +kernel
theorem d_Mpg_checkReturn_25 : decode b_Mpg_checkReturn 25 = .ok (.iaload, 1) := by decide +kernel
theorem d_Mpg_checkReturn_26 : decode b_Mpg_checkReturn 26 = .ok (.ifCond .lt 7, 3) := by decide +kernel
theorem d_Mpg_checkReturn_29 : decode b_Mpg_checkReturn 29 = .ok (.iconst 1, 1) := by decide +kernel
theorem d_Mpg_checkReturn_30 : decode b_Mpg_checkReturn 30 = .ok (.goto 4, 3) := by decide +kernel
theorem d_Mpg_checkReturn_33 : decode b_Mpg_checkReturn 33 = .ok (.iconst 0, 1) := by decide +kernel
theorem d_Mpg_checkReturn_34 : decode b_Mpg_checkReturn 34 = .ok (.if_icmp .ne 15, 3) := by decide +kernel
theorem d_Mpg_checkReturn_37 : decode b_Mpg_checkReturn 37 = .ok (.aload_n 0, 1) := by decide +kernel
theorem d_Mpg_checkReturn_38 : decode b_Mpg_checkReturn 38 = .ok (.bipush 11, 2) := by decide +kernel
theorem d_Mpg_checkReturn_40 : decode b_Mpg_checkReturn 40 = .ok (.aload_n 0, 1) := by decide +kernel
theorem d_Mpg_checkReturn_41 : decode b_Mpg_checkReturn 41 = .ok (.getfield 210, 3) := by decide +kernel
theorem d_Mpg_checkReturn_44 : decode b_Mpg_checkReturn 44 = .ok (.iload_n 1, 1) := by decide +kernel
theorem d_Mpg_checkReturn_45 : decode b_Mpg_checkReturn 45 = .ok (.iaload, 1) := by decide +kernel
theorem d_Mpg_checkReturn_46 : decode b_Mpg_checkReturn 46 = .ok (.invokevirtual 565, 3) := by decide +kernel
theorem d_Mpg_checkReturn_49 : decode b_Mpg_checkReturn 49 = .ok (.aload_n 0, 1) := by decide +kernel
theorem d_Mpg_checkReturn_50 : decode b_Mpg_checkReturn 50 = .ok (.getfield 216, 3) := by decide +kernel
theorem d_Mpg_checkReturn_53 : decode b_Mpg_checkReturn 53 = .ok (.iload_n 1, 1) := by decide +kernel
theorem d_Mpg_checkReturn_54 : decode b_Mpg_checkReturn 54 = .ok (.iaload, 1) := by decide +kernel
theorem d_Mpg_checkReturn_55 : decode b_Mpg_checkReturn 55 = .ok (.ifCond .lt 15, 3) := by decide +kernel
theorem d_Mpg_checkReturn_58 : decode b_Mpg_checkReturn 58 = .ok (.aload_n 0, 1) := by decide +kernel
theorem d_Mpg_checkReturn_59 : decode b_Mpg_checkReturn 59 = .ok (.aload_n 0, 1) := by decide +kernel
theorem d_Mpg_checkReturn_60 : decode b_Mpg_checkReturn 60 = .ok (.getfield 216, 3) := by decide +kernel
theorem d_Mpg_checkReturn_63 : decode b_Mpg_checkReturn 63 = .ok (.iload_n 1, 1) := by decide +kernel
theorem d_Mpg_checkReturn_64 : decode b_Mpg_checkReturn 64 = .ok (.iaload, 1) := by decide +kernel
theorem d_Mpg_checkReturn_65 : decode b_Mpg_checkReturn 65 = .ok (.iconst 1, 1) := by decide +kernel
theorem d_Mpg_checkReturn_66 : decode b_Mpg_checkReturn 66 = .ok (.invokevirtual 577, 3) := by decide +kernel
theorem d_Mpg_checkReturn_69 : decode b_Mpg_checkReturn 69 = .ok (.pop, 1) := by decide +kernel
theorem d_Mpg_checkReturn_70 : decode b_Mpg_checkReturn 70 = .ok (.return_, 1) := by decide +kernel
theorem q_Mpg_checkReturn : px_y y_Mpg_checkReturn 1 := by unfold px_y; decide +kernel
set_option maxHeartbeats 4000000 in
set_option maxRecDepth 100000 in
theorem c_mp_checkReturn (l : Launch) (D : va_G) (cs : Nat → ClassId) (ma0 : Nat → Nat → Int32) (ys : Int) (nf : Int) (tx : Int) (d : Nat) (lo : Int) (hi : Int) (w : Int) (h : Nat) (r : Nat → Nat) (g : Nat → Nat → Option Nat) (tf : Nat → Int32) (ta : Nat → Nat → Int32) (pf : Nat → Int32) (na : Nat → Nat → Int32) (wa : Nat → Nat → Int32) (ef : Nat → Int32) (ea : Nat → Nat → Int32) (xf : Nat → Int32) (xa : Nat → Nat → Int32) (ma : Nat → Nat → Int32) (cf : Nat → Int32) (ca : Nat → Nat → Int32) (p0 : Int32)  (g0 : 0 ≤ lo) (g1 : hi ≤ (pf 13).toInt) (g2 : (pf 13).toInt ≤ 2100) (g3 : (tf 6).toInt ≤ 2049) (g4 : 0 ≤ (cf 33).toInt) (g5 : 0 ≤ w) (g6 : 6 * (cf 33).toInt + w ≤ 6540) (g7 : 0 ≤ (cf 48).toInt) (g8 : 6 * (cf 48).toInt + w ≤ 6540) (g9 : (cf 38).toInt = nf) (g10 : 0 ≤ nf) (g11 : 0 ≤ (cf 37).toInt) (g12 : 0 ≤ (cf 54).toInt) (g13 : (cf 54).toInt ≤ 4096 * (cf 48).toInt) (g14 : 0 ≤ (cf 42).toInt) (g15 : (cf 42).toInt ≤ 4 + 4096 * (cf 48).toInt) (g16 : 0 ≤ (cf 44).toInt) (g17 : 0 ≤ (cf 45).toInt) (g18 : ys ≤ (cf 48).toInt ∨ tx = 1) (g19 : 0 ≤ (cf 46).toInt) (g20 : (cf 46).toInt ≤ 1) (g21 : 0 ≤ (cf 47).toInt) (g22 : (cf 47).toInt ≤ 1) (g23 : (cf 44).toInt + (d : Int) ≤ 400) (g24 : (cf 45).toInt + (d : Int) ≤ 400) (g25 : 0 ≤ (cf 43).toInt) (g26 : (cf 43).toInt < 2100) (g27 : tx = 0) (g28 : (na 14 p0.toNatClampNeg).toInt = 33) (htk : TkI tf ta) (hfs : FsI (tf 6).toInt (pf 13).toInt na) (hwr : WrV cf (tf 6).toInt) (hkt : KnT (tf 6).toInt ca (cf 33).toInt) (hft : FnT (tf 6).toInt na ca (cf 38).toInt) (hks : KnS ca (cf 33).toInt (cf 48).toInt ys) (hfp : FnP na ca nf) (hsr : SyR ca ys (cf 48).toInt (cf 54).toInt tx) (han : Ann na ma0 ma) (htx : txo (cf 43).toInt = tx) (hsc : ScV ta (tf 6).toInt na ma0 (d + 1) lo hi w p0) (hLS : StC l D cs d) : MetV l y_Mpg_checkReturn b_Mpg_checkReturn 3 D cs (6 * d + 27) (260 * d + 940) (0) (0) [.ref h, .int p0] [wdP cs h r g tf ta pf na ma wa cf ca ef ea xf xa] (oX (fun A U H => (oP A g U H)) [wdP cs h r g tf ta pf na ma wa cf ca ef ea xf xa]) (fun ps => ∃ (ma' : Nat → Nat → Int32) (cf' : Nat → Int32) (ca' : Nat → Nat → Int32), (ps = [wdP cs h r g tf ta pf na ma' wa cf' ca' ef ea xf xa]) ∧ ((cf' 30).toInt = 0 → (cf 30).toInt = 0) ∧ (WrV cf' (tf 6).toInt) ∧ ((cf' 37).toInt = (cf 37).toInt) ∧ ((cf' 38).toInt = (cf 38).toInt) ∧ ((cf' 43).toInt = (cf 43).toInt) ∧ ((cf' 44).toInt = (cf 44).toInt) ∧ ((cf' 45).toInt = (cf 45).toInt) ∧ ((cf' 46).toInt = (cf 46).toInt) ∧ ((cf' 47).toInt = (cf 47).toInt) ∧ ((cf' 41).toInt = (cf 41).toInt) ∧ ((cf' 55).toInt = (cf 55).toInt) ∧ ((cf' 59).toInt = (cf 59).toInt) ∧ ((cf' 33).toInt = (cf 33).toInt) ∧ ((cf 48).toInt ≤ (cf' 48).toInt) ∧ (6 * (cf' 48).toInt ≤ 6 * (cf 48).toInt + (w)) ∧ ((cf 54).toInt ≤ (cf' 54).toInt) ∧ ((cf 42).toInt ≤ (cf' 42).toInt) ∧ ((cf' 54).toInt - (cf 54).toInt ≤ 4 * ((cf' 42).toInt - (cf 42).toInt)) ∧ ((cf' 54).toInt - (cf 54).toInt ≤ 4096 * ((cf' 48).toInt - (cf 48).toInt)) ∧ ((cf' 42).toInt - (cf 42).toInt ≤ 4096 * ((cf' 48).toInt - (cf 48).toInt)) ∧ (KnT (tf 6).toInt ca' (cf' 33).toInt) ∧ (KnS ca' (cf' 33).toInt (cf' 48).toInt ys) ∧ (CaG ca ca' (cf 33).toInt (cf 48).toInt) ∧ (SyR ca' ys (cf' 48).toInt (cf' 54).toInt tx) ∧ (Ann na ma0 ma') ∧ (FrC lo hi ma ma') ∧ (ZTe cf' ta ca' na ma0 (cf' 48).toInt ys nf ma' lo hi p0 (tgv (cf 44).toInt (cf 45).toInt))) := by
  refine px_enter (by decide) (Nat.le_of_ble_eq_true rfl) ?_
  intro p e s m below meth c A ls hAe S hr hlk hnm hA hT hX hw hl
  replace hl : lv_has ls 3 [(0, .ref h), (1, .int p0)] := hl
  have lp0 := Int32.le_toInt p0
  have up0 := Int32.toInt_lt p0
  have cst0 : (0 : Int32).toInt = 0 := rfl
  have cst1 : (1 : Int32).toInt = 1 := rfl
  have cst2 : (2 : Int32).toInt = 2 := rfl
  have cst11 : (11 : Int32).toInt = 11 := rfl
  have hX : (fun A U H => (oP A g U H)) A s s.heap := by rw [hAe]; exact hX
  have hP := hX
  have hZ := hP.1
  have hF0 := hP.2.1
  have hfc : FrC lo hi ma ma := FrC.rf
  have hwr0 := hwr.1
  have hk11 := hkt.1
  have hf11 := hft.1
  have hcg : CaG ca ca (cf 33).toInt (cf 48).toInt := CaG.rf
  have hsr0 := ScV.rng hsc
  have hsc_p0 := hsc
  have hoc := ScV.s33 hsc (by first | with_reducible rfl | with_reducible assumption | omega) (z := na 17 p0.toNatClampNeg) rfl
  refine lv_aload_n S.x S.b d_Mpg_checkReturn_0 rfl (lv_at hl 0 rfl) ?_
  refine px_get S k_Mpg hT hw 0 0 22 (v := .ref (r 22)) rfl rfl rfl (by decide) m10_9 d_Mpg_checkReturn_1 ?_
  refine lv_aload_n S.x S.b d_Mpg_checkReturn_4 rfl (lv_at hl 0 rfl) ?_
  refine px_get S k_Mpg hT hw 0 0 43 (v := .int (cf 43)) rfl rfl rfl (by decide) m10_34 d_Mpg_checkReturn_5 ?_
  refine px_iald S hT hw 0 18 (n := 2100) (f := (ma 22)) rfl gp_22 (x := (cf 43)) (vp_in_iff.mpr (by first | exact oz_bba493d71d g25 g26 | (constructor <;> omega))) d_Mpg_checkReturn_8 ?_
  refine lv_topi (fun z1 ez1 => ?_)
  have lz1 := Int32.le_toInt z1
  have uz1 := Int32.toInt_lt z1
  refine lv_iconst (v := 2) S.x S.b d_Mpg_checkReturn_9 (by decide) ?_
  refine lv_icmp_ne (tgt := 17) S.x S.b d_Mpg_checkReturn_10 (by decide) (fun c2 => ?_) (fun c2 => ?_)
  · have nc2 : ¬ z1.toInt = (2 : Int) := mt (i_eq (x := z1) (y := 2)).mpr c2
    refine lv_iconst (v := 0) S.x S.b d_Mpg_checkReturn_17 (by decide) ?_
    refine lv_istore_n (lv' := [(2, .int 0), (0, .ref h), (1, .int p0)]) S.x S.b d_Mpg_checkReturn_18 rfl hl (by decide) rfl (fun ls hl => ?_)
    refine lv_iload_n S.x S.b d_Mpg_checkReturn_19 rfl (lv_at hl 0 rfl) ?_
    refine lv_aload_n S.x S.b d_Mpg_checkReturn_20 rfl (lv_at hl 1 rfl) ?_
    refine px_get S k_Mpg hT hw 0 0 17 (v := .ref (r 17)) rfl rfl rfl (by decide) m10_1 d_Mpg_checkReturn_21 ?_
    refine lv_iload_n S.x S.b d_Mpg_checkReturn_24 rfl (lv_at hl 2 rfl) ?_
    refine px_iald S hT hw 0 13 (n := 2100) (f := (na 17)) rfl gp_17 (x := p0) (vp_in_iff.mpr (by first | exact oz_a7e05de1cd hsr0.2.2.1 hsr0.2.1 g1 g2 | (constructor <;> omega))) d_Mpg_checkReturn_25 ?_
    refine lv_topi (fun z3 ez3 => ?_)
    have lz3 := Int32.le_toInt z3
    have uz3 := Int32.toInt_lt z3
    have ha_z3 : z3 = na 17 p0.toNatClampNeg := ez3; have hn_z3 : z3.toInt = (na 17 p0.toNatClampNeg).toInt := (by rw [ha_z3])
    refine lv_if_lt (tgt := 33) S.x S.b d_Mpg_checkReturn_26 (by decide) (fun c4 => ?_) (fun c4 => ?_)
    · have nc4 : z3.toInt < (0 : Int) := (i_lt (x := z3) (y := 0)).mp c4
      refine lv_iconst (v := 0) S.x S.b d_Mpg_checkReturn_33 (by decide) ?_
      refine lv_icmp_ne (tgt := 49) S.x S.b d_Mpg_checkReturn_34 (by decide) (fun c5 => ?_) (fun c5 => ?_)
      · exact absurd c5 (by decide)
      ·
        refine lv_aload_n S.x S.b d_Mpg_checkReturn_37 rfl (lv_at hl 1 rfl) ?_
        refine lv_bipush (v := 11) S.x S.b d_Mpg_checkReturn_38 (by decide) ?_
        refine lv_aload_n S.x S.b d_Mpg_checkReturn_40 rfl (lv_at hl 1 rfl) ?_
        refine px_get S k_Mpg hT hw 0 0 15 (v := .ref (r 15)) rfl rfl rfl (by decide) m9_239 d_Mpg_checkReturn_41 ?_
        refine lv_iload_n S.x S.b d_Mpg_checkReturn_44 rfl (lv_at hl 2 rfl) ?_
        refine px_iald S hT hw 0 11 (n := 2100) (f := (na 15)) rfl gp_15 (x := p0) (vp_in_iff.mpr (by first | exact oz_a7e05de1cd hsr0.2.2.1 hsr0.2.1 g1 g2 | (constructor <;> omega))) d_Mpg_checkReturn_45 ?_
        refine lv_topi (fun z6 ez6 => ?_)
        have lz6 := Int32.le_toInt z6
        have uz6 := Int32.toInt_lt z6
        have rz6 := ScV.tok hsc_p0 ez6
        refine px_callv (pr := []) (px_runV (As := [.int 11, .int z6]) (rest := []) S (c_mp_bad l D cs h r g tf ta pf na ma wa ca ef ea xf xa cf 11 z6  (show 1 ≤ (11 : Int) from by first | decide | omega) (show 0 ≤ z6.toInt from by first | exact rz6.1 | omega) (show z6.toInt < (tf 6).toInt from by first | exact oz_7fe81129bf rz6.2 | omega) htk hwr _) hT (pr := []) (pcs := [wdP cs h r g tf ta pf na ma wa cf ca ef ea xf xa]) hw px_X.tt (px_recv hT hw 0 0 rfl rfl rfl) m12_173 m12_170 m12_172 ms_11_12 m1_21 q_Mpg_bad ⟨show 0 + 1 ≤ (6 * d + 27) from by first | with_reducible rfl | with_reducible assumption | omega, show 8 + (3 + 11) + 0 ≤ (260 * d + 940) from by first | with_reducible rfl | with_reducible assumption | omega⟩ hl.1 rfl (Nat.le_of_ble_eq_true rfl) d_Mpg_checkReturn_46 ⟨Nat.le_of_ble_eq_true rfl, Nat.le_of_ble_eq_true rfl⟩) hw hA (fun p9 H locs hp9 hw => ?_)
        obtain ⟨cf8, rfl, e11, e12, e13, e14, e15, e16, e17, e18, e19, e20, e21, e22, e23, e24, e25, e26, e27, e28, e29⟩ := hp9
        replace e11 : KpE cf cf8 := e11
        have hkz_e11 := e11.2
        replace e12 : WrV cf8 (tf 6).toInt := e12
        have hwr := e12
        have hw0_e12 := hwr.1
        replace e13 : 1 ≤ (cf8 30).toInt := e13
        replace e14 : (cf8 33).toInt = (cf 33).toInt := e14
        replace e15 : (cf8 38).toInt = (cf 38).toInt := e15
        replace e16 : (cf8 48).toInt = (cf 48).toInt := e16
        replace e17 : (cf8 46).toInt = (cf 46).toInt := e17
        replace e18 : (cf8 47).toInt = (cf 47).toInt := e18
        replace e19 : (cf8 57).toInt = (cf 57).toInt := e19
        replace e20 : (cf8 37).toInt = (cf 37).toInt := e20
        replace e21 : (cf8 42).toInt = (cf 42).toInt := e21
        replace e22 : (cf8 43).toInt = (cf 43).toInt := e22
        replace e23 : (cf8 44).toInt = (cf 44).toInt := e23
        replace e24 : (cf8 45).toInt = (cf 45).toInt := e24
        replace e25 : (cf8 54).toInt = (cf 54).toInt := e25
        replace e26 : (cf8 55).toInt = (cf 55).toInt := e26
        replace e27 : (cf8 58).toInt = (cf 58).toInt := e27
        replace e28 : (cf8 59).toInt = (cf 59).toInt := e28
        replace e29 : (cf8 41).toInt = (cf 41).toInt := e29
        replace hw : pw D A s.heap H locs [wdP cs h r g tf ta pf na ma wa cf8 ca ef ea xf xa] := hw
        refine lv_aload_n S.x S.b d_Mpg_checkReturn_49 rfl (lv_at hl 1 rfl) ?_
        refine px_get S k_Mpg hT hw 0 0 17 (v := .ref (r 17)) rfl rfl rfl (by decide) m10_1 d_Mpg_checkReturn_50 ?_
        refine lv_iload_n S.x S.b d_Mpg_checkReturn_53 rfl (lv_at hl 2 rfl) ?_
        refine px_iald S hT hw 0 13 (n := 2100) (f := (na 17)) rfl gp_17 (x := p0) (vp_in_iff.mpr (by first | exact oz_a7e05de1cd hsr0.2.2.1 hsr0.2.1 g1 g2 | (constructor <;> omega))) d_Mpg_checkReturn_54 ?_
        refine lv_topi (fun z30 ez30 => ?_)
        have lz30 := Int32.le_toInt z30
        have uz30 := Int32.toInt_lt z30
        have ha_z30 : z30 = na 17 p0.toNatClampNeg := ez30; have hn_z30 : z30.toInt = (na 17 p0.toNatClampNeg).toInt := (by rw [ha_z30])
        refine lv_if_lt (tgt := 70) S.x S.b d_Mpg_checkReturn_55 (by decide) (fun c31 => ?_) (fun c31 => ?_)
        · have nc31 : z30.toInt < (0 : Int) := (i_lt (x := z30) (y := 0)).mp c31
          exact px_vret S hr hlk hAe hw (Nat.le_of_ble_eq_true rfl) (Nat.le_of_ble_eq_true rfl) (⟨ma, cf8, ca, rfl, (show (cf8 30).toInt = 0 → (cf 30).toInt = 0 from by first | exact hkz_e11 | omega), (show WrV cf8 (tf 6).toInt from hwr), (show (cf8 37).toInt = (cf 37).toInt from by first | exact e20 | omega), (show (cf8 38).toInt = (cf 38).toInt from by first | exact e15 | omega), (show (cf8 43).toInt = (cf 43).toInt from by first | exact e22 | omega), (show (cf8 44).toInt = (cf 44).toInt from by first | exact e23 | omega), (show (cf8 45).toInt = (cf 45).toInt from by first | exact e24 | omega), (show (cf8 46).toInt = (cf 46).toInt from by first | exact e17 | omega), (show (cf8 47).toInt = (cf 47).toInt from by first | exact e18 | omega), (show (cf8 41).toInt = (cf 41).toInt from by first | exact e29 | omega), (show (cf8 55).toInt = (cf 55).toInt from by first | exact e26 | omega), (show (cf8 59).toInt = (cf 59).toInt from by first | exact e28 | omega), (show (cf8 33).toInt = (cf 33).toInt from by first | exact e14 | omega), (show (cf 48).toInt ≤ (cf8 48).toInt from by first | exact oz_f9b42d1b56 e16 | omega), (show 6 * (cf8 48).toInt ≤ 6 * (cf 48).toInt + (w) from by first | exact oz_092373726c g5 e16 | omega), (show (cf 54).toInt ≤ (cf8 54).toInt from by first | exact oz_f9b42d1b56 e25 | omega), (show (cf 42).toInt ≤ (cf8 42).toInt from by first | exact oz_f9b42d1b56 e21 | omega), (show (cf8 54).toInt - (cf 54).toInt ≤ 4 * ((cf8 42).toInt - (cf 42).toInt) from by first | exact oz_7f23dbcb5f e21 e25 | omega), (show (cf8 54).toInt - (cf 54).toInt ≤ 4096 * ((cf8 48).toInt - (cf 48).toInt) from by first | exact oz_a2be20d97d e16 e25 | omega), (show (cf8 42).toInt - (cf 42).toInt ≤ 4096 * ((cf8 48).toInt - (cf 48).toInt) from by first | exact oz_a2be20d97d e16 e21 | omega), (show KnT (tf 6).toInt ca (cf8 33).toInt from (KnT.eq hkt (by first | with_reducible rfl | with_reducible assumption | omega))), (show KnS ca (cf8 33).toInt (cf8 48).toInt ys from (KnS.eq hks (by first | with_reducible rfl | with_reducible assumption | omega) (by first | with_reducible rfl | with_reducible assumption | omega))), (show CaG ca ca (cf 33).toInt (cf 48).toInt from (hcg.le (by first | with_reducible rfl | with_reducible assumption | omega) (by first | with_reducible rfl | with_reducible assumption | omega))), (show SyR ca ys (cf8 48).toInt (cf8 54).toInt tx from (SyR.eq hsr (by first | with_reducible rfl | with_reducible assumption | omega) (by first | with_reducible rfl | with_reducible assumption | omega))), (show Ann na ma0 ma from han), (show FrC lo hi ma ma from hfc), (show ZTe cf8 ta ca na ma0 (cf8 48).toInt ys nf ma lo hi p0 (tgv (cf 44).toInt (cf 45).toInt) from (zr_no (by first | with_reducible rfl | with_reducible assumption | omega)))⟩) d_Mpg_checkReturn_70
        · have nc31 : ¬ z30.toInt < (0 : Int) := mt (i_lt (x := z30) (y := 0)).mpr c31
          refine lv_aload_n S.x S.b d_Mpg_checkReturn_58 rfl (lv_at hl 1 rfl) ?_
          refine lv_aload_n S.x S.b d_Mpg_checkReturn_59 rfl (lv_at hl 1 rfl) ?_
          refine px_get S k_Mpg hT hw 0 0 17 (v := .ref (r 17)) rfl rfl rfl (by decide) m10_1 d_Mpg_checkReturn_60 ?_
          refine lv_iload_n S.x S.b d_Mpg_checkReturn_63 rfl (lv_at hl 2 rfl) ?_
          refine px_iald S hT hw 0 13 (n := 2100) (f := (na 17)) rfl gp_17 (x := p0) (vp_in_iff.mpr (by first | exact oz_a7e05de1cd hsr0.2.2.1 hsr0.2.1 g1 g2 | (constructor <;> omega))) d_Mpg_checkReturn_64 ?_
          refine lv_topi (fun z32 ez32 => ?_)
          have lz32 := Int32.le_toInt z32
          have uz32 := Int32.toInt_lt z32
          have ha_z32 : z32 = na 17 p0.toNatClampNeg := ez32; have hn_z32 : z32.toInt = (na 17 p0.toNatClampNeg).toInt := (by rw [ha_z32]); have hev_z32 : ErV ta (tf 6).toInt na ma0 d (p0.toInt + 1) hi (w - 2) z32 := (by rw [ha_z32]; exact hoc.get (by first | with_reducible rfl | with_reducible assumption | omega)); obtain ⟨hec_z32, h20_z32, hw_z32⟩ := hev_z32.ec; have hrg_z32 := EcV.rng hec_z32
          refine lv_iconst (v := 1) S.x S.b d_Mpg_checkReturn_65 (by decide) ?_
          refine px_calli (pr := []) (px_runV (As := [.int z32, .int 1]) (rest := []) S (c_S_check l D cs ma0 ys (cf8 48).toInt nf (cf8 33).toInt d (p0.toInt + 1) hi h r g tf ta pf na wa ca ef ea xf xa ma cf8 z32 1  (show 0 ≤ (p0.toInt + 1) from by first | exact oz_c12c169b81 hsr0.2.2.1 | omega) (show hi ≤ (pf 13).toInt from by first | exact g1 | omega) (show (pf 13).toInt ≤ 2100 from by first | exact g2 | omega) (show (tf 6).toInt ≤ 2049 from by first | exact g3 | omega) (show (cf8 33).toInt = (cf8 33).toInt from rfl) (show 0 ≤ (cf8 33).toInt from by first | exact oz_f3ebed1ad0 e14 g4 | omega) (show (cf8 48).toInt = (cf8 48).toInt from rfl) (show (cf8 38).toInt = nf from by first | exact oz_1687f4cc65 g9 e15 | omega) (show 0 ≤ nf from by first | exact g10 | omega) (show 0 ≤ (1 : Int) from by first | decide | omega) (show (1 : Int) ≤ 1 from by first | decide | omega) htk (FsI.le (N' := (pf 13).toInt) hfs (by first | with_reducible rfl | with_reducible assumption | omega)) hwr (KnT.eq hkt (by first | with_reducible rfl | with_reducible assumption | omega)) (FnT.eq hft (by first | with_reducible rfl | with_reducible assumption | omega)) (KnS.eq hks (by first | with_reducible rfl | with_reducible assumption | omega) (by first | with_reducible rfl | with_reducible assumption | omega)) hfp han hec_z32 _) hT (pr := []) (pcs := [wdP cs h r g tf ta pf na ma wa cf8 ca ef ea xf xa]) hw (oX_call (P := (fun A U H => (oP A g U H))) (pr := []) oG_P hw hA hP) (px_recv hT hw 0 0 rfl rfl rfl) m12_217 m12_214 m12_216 ms_12_7 m1_21 q_Mpg_check ⟨show (4 * d + 12) + 1 ≤ (6 * d + 27) from by first | with_reducible rfl | with_reducible assumption | omega, show 8 + (8 + 11) + (200 * d + 420) ≤ (260 * d + 940) from by first | with_reducible rfl | with_reducible assumption | omega⟩ hl.1 rfl (Nat.le_of_ble_eq_true rfl) d_Mpg_checkReturn_66 ⟨Nat.le_of_ble_eq_true rfl, Nat.le_of_ble_eq_true rfl⟩) hw hA (fun v38 p37 H locs hp37 hw => ?_)
          obtain ⟨ma35, cf36, rfl, e39, e40, e41, e42, e43, e44, e45, e46, e47, e48, e49, e50, e51, e52, e53⟩ := hp37
          replace e39 : KpE cf8 cf36 := e39
          have hkz_e39 := e39.2
          have hkk37_e39 : (cf36 37).toInt = (cf8 37).toInt := (by rw [e39.1 37 (by decide) (by decide) (by decide) (by decide) (by decide)] <;> rfl)
          have hkk43_e39 : (cf36 43).toInt = (cf8 43).toInt := (by rw [e39.1 43 (by decide) (by decide) (by decide) (by decide) (by decide)] <;> rfl)
          have hkk44_e39 : (cf36 44).toInt = (cf8 44).toInt := (by rw [e39.1 44 (by decide) (by decide) (by decide) (by decide) (by decide)] <;> rfl)
          have hkk45_e39 : (cf36 45).toInt = (cf8 45).toInt := (by rw [e39.1 45 (by decide) (by decide) (by decide) (by decide) (by decide)] <;> rfl)
          have hkk41_e39 : (cf36 41).toInt = (cf8 41).toInt := (by rw [e39.1 41 (by decide) (by decide) (by decide) (by decide) (by decide)] <;> rfl)
          have hkk55_e39 : (cf36 55).toInt = (cf8 55).toInt := (by rw [e39.1 55 (by decide) (by decide) (by decide) (by decide) (by decide)] <;> rfl)
          have hkk59_e39 : (cf36 59).toInt = (cf8 59).toInt := (by rw [e39.1 59 (by decide) (by decide) (by decide) (by decide) (by decide)] <;> rfl)
          have hkk42_e39 : (cf36 42).toInt = (cf8 42).toInt := (by rw [e39.1 42 (by decide) (by decide) (by decide) (by decide) (by decide)] <;> rfl)
          have hkk54_e39 : (cf36 54).toInt = (cf8 54).toInt := (by rw [e39.1 54 (by decide) (by decide) (by decide) (by decide) (by decide)] <;> rfl)
          have hkk58_e39 : (cf36 58).toInt = (cf8 58).toInt := (by rw [e39.1 58 (by decide) (by decide) (by decide) (by decide) (by decide)] <;> rfl)
          replace e40 : WrV cf36 (tf 6).toInt := e40
          have hwr := e40
          have hw0_e40 := hwr.1
          replace e41 : (cf36 33).toInt = (cf8 33).toInt := e41
          replace e42 : (cf36 38).toInt = (cf8 38).toInt := e42
          replace e43 : (cf36 48).toInt = (cf8 48).toInt := e43
          replace e44 : (cf36 46).toInt = (cf8 46).toInt := e44
          replace e45 : (cf36 47).toInt = (cf8 47).toInt := e45
          replace e46 : (cf36 57).toInt = (cf8 57).toInt := e46
          replace e47 : Ann na ma0 ma35 := e47
          have han := e47
          replace e48 : FrC (p0.toInt + 1) hi ma ma35 := e48
          have hfc := hfc.tr e48 (by first | with_reducible rfl | with_reducible assumption | omega) (by first | with_reducible rfl | with_reducible assumption | omega)
          replace e49 : 0 ≤ v38.toInt := e49
          replace e50 : v38.toInt ≤ 4 := e50
          replace e51 : NmJ ta ca na ma35 (cf8 33).toInt z32 v38.toInt := e51
          replace e52 : ZTy cf36 (Gk ta ca na ma0 (cf8 48).toInt ys nf) na ma35 (p0.toInt + 1) hi z32 v38.toInt := e52
          replace e53 : ZNm cf36 (1 : Int) v38.toInt := e53
          have hty_z32 : ZTe cf36 ta ca na ma0 (cf36 48).toInt ys nf ma35 (p0.toInt + 1) hi z32 0 := ZTe.to (t := 0) (ZTy.num e52 e53) (fun q => by first | with_reducible rfl | with_reducible assumption | omega) (by first | with_reducible rfl | with_reducible assumption | omega) (Int.le_refl _) (Int.le_refl _) rfl
          replace hw : pw D A s.heap H locs [wdP cs h r g tf ta pf na ma35 wa cf36 ca ef ea xf xa] := hw
          have lv38 := Int32.le_toInt v38
          have uv38 := Int32.toInt_lt v38
          refine lv_pop S.x S.b d_Mpg_checkReturn_69 rfl ?_
          exact px_vret S hr hlk hAe hw (Nat.le_of_ble_eq_true rfl) (Nat.le_of_ble_eq_true rfl) (⟨ma35, cf36, ca, rfl, (show (cf36 30).toInt = 0 → (cf 30).toInt = 0 from by first | with_reducible rfl | with_reducible assumption | omega), (show WrV cf36 (tf 6).toInt from hwr), (show (cf36 37).toInt = (cf 37).toInt from by first | exact oz_1687f4cc65 e20 hkk37_e39 | omega), (show (cf36 38).toInt = (cf 38).toInt from by first | exact oz_1687f4cc65 e15 e42 | omega), (show (cf36 43).toInt = (cf 43).toInt from by first | exact oz_1687f4cc65 e22 hkk43_e39 | omega), (show (cf36 44).toInt = (cf 44).toInt from by first | exact oz_1687f4cc65 e23 hkk44_e39 | omega), (show (cf36 45).toInt = (cf 45).toInt from by first | exact oz_1687f4cc65 e24 hkk45_e39 | omega), (show (cf36 46).toInt = (cf 46).toInt from by first | exact oz_1687f4cc65 e17 e44 | omega), (show (cf36 47).toInt = (cf 47).toInt from by first | exact oz_1687f4cc65 e18 e45 | omega), (show (cf36 41).toInt = (cf 41).toInt from by first | exact oz_1687f4cc65 e29 hkk41_e39 | omega), (show (cf36 55).toInt = (cf 55).toInt from by first | exact oz_1687f4cc65 e26 hkk55_e39 | omega), (show (cf36 59).toInt = (cf 59).toInt from by first | exact oz_1687f4cc65 e28 hkk59_e39 | omega), (show (cf36 33).toInt = (cf 33).toInt from by first | exact oz_1687f4cc65 e14 e41 | omega), (show (cf 48).toInt ≤ (cf36 48).toInt from by first | exact oz_d01699e821 e16 e43 | omega), (show 6 * (cf36 48).toInt ≤ 6 * (cf 48).toInt + (w) from by first | exact oz_48fba83842 g5 e16 e43 | omega), (show (cf 54).toInt ≤ (cf36 54).toInt from by first | exact oz_d01699e821 e25 hkk54_e39 | omega), (show (cf 42).toInt ≤ (cf36 42).toInt from by first | exact oz_d01699e821 e21 hkk42_e39 | omega), (show (cf36 54).toInt - (cf 54).toInt ≤ 4 * ((cf36 42).toInt - (cf 42).toInt) from by first | exact oz_609cf4b982 e21 e25 hkk42_e39 hkk54_e39 | omega), (show (cf36 54).toInt - (cf 54).toInt ≤ 4096 * ((cf36 48).toInt - (cf 48).toInt) from by first | exact oz_9a318b6183 e16 e25 e43 hkk54_e39 | omega), (show (cf36 42).toInt - (cf 42).toInt ≤ 4096 * ((cf36 48).toInt - (cf 48).toInt) from by first | exact oz_9a318b6183 e16 e21 e43 hkk42_e39 | omega), (show KnT (tf 6).toInt ca (cf36 33).toInt from (KnT.eq hkt (by first | with_reducible rfl | with_reducible assumption | omega))), (show KnS ca (cf36 33).toInt (cf36 48).toInt ys from (KnS.eq hks (by first | with_reducible rfl | with_reducible assumption | omega) (by first | with_reducible rfl | with_reducible assumption | omega))), (show CaG ca ca (cf 33).toInt (cf 48).toInt from (hcg.le (by first | with_reducible rfl | with_reducible assumption | omega) (by first | with_reducible rfl | with_reducible assumption | omega))), (show SyR ca ys (cf36 48).toInt (cf36 54).toInt tx from (SyR.eq hsr (by first | with_reducible rfl | with_reducible assumption | omega) (by first | with_reducible rfl | with_reducible assumption | omega))), (show Ann na ma0 ma35 from han), (show FrC lo hi ma ma35 from hfc), (show ZTe cf36 ta ca na ma0 (cf36 48).toInt ys nf ma35 lo hi p0 (tgv (cf 44).toInt (cf 45).toInt) from (fun zz => by exact tys_33 ⟨by first | with_reducible rfl | with_reducible assumption | omega, by first | with_reducible rfl | with_reducible assumption | omega, by first | with_reducible rfl | with_reducible assumption | omega⟩ tgv_rng (by first | with_reducible rfl | with_reducible assumption | omega) ha_z32 (ZTe.ot hty_z32 (by first | with_reducible rfl | with_reducible assumption | omega) (by first | with_reducible rfl | with_reducible assumption | omega) (by first | with_reducible rfl | with_reducible assumption | omega) (by first | with_reducible rfl | with_reducible assumption | omega) rfl)))⟩) d_Mpg_checkReturn_70
    · have nc4 : ¬ z3.toInt < (0 : Int) := mt (i_lt (x := z3) (y := 0)).mpr c4
      refine lv_iconst (v := 1) S.x S.b d_Mpg_checkReturn_29 (by decide) ?_
      refine lv_goto (tgt := 34) S.x S.b d_Mpg_checkReturn_30 (by decide) ?_
      refine lv_icmp_ne (tgt := 49) S.x S.b d_Mpg_checkReturn_34 (by decide) (fun c54 => ?_) (fun c54 => ?_)
      ·
        refine lv_aload_n S.x S.b d_Mpg_checkReturn_49 rfl (lv_at hl 1 rfl) ?_
        refine px_get S k_Mpg hT hw 0 0 17 (v := .ref (r 17)) rfl rfl rfl (by decide) m10_1 d_Mpg_checkReturn_50 ?_
        refine lv_iload_n S.x S.b d_Mpg_checkReturn_53 rfl (lv_at hl 2 rfl) ?_
        refine px_iald S hT hw 0 13 (n := 2100) (f := (na 17)) rfl gp_17 (x := p0) (vp_in_iff.mpr (by first | exact oz_a7e05de1cd hsr0.2.2.1 hsr0.2.1 g1 g2 | (constructor <;> omega))) d_Mpg_checkReturn_54 ?_
        refine lv_topi (fun z55 ez55 => ?_)
        have lz55 := Int32.le_toInt z55
        have uz55 := Int32.toInt_lt z55
        have ha_z55 : z55 = na 17 p0.toNatClampNeg := ez55; have hn_z55 : z55.toInt = (na 17 p0.toNatClampNeg).toInt := (by rw [ha_z55])
        refine lv_if_lt (tgt := 70) S.x S.b d_Mpg_checkReturn_55 (by decide) (fun c56 => ?_) (fun c56 => ?_)
        · have nc56 : z55.toInt < (0 : Int) := (i_lt (x := z55) (y := 0)).mp c56
          exact px_vret S hr hlk hAe hw (Nat.le_of_ble_eq_true rfl) (Nat.le_of_ble_eq_true rfl) (⟨ma, cf, ca, rfl, (show (cf 30).toInt = 0 → (cf 30).toInt = 0 from by first | exact fun q9 => q9 | omega), (show WrV cf (tf 6).toInt from hwr), (show (cf 37).toInt = (cf 37).toInt from rfl), (show (cf 38).toInt = (cf 38).toInt from rfl), (show (cf 43).toInt = (cf 43).toInt from rfl), (show (cf 44).toInt = (cf 44).toInt from rfl), (show (cf 45).toInt = (cf 45).toInt from rfl), (show (cf 46).toInt = (cf 46).toInt from rfl), (show (cf 47).toInt = (cf 47).toInt from rfl), (show (cf 41).toInt = (cf 41).toInt from rfl), (show (cf 55).toInt = (cf 55).toInt from rfl), (show (cf 59).toInt = (cf 59).toInt from rfl), (show (cf 33).toInt = (cf 33).toInt from rfl), (show (cf 48).toInt ≤ (cf 48).toInt from by first | exact oz_1cb5f934a5 | omega), (show 6 * (cf 48).toInt ≤ 6 * (cf 48).toInt + (w) from by first | exact oz_5a408f7934 g5 | omega), (show (cf 54).toInt ≤ (cf 54).toInt from by first | exact oz_1cb5f934a5 | omega), (show (cf 42).toInt ≤ (cf 42).toInt from by first | exact oz_1cb5f934a5 | omega), (show (cf 54).toInt - (cf 54).toInt ≤ 4 * ((cf 42).toInt - (cf 42).toInt) from by first | exact oz_a1153f1990 | omega), (show (cf 54).toInt - (cf 54).toInt ≤ 4096 * ((cf 48).toInt - (cf 48).toInt) from by first | exact oz_f4137ca117 | omega), (show (cf 42).toInt - (cf 42).toInt ≤ 4096 * ((cf 48).toInt - (cf 48).toInt) from by first | exact oz_f4137ca117 | omega), (show KnT (tf 6).toInt ca (cf 33).toInt from (KnT.eq hkt (by first | with_reducible rfl | with_reducible assumption | omega))), (show KnS ca (cf 33).toInt (cf 48).toInt ys from (KnS.eq hks (by first | with_reducible rfl | with_reducible assumption | omega) (by first | with_reducible rfl | with_reducible assumption | omega))), (show CaG ca ca (cf 33).toInt (cf 48).toInt from (hcg.le (by first | with_reducible rfl | with_reducible assumption | omega) (by first | with_reducible rfl | with_reducible assumption | omega))), (show SyR ca ys (cf 48).toInt (cf 54).toInt tx from (SyR.eq hsr (by first | with_reducible rfl | with_reducible assumption | omega) (by first | with_reducible rfl | with_reducible assumption | omega))), (show Ann na ma0 ma from han), (show FrC lo hi ma ma from hfc), (show ZTe cf ta ca na ma0 (cf 48).toInt ys nf ma lo hi p0 (tgv (cf 44).toInt (cf 45).toInt) from (fun zz => by exact tys_33 ⟨by first | with_reducible rfl | with_reducible assumption | omega, by first | with_reducible rfl | with_reducible assumption | omega, by first | with_reducible rfl | with_reducible assumption | omega⟩ tgv_rng (by first | with_reducible rfl | with_reducible assumption | omega) ha_z55 (Or.inl (by first | with_reducible rfl | with_reducible assumption | omega))))⟩) d_Mpg_checkReturn_70
        · have nc56 : ¬ z55.toInt < (0 : Int) := mt (i_lt (x := z55) (y := 0)).mpr c56
          refine lv_aload_n S.x S.b d_Mpg_checkReturn_58 rfl (lv_at hl 1 rfl) ?_
          refine lv_aload_n S.x S.b d_Mpg_checkReturn_59 rfl (lv_at hl 1 rfl) ?_
          refine px_get S k_Mpg hT hw 0 0 17 (v := .ref (r 17)) rfl rfl rfl (by decide) m10_1 d_Mpg_checkReturn_60 ?_
          refine lv_iload_n S.x S.b d_Mpg_checkReturn_63 rfl (lv_at hl 2 rfl) ?_
          refine px_iald S hT hw 0 13 (n := 2100) (f := (na 17)) rfl gp_17 (x := p0) (vp_in_iff.mpr (by first | exact oz_a7e05de1cd hsr0.2.2.1 hsr0.2.1 g1 g2 | (constructor <;> omega))) d_Mpg_checkReturn_64 ?_
          refine lv_topi (fun z57 ez57 => ?_)
          have lz57 := Int32.le_toInt z57
          have uz57 := Int32.toInt_lt z57
          have ha_z57 : z57 = na 17 p0.toNatClampNeg := ez57; have hn_z57 : z57.toInt = (na 17 p0.toNatClampNeg).toInt := (by rw [ha_z57]); have hev_z57 : ErV ta (tf 6).toInt na ma0 d (p0.toInt + 1) hi (w - 2) z57 := (by rw [ha_z57]; exact hoc.get (by first | with_reducible rfl | with_reducible assumption | omega)); obtain ⟨hec_z57, h20_z57, hw_z57⟩ := hev_z57.ec; have hrg_z57 := EcV.rng hec_z57
          refine lv_iconst (v := 1) S.x S.b d_Mpg_checkReturn_65 (by decide) ?_
          refine px_calli (pr := []) (px_runV (As := [.int z57, .int 1]) (rest := []) S (c_S_check l D cs ma0 ys (cf 48).toInt nf (cf 33).toInt d (p0.toInt + 1) hi h r g tf ta pf na wa ca ef ea xf xa ma cf z57 1  (show 0 ≤ (p0.toInt + 1) from by first | exact oz_c12c169b81 hsr0.2.2.1 | omega) (show hi ≤ (pf 13).toInt from by first | exact g1 | omega) (show (pf 13).toInt ≤ 2100 from by first | exact g2 | omega) (show (tf 6).toInt ≤ 2049 from by first | exact g3 | omega) (show (cf 33).toInt = (cf 33).toInt from rfl) (show 0 ≤ (cf 33).toInt from by first | exact g4 | omega) (show (cf 48).toInt = (cf 48).toInt from rfl) (show (cf 38).toInt = nf from by first | exact g9 | omega) (show 0 ≤ nf from by first | exact g10 | omega) (show 0 ≤ (1 : Int) from by first | decide | omega) (show (1 : Int) ≤ 1 from by first | decide | omega) htk (FsI.le (N' := (pf 13).toInt) hfs (by first | with_reducible rfl | with_reducible assumption | omega)) hwr (KnT.eq hkt (by first | with_reducible rfl | with_reducible assumption | omega)) (FnT.eq hft (by first | with_reducible rfl | with_reducible assumption | omega)) (KnS.eq hks (by first | with_reducible rfl | with_reducible assumption | omega) (by first | with_reducible rfl | with_reducible assumption | omega)) hfp han hec_z57 _) hT (pr := []) (pcs := [wdP cs h r g tf ta pf na ma wa cf ca ef ea xf xa]) hw (oX_call (P := (fun A U H => (oP A g U H))) (pr := []) oG_P hw hA hP) (px_recv hT hw 0 0 rfl rfl rfl) m12_217 m12_214 m12_216 ms_12_7 m1_21 q_Mpg_check ⟨show (4 * d + 12) + 1 ≤ (6 * d + 27) from by first | with_reducible rfl | with_reducible assumption | omega, show 8 + (8 + 11) + (200 * d + 420) ≤ (260 * d + 940) from by first | with_reducible rfl | with_reducible assumption | omega⟩ hl.1 rfl (Nat.le_of_ble_eq_true rfl) d_Mpg_checkReturn_66 ⟨Nat.le_of_ble_eq_true rfl, Nat.le_of_ble_eq_true rfl⟩) hw hA (fun v63 p62 H locs hp62 hw => ?_)
          obtain ⟨ma60, cf61, rfl, e64, e65, e66, e67, e68, e69, e70, e71, e72, e73, e74, e75, e76, e77, e78⟩ := hp62
          replace e64 : KpE cf cf61 := e64
          have hkz_e64 := e64.2
          have hkk37_e64 : (cf61 37).toInt = (cf 37).toInt := (by rw [e64.1 37 (by decide) (by decide) (by decide) (by decide) (by decide)] <;> rfl)
          have hkk43_e64 : (cf61 43).toInt = (cf 43).toInt := (by rw [e64.1 43 (by decide) (by decide) (by decide) (by decide) (by decide)] <;> rfl)
          have hkk44_e64 : (cf61 44).toInt = (cf 44).toInt := (by rw [e64.1 44 (by decide) (by decide) (by decide) (by decide) (by decide)] <;> rfl)
          have hkk45_e64 : (cf61 45).toInt = (cf 45).toInt := (by rw [e64.1 45 (by decide) (by decide) (by decide) (by decide) (by decide)] <;> rfl)
          have hkk41_e64 : (cf61 41).toInt = (cf 41).toInt := (by rw [e64.1 41 (by decide) (by decide) (by decide) (by decide) (by decide)] <;> rfl)
          have hkk55_e64 : (cf61 55).toInt = (cf 55).toInt := (by rw [e64.1 55 (by decide) (by decide) (by decide) (by decide) (by decide)] <;> rfl)
          have hkk59_e64 : (cf61 59).toInt = (cf 59).toInt := (by rw [e64.1 59 (by decide) (by decide) (by decide) (by decide) (by decide)] <;> rfl)
          have hkk42_e64 : (cf61 42).toInt = (cf 42).toInt := (by rw [e64.1 42 (by decide) (by decide) (by decide) (by decide) (by decide)] <;> rfl)
          have hkk54_e64 : (cf61 54).toInt = (cf 54).toInt := (by rw [e64.1 54 (by decide) (by decide) (by decide) (by decide) (by decide)] <;> rfl)
          have hkk58_e64 : (cf61 58).toInt = (cf 58).toInt := (by rw [e64.1 58 (by decide) (by decide) (by decide) (by decide) (by decide)] <;> rfl)
          replace e65 : WrV cf61 (tf 6).toInt := e65
          have hwr := e65
          have hw0_e65 := hwr.1
          replace e66 : (cf61 33).toInt = (cf 33).toInt := e66
          replace e67 : (cf61 38).toInt = (cf 38).toInt := e67
          replace e68 : (cf61 48).toInt = (cf 48).toInt := e68
          replace e69 : (cf61 46).toInt = (cf 46).toInt := e69
          replace e70 : (cf61 47).toInt = (cf 47).toInt := e70
          replace e71 : (cf61 57).toInt = (cf 57).toInt := e71
          replace e72 : Ann na ma0 ma60 := e72
          have han := e72
          replace e73 : FrC (p0.toInt + 1) hi ma ma60 := e73
          have hfc := hfc.tr e73 (by first | with_reducible rfl | with_reducible assumption | omega) (by first | with_reducible rfl | with_reducible assumption | omega)
          replace e74 : 0 ≤ v63.toInt := e74
          replace e75 : v63.toInt ≤ 4 := e75
          replace e76 : NmJ ta ca na ma60 (cf 33).toInt z57 v63.toInt := e76
          replace e77 : ZTy cf61 (Gk ta ca na ma0 (cf 48).toInt ys nf) na ma60 (p0.toInt + 1) hi z57 v63.toInt := e77
          replace e78 : ZNm cf61 (1 : Int) v63.toInt := e78
          have hty_z57 : ZTe cf61 ta ca na ma0 (cf61 48).toInt ys nf ma60 (p0.toInt + 1) hi z57 0 := ZTe.to (t := 0) (ZTy.num e77 e78) (fun q => by first | with_reducible rfl | with_reducible assumption | omega) (by first | with_reducible rfl | with_reducible assumption | omega) (Int.le_refl _) (Int.le_refl _) rfl
          replace hw : pw D A s.heap H locs [wdP cs h r g tf ta pf na ma60 wa cf61 ca ef ea xf xa] := hw
          have lv63 := Int32.le_toInt v63
          have uv63 := Int32.toInt_lt v63
          refine lv_pop S.x S.b d_Mpg_checkReturn_69 rfl ?_
          exact px_vret S hr hlk hAe hw (Nat.le_of_ble_eq_true rfl) (Nat.le_of_ble_eq_true rfl) (⟨ma60, cf61, ca, rfl, (show (cf61 30).toInt = 0 → (cf 30).toInt = 0 from by first | exact hkz_e64 | omega), (show WrV cf61 (tf 6).toInt from hwr), (show (cf61 37).toInt = (cf 37).toInt from by first | exact hkk37_e64 | omega), (show (cf61 38).toInt = (cf 38).toInt from by first | exact e67 | omega), (show (cf61 43).toInt = (cf 43).toInt from by first | exact hkk43_e64 | omega), (show (cf61 44).toInt = (cf 44).toInt from by first | exact hkk44_e64 | omega), (show (cf61 45).toInt = (cf 45).toInt from by first | exact hkk45_e64 | omega), (show (cf61 46).toInt = (cf 46).toInt from by first | exact e69 | omega), (show (cf61 47).toInt = (cf 47).toInt from by first | exact e70 | omega), (show (cf61 41).toInt = (cf 41).toInt from by first | exact hkk41_e64 | omega), (show (cf61 55).toInt = (cf 55).toInt from by first | exact hkk55_e64 | omega), (show (cf61 59).toInt = (cf 59).toInt from by first | exact hkk59_e64 | omega), (show (cf61 33).toInt = (cf 33).toInt from by first | exact e66 | omega), (show (cf 48).toInt ≤ (cf61 48).toInt from by first | exact oz_f9b42d1b56 e68 | omega), (show 6 * (cf61 48).toInt ≤ 6 * (cf 48).toInt + (w) from by first | exact oz_092373726c g5 e68 | omega), (show (cf 54).toInt ≤ (cf61 54).toInt from by first | exact oz_f9b42d1b56 hkk54_e64 | omega), (show (cf 42).toInt ≤ (cf61 42).toInt from by first | exact oz_f9b42d1b56 hkk42_e64 | omega), (show (cf61 54).toInt - (cf 54).toInt ≤ 4 * ((cf61 42).toInt - (cf 42).toInt) from by first | exact oz_7f23dbcb5f hkk42_e64 hkk54_e64 | omega), (show (cf61 54).toInt - (cf 54).toInt ≤ 4096 * ((cf61 48).toInt - (cf 48).toInt) from by first | exact oz_a2be20d97d e68 hkk54_e64 | omega), (show (cf61 42).toInt - (cf 42).toInt ≤ 4096 * ((cf61 48).toInt - (cf 48).toInt) from by first | exact oz_a2be20d97d e68 hkk42_e64 | omega), (show KnT (tf 6).toInt ca (cf61 33).toInt from (KnT.eq hkt (by first | with_reducible rfl | with_reducible assumption | omega))), (show KnS ca (cf61 33).toInt (cf61 48).toInt ys from (KnS.eq hks (by first | with_reducible rfl | with_reducible assumption | omega) (by first | with_reducible rfl | with_reducible assumption | omega))), (show CaG ca ca (cf 33).toInt (cf 48).toInt from (hcg.le (by first | with_reducible rfl | with_reducible assumption | omega) (by first | with_reducible rfl | with_reducible assumption | omega))), (show SyR ca ys (cf61 48).toInt (cf61 54).toInt tx from (SyR.eq hsr (by first | with_reducible rfl | with_reducible assumption | omega) (by first | with_reducible rfl | with_reducible assumption | omega))), (show Ann na ma0 ma60 from han), (show FrC lo hi ma ma60 from hfc), (show ZTe cf61 ta ca na ma0 (cf61 48).toInt ys nf ma60 lo hi p0 (tgv (cf 44).toInt (cf 45).toInt) from (fun zz => by exact tys_33 ⟨by first | with_reducible rfl | with_reducible assumption | omega, by first | with_reducible rfl | with_reducible assumption | omega, by first | with_reducible rfl | with_reducible assumption | omega⟩ tgv_rng (by first | with_reducible rfl | with_reducible assumption | omega) ha_z57 (ZTe.ot hty_z57 (by first | with_reducible rfl | with_reducible assumption | omega) (by first | with_reducible rfl | with_reducible assumption | omega) (by first | with_reducible rfl | with_reducible assumption | omega) (by first | with_reducible rfl | with_reducible assumption | omega) rfl)))⟩) d_Mpg_checkReturn_70
      · exact absurd c54 (by decide)
  · have nc2 : z1.toInt = (2 : Int) := (i_eq (x := z1) (y := 2)).mp c2
    refine lv_iconst (v := 1) S.x S.b d_Mpg_checkReturn_13 (by decide) ?_
    refine lv_goto (tgt := 18) S.x S.b d_Mpg_checkReturn_14 (by decide) ?_
    refine lv_istore_n (lv' := [(2, .int 1), (0, .ref h), (1, .int p0)]) S.x S.b d_Mpg_checkReturn_18 rfl hl (by decide) rfl (fun ls hl => ?_)
    refine lv_iload_n S.x S.b d_Mpg_checkReturn_19 rfl (lv_at hl 0 rfl) ?_
    refine lv_aload_n S.x S.b d_Mpg_checkReturn_20 rfl (lv_at hl 1 rfl) ?_
    refine px_get S k_Mpg hT hw 0 0 17 (v := .ref (r 17)) rfl rfl rfl (by decide) m10_1 d_Mpg_checkReturn_21 ?_
    refine lv_iload_n S.x S.b d_Mpg_checkReturn_24 rfl (lv_at hl 2 rfl) ?_
    refine px_iald S hT hw 0 13 (n := 2100) (f := (na 17)) rfl gp_17 (x := p0) (vp_in_iff.mpr (by first | exact oz_a7e05de1cd hsr0.2.2.1 hsr0.2.1 g1 g2 | (constructor <;> omega))) d_Mpg_checkReturn_25 ?_
    refine lv_topi (fun z79 ez79 => ?_)
    have lz79 := Int32.le_toInt z79
    have uz79 := Int32.toInt_lt z79
    have ha_z79 : z79 = na 17 p0.toNatClampNeg := ez79; have hn_z79 : z79.toInt = (na 17 p0.toNatClampNeg).toInt := (by rw [ha_z79])
    refine lv_if_lt (tgt := 33) S.x S.b d_Mpg_checkReturn_26 (by decide) (fun c80 => ?_) (fun c80 => ?_)
    · have nc80 : z79.toInt < (0 : Int) := (i_lt (x := z79) (y := 0)).mp c80
      refine lv_iconst (v := 0) S.x S.b d_Mpg_checkReturn_33 (by decide) ?_
      refine lv_icmp_ne (tgt := 49) S.x S.b d_Mpg_checkReturn_34 (by decide) (fun c81 => ?_) (fun c81 => ?_)
      ·
        refine lv_aload_n S.x S.b d_Mpg_checkReturn_49 rfl (lv_at hl 1 rfl) ?_
        refine px_get S k_Mpg hT hw 0 0 17 (v := .ref (r 17)) rfl rfl rfl (by decide) m10_1 d_Mpg_checkReturn_50 ?_
        refine lv_iload_n S.x S.b d_Mpg_checkReturn_53 rfl (lv_at hl 2 rfl) ?_
        refine px_iald S hT hw 0 13 (n := 2100) (f := (na 17)) rfl gp_17 (x := p0) (vp_in_iff.mpr (by first | exact oz_a7e05de1cd hsr0.2.2.1 hsr0.2.1 g1 g2 | (constructor <;> omega))) d_Mpg_checkReturn_54 ?_
        refine lv_topi (fun z82 ez82 => ?_)
        have lz82 := Int32.le_toInt z82
        have uz82 := Int32.toInt_lt z82
        have ha_z82 : z82 = na 17 p0.toNatClampNeg := ez82; have hn_z82 : z82.toInt = (na 17 p0.toNatClampNeg).toInt := (by rw [ha_z82])
        refine lv_if_lt (tgt := 70) S.x S.b d_Mpg_checkReturn_55 (by decide) (fun c83 => ?_) (fun c83 => ?_)
        · have nc83 : z82.toInt < (0 : Int) := (i_lt (x := z82) (y := 0)).mp c83
          exact px_vret S hr hlk hAe hw (Nat.le_of_ble_eq_true rfl) (Nat.le_of_ble_eq_true rfl) (⟨ma, cf, ca, rfl, (show (cf 30).toInt = 0 → (cf 30).toInt = 0 from by first | exact fun q9 => q9 | omega), (show WrV cf (tf 6).toInt from hwr), (show (cf 37).toInt = (cf 37).toInt from rfl), (show (cf 38).toInt = (cf 38).toInt from rfl), (show (cf 43).toInt = (cf 43).toInt from rfl), (show (cf 44).toInt = (cf 44).toInt from rfl), (show (cf 45).toInt = (cf 45).toInt from rfl), (show (cf 46).toInt = (cf 46).toInt from rfl), (show (cf 47).toInt = (cf 47).toInt from rfl), (show (cf 41).toInt = (cf 41).toInt from rfl), (show (cf 55).toInt = (cf 55).toInt from rfl), (show (cf 59).toInt = (cf 59).toInt from rfl), (show (cf 33).toInt = (cf 33).toInt from rfl), (show (cf 48).toInt ≤ (cf 48).toInt from by first | exact oz_1cb5f934a5 | omega), (show 6 * (cf 48).toInt ≤ 6 * (cf 48).toInt + (w) from by first | exact oz_5a408f7934 g5 | omega), (show (cf 54).toInt ≤ (cf 54).toInt from by first | exact oz_1cb5f934a5 | omega), (show (cf 42).toInt ≤ (cf 42).toInt from by first | exact oz_1cb5f934a5 | omega), (show (cf 54).toInt - (cf 54).toInt ≤ 4 * ((cf 42).toInt - (cf 42).toInt) from by first | exact oz_a1153f1990 | omega), (show (cf 54).toInt - (cf 54).toInt ≤ 4096 * ((cf 48).toInt - (cf 48).toInt) from by first | exact oz_f4137ca117 | omega), (show (cf 42).toInt - (cf 42).toInt ≤ 4096 * ((cf 48).toInt - (cf 48).toInt) from by first | exact oz_f4137ca117 | omega), (show KnT (tf 6).toInt ca (cf 33).toInt from (KnT.eq hkt (by first | with_reducible rfl | with_reducible assumption | omega))), (show KnS ca (cf 33).toInt (cf 48).toInt ys from (KnS.eq hks (by first | with_reducible rfl | with_reducible assumption | omega) (by first | with_reducible rfl | with_reducible assumption | omega))), (show CaG ca ca (cf 33).toInt (cf 48).toInt from (hcg.le (by first | with_reducible rfl | with_reducible assumption | omega) (by first | with_reducible rfl | with_reducible assumption | omega))), (show SyR ca ys (cf 48).toInt (cf 54).toInt tx from (SyR.eq hsr (by first | with_reducible rfl | with_reducible assumption | omega) (by first | with_reducible rfl | with_reducible assumption | omega))), (show Ann na ma0 ma from han), (show FrC lo hi ma ma from hfc), (show ZTe cf ta ca na ma0 (cf 48).toInt ys nf ma lo hi p0 (tgv (cf 44).toInt (cf 45).toInt) from (fun zz => by exact tys_33 ⟨by first | with_reducible rfl | with_reducible assumption | omega, by first | with_reducible rfl | with_reducible assumption | omega, by first | with_reducible rfl | with_reducible assumption | omega⟩ tgv_rng (by first | with_reducible rfl | with_reducible assumption | omega) ha_z82 (Or.inl (by first | with_reducible rfl | with_reducible assumption | omega))))⟩) d_Mpg_checkReturn_70
        · have nc83 : ¬ z82.toInt < (0 : Int) := mt (i_lt (x := z82) (y := 0)).mpr c83
          refine lv_aload_n S.x S.b d_Mpg_checkReturn_58 rfl (lv_at hl 1 rfl) ?_
          refine lv_aload_n S.x S.b d_Mpg_checkReturn_59 rfl (lv_at hl 1 rfl) ?_
          refine px_get S k_Mpg hT hw 0 0 17 (v := .ref (r 17)) rfl rfl rfl (by decide) m10_1 d_Mpg_checkReturn_60 ?_
          refine lv_iload_n S.x S.b d_Mpg_checkReturn_63 rfl (lv_at hl 2 rfl) ?_
          refine px_iald S hT hw 0 13 (n := 2100) (f := (na 17)) rfl gp_17 (x := p0) (vp_in_iff.mpr (by first | exact oz_a7e05de1cd hsr0.2.2.1 hsr0.2.1 g1 g2 | (constructor <;> omega))) d_Mpg_checkReturn_64 ?_
          refine lv_topi (fun z84 ez84 => ?_)
          have lz84 := Int32.le_toInt z84
          have uz84 := Int32.toInt_lt z84
          have ha_z84 : z84 = na 17 p0.toNatClampNeg := ez84; have hn_z84 : z84.toInt = (na 17 p0.toNatClampNeg).toInt := (by rw [ha_z84]); have hev_z84 : ErV ta (tf 6).toInt na ma0 d (p0.toInt + 1) hi (w - 2) z84 := (by rw [ha_z84]; exact hoc.get (by first | with_reducible rfl | with_reducible assumption | omega)); obtain ⟨hec_z84, h20_z84, hw_z84⟩ := hev_z84.ec; have hrg_z84 := EcV.rng hec_z84
          refine lv_iconst (v := 1) S.x S.b d_Mpg_checkReturn_65 (by decide) ?_
          refine px_calli (pr := []) (px_runV (As := [.int z84, .int 1]) (rest := []) S (c_S_check l D cs ma0 ys (cf 48).toInt nf (cf 33).toInt d (p0.toInt + 1) hi h r g tf ta pf na wa ca ef ea xf xa ma cf z84 1  (show 0 ≤ (p0.toInt + 1) from by first | exact oz_c12c169b81 hsr0.2.2.1 | omega) (show hi ≤ (pf 13).toInt from by first | exact g1 | omega) (show (pf 13).toInt ≤ 2100 from by first | exact g2 | omega) (show (tf 6).toInt ≤ 2049 from by first | exact g3 | omega) (show (cf 33).toInt = (cf 33).toInt from rfl) (show 0 ≤ (cf 33).toInt from by first | exact g4 | omega) (show (cf 48).toInt = (cf 48).toInt from rfl) (show (cf 38).toInt = nf from by first | exact g9 | omega) (show 0 ≤ nf from by first | exact g10 | omega) (show 0 ≤ (1 : Int) from by first | decide | omega) (show (1 : Int) ≤ 1 from by first | decide | omega) htk (FsI.le (N' := (pf 13).toInt) hfs (by first | with_reducible rfl | with_reducible assumption | omega)) hwr (KnT.eq hkt (by first | with_reducible rfl | with_reducible assumption | omega)) (FnT.eq hft (by first | with_reducible rfl | with_reducible assumption | omega)) (KnS.eq hks (by first | with_reducible rfl | with_reducible assumption | omega) (by first | with_reducible rfl | with_reducible assumption | omega)) hfp han hec_z84 _) hT (pr := []) (pcs := [wdP cs h r g tf ta pf na ma wa cf ca ef ea xf xa]) hw (oX_call (P := (fun A U H => (oP A g U H))) (pr := []) oG_P hw hA hP) (px_recv hT hw 0 0 rfl rfl rfl) m12_217 m12_214 m12_216 ms_12_7 m1_21 q_Mpg_check ⟨show (4 * d + 12) + 1 ≤ (6 * d + 27) from by first | with_reducible rfl | with_reducible assumption | omega, show 8 + (8 + 11) + (200 * d + 420) ≤ (260 * d + 940) from by first | with_reducible rfl | with_reducible assumption | omega⟩ hl.1 rfl (Nat.le_of_ble_eq_true rfl) d_Mpg_checkReturn_66 ⟨Nat.le_of_ble_eq_true rfl, Nat.le_of_ble_eq_true rfl⟩) hw hA (fun v90 p89 H locs hp89 hw => ?_)
          obtain ⟨ma87, cf88, rfl, e91, e92, e93, e94, e95, e96, e97, e98, e99, e100, e101, e102, e103, e104, e105⟩ := hp89
          replace e91 : KpE cf cf88 := e91
          have hkz_e91 := e91.2
          have hkk37_e91 : (cf88 37).toInt = (cf 37).toInt := (by rw [e91.1 37 (by decide) (by decide) (by decide) (by decide) (by decide)] <;> rfl)
          have hkk43_e91 : (cf88 43).toInt = (cf 43).toInt := (by rw [e91.1 43 (by decide) (by decide) (by decide) (by decide) (by decide)] <;> rfl)
          have hkk44_e91 : (cf88 44).toInt = (cf 44).toInt := (by rw [e91.1 44 (by decide) (by decide) (by decide) (by decide) (by decide)] <;> rfl)
          have hkk45_e91 : (cf88 45).toInt = (cf 45).toInt := (by rw [e91.1 45 (by decide) (by decide) (by decide) (by decide) (by decide)] <;> rfl)
          have hkk41_e91 : (cf88 41).toInt = (cf 41).toInt := (by rw [e91.1 41 (by decide) (by decide) (by decide) (by decide) (by decide)] <;> rfl)
          have hkk55_e91 : (cf88 55).toInt = (cf 55).toInt := (by rw [e91.1 55 (by decide) (by decide) (by decide) (by decide) (by decide)] <;> rfl)
          have hkk59_e91 : (cf88 59).toInt = (cf 59).toInt := (by rw [e91.1 59 (by decide) (by decide) (by decide) (by decide) (by decide)] <;> rfl)
          have hkk42_e91 : (cf88 42).toInt = (cf 42).toInt := (by rw [e91.1 42 (by decide) (by decide) (by decide) (by decide) (by decide)] <;> rfl)
          have hkk54_e91 : (cf88 54).toInt = (cf 54).toInt := (by rw [e91.1 54 (by decide) (by decide) (by decide) (by decide) (by decide)] <;> rfl)
          have hkk58_e91 : (cf88 58).toInt = (cf 58).toInt := (by rw [e91.1 58 (by decide) (by decide) (by decide) (by decide) (by decide)] <;> rfl)
          replace e92 : WrV cf88 (tf 6).toInt := e92
          have hwr := e92
          have hw0_e92 := hwr.1
          replace e93 : (cf88 33).toInt = (cf 33).toInt := e93
          replace e94 : (cf88 38).toInt = (cf 38).toInt := e94
          replace e95 : (cf88 48).toInt = (cf 48).toInt := e95
          replace e96 : (cf88 46).toInt = (cf 46).toInt := e96
          replace e97 : (cf88 47).toInt = (cf 47).toInt := e97
          replace e98 : (cf88 57).toInt = (cf 57).toInt := e98
          replace e99 : Ann na ma0 ma87 := e99
          have han := e99
          replace e100 : FrC (p0.toInt + 1) hi ma ma87 := e100
          have hfc := hfc.tr e100 (by first | with_reducible rfl | with_reducible assumption | omega) (by first | with_reducible rfl | with_reducible assumption | omega)
          replace e101 : 0 ≤ v90.toInt := e101
          replace e102 : v90.toInt ≤ 4 := e102
          replace e103 : NmJ ta ca na ma87 (cf 33).toInt z84 v90.toInt := e103
          replace e104 : ZTy cf88 (Gk ta ca na ma0 (cf 48).toInt ys nf) na ma87 (p0.toInt + 1) hi z84 v90.toInt := e104
          replace e105 : ZNm cf88 (1 : Int) v90.toInt := e105
          have hty_z84 : ZTe cf88 ta ca na ma0 (cf88 48).toInt ys nf ma87 (p0.toInt + 1) hi z84 0 := ZTe.to (t := 0) (ZTy.num e104 e105) (fun q => by first | with_reducible rfl | with_reducible assumption | omega) (by first | with_reducible rfl | with_reducible assumption | omega) (Int.le_refl _) (Int.le_refl _) rfl
          replace hw : pw D A s.heap H locs [wdP cs h r g tf ta pf na ma87 wa cf88 ca ef ea xf xa] := hw
          have lv90 := Int32.le_toInt v90
          have uv90 := Int32.toInt_lt v90
          refine lv_pop S.x S.b d_Mpg_checkReturn_69 rfl ?_
          exact px_vret S hr hlk hAe hw (Nat.le_of_ble_eq_true rfl) (Nat.le_of_ble_eq_true rfl) (⟨ma87, cf88, ca, rfl, (show (cf88 30).toInt = 0 → (cf 30).toInt = 0 from by first | exact hkz_e91 | omega), (show WrV cf88 (tf 6).toInt from hwr), (show (cf88 37).toInt = (cf 37).toInt from by first | exact hkk37_e91 | omega), (show (cf88 38).toInt = (cf 38).toInt from by first | exact e94 | omega), (show (cf88 43).toInt = (cf 43).toInt from by first | exact hkk43_e91 | omega), (show (cf88 44).toInt = (cf 44).toInt from by first | exact hkk44_e91 | omega), (show (cf88 45).toInt = (cf 45).toInt from by first | exact hkk45_e91 | omega), (show (cf88 46).toInt = (cf 46).toInt from by first | exact e96 | omega), (show (cf88 47).toInt = (cf 47).toInt from by first | exact e97 | omega), (show (cf88 41).toInt = (cf 41).toInt from by first | exact hkk41_e91 | omega), (show (cf88 55).toInt = (cf 55).toInt from by first | exact hkk55_e91 | omega), (show (cf88 59).toInt = (cf 59).toInt from by first | exact hkk59_e91 | omega), (show (cf88 33).toInt = (cf 33).toInt from by first | exact e93 | omega), (show (cf 48).toInt ≤ (cf88 48).toInt from by first | exact oz_f9b42d1b56 e95 | omega), (show 6 * (cf88 48).toInt ≤ 6 * (cf 48).toInt + (w) from by first | exact oz_092373726c g5 e95 | omega), (show (cf 54).toInt ≤ (cf88 54).toInt from by first | exact oz_f9b42d1b56 hkk54_e91 | omega), (show (cf 42).toInt ≤ (cf88 42).toInt from by first | exact oz_f9b42d1b56 hkk42_e91 | omega), (show (cf88 54).toInt - (cf 54).toInt ≤ 4 * ((cf88 42).toInt - (cf 42).toInt) from by first | exact oz_7f23dbcb5f hkk42_e91 hkk54_e91 | omega), (show (cf88 54).toInt - (cf 54).toInt ≤ 4096 * ((cf88 48).toInt - (cf 48).toInt) from by first | exact oz_a2be20d97d e95 hkk54_e91 | omega), (show (cf88 42).toInt - (cf 42).toInt ≤ 4096 * ((cf88 48).toInt - (cf 48).toInt) from by first | exact oz_a2be20d97d e95 hkk42_e91 | omega), (show KnT (tf 6).toInt ca (cf88 33).toInt from (KnT.eq hkt (by first | with_reducible rfl | with_reducible assumption | omega))), (show KnS ca (cf88 33).toInt (cf88 48).toInt ys from (KnS.eq hks (by first | with_reducible rfl | with_reducible assumption | omega) (by first | with_reducible rfl | with_reducible assumption | omega))), (show CaG ca ca (cf 33).toInt (cf 48).toInt from (hcg.le (by first | with_reducible rfl | with_reducible assumption | omega) (by first | with_reducible rfl | with_reducible assumption | omega))), (show SyR ca ys (cf88 48).toInt (cf88 54).toInt tx from (SyR.eq hsr (by first | with_reducible rfl | with_reducible assumption | omega) (by first | with_reducible rfl | with_reducible assumption | omega))), (show Ann na ma0 ma87 from han), (show FrC lo hi ma ma87 from hfc), (show ZTe cf88 ta ca na ma0 (cf88 48).toInt ys nf ma87 lo hi p0 (tgv (cf 44).toInt (cf 45).toInt) from (fun zz => by exact tys_33 ⟨by first | with_reducible rfl | with_reducible assumption | omega, by first | with_reducible rfl | with_reducible assumption | omega, by first | with_reducible rfl | with_reducible assumption | omega⟩ tgv_rng (by first | with_reducible rfl | with_reducible assumption | omega) ha_z84 (ZTe.ot hty_z84 (by first | with_reducible rfl | with_reducible assumption | omega) (by first | with_reducible rfl | with_reducible assumption | omega) (by first | with_reducible rfl | with_reducible assumption | omega) (by first | with_reducible rfl | with_reducible assumption | omega) rfl)))⟩) d_Mpg_checkReturn_70
      · exact absurd c81 (by decide)
    · have nc80 : ¬ z79.toInt < (0 : Int) := mt (i_lt (x := z79) (y := 0)).mpr c80
      refine lv_iconst (v := 1) S.x S.b d_Mpg_checkReturn_29 (by decide) ?_
      refine lv_goto (tgt := 34) S.x S.b d_Mpg_checkReturn_30 (by decide) ?_
      refine lv_icmp_ne (tgt := 49) S.x S.b d_Mpg_checkReturn_34 (by decide) (fun c106 => ?_) (fun c106 => ?_)
      · exact absurd c106 (by decide)
      ·
        refine lv_aload_n S.x S.b d_Mpg_checkReturn_37 rfl (lv_at hl 1 rfl) ?_
        refine lv_bipush (v := 11) S.x S.b d_Mpg_checkReturn_38 (by decide) ?_
        refine lv_aload_n S.x S.b d_Mpg_checkReturn_40 rfl (lv_at hl 1 rfl) ?_
        refine px_get S k_Mpg hT hw 0 0 15 (v := .ref (r 15)) rfl rfl rfl (by decide) m9_239 d_Mpg_checkReturn_41 ?_
        refine lv_iload_n S.x S.b d_Mpg_checkReturn_44 rfl (lv_at hl 2 rfl) ?_
        refine px_iald S hT hw 0 11 (n := 2100) (f := (na 15)) rfl gp_15 (x := p0) (vp_in_iff.mpr (by first | exact oz_a7e05de1cd hsr0.2.2.1 hsr0.2.1 g1 g2 | (constructor <;> omega))) d_Mpg_checkReturn_45 ?_
        refine lv_topi (fun z107 ez107 => ?_)
        have lz107 := Int32.le_toInt z107
        have uz107 := Int32.toInt_lt z107
        have rz107 := ScV.tok hsc_p0 ez107
        refine px_callv (pr := []) (px_runV (As := [.int 11, .int z107]) (rest := []) S (c_mp_bad l D cs h r g tf ta pf na ma wa ca ef ea xf xa cf 11 z107  (show 1 ≤ (11 : Int) from by first | decide | omega) (show 0 ≤ z107.toInt from by first | exact rz107.1 | omega) (show z107.toInt < (tf 6).toInt from by first | exact oz_7fe81129bf rz107.2 | omega) htk hwr _) hT (pr := []) (pcs := [wdP cs h r g tf ta pf na ma wa cf ca ef ea xf xa]) hw px_X.tt (px_recv hT hw 0 0 rfl rfl rfl) m12_173 m12_170 m12_172 ms_11_12 m1_21 q_Mpg_bad ⟨show 0 + 1 ≤ (6 * d + 27) from by first | with_reducible rfl | with_reducible assumption | omega, show 8 + (3 + 11) + 0 ≤ (260 * d + 940) from by first | with_reducible rfl | with_reducible assumption | omega⟩ hl.1 rfl (Nat.le_of_ble_eq_true rfl) d_Mpg_checkReturn_46 ⟨Nat.le_of_ble_eq_true rfl, Nat.le_of_ble_eq_true rfl⟩) hw hA (fun p110 H locs hp110 hw => ?_)
        obtain ⟨cf109, rfl, e112, e113, e114, e115, e116, e117, e118, e119, e120, e121, e122, e123, e124, e125, e126, e127, e128, e129, e130⟩ := hp110
        replace e112 : KpE cf cf109 := e112
        have hkz_e112 := e112.2
        replace e113 : WrV cf109 (tf 6).toInt := e113
        have hwr := e113
        have hw0_e113 := hwr.1
        replace e114 : 1 ≤ (cf109 30).toInt := e114
        replace e115 : (cf109 33).toInt = (cf 33).toInt := e115
        replace e116 : (cf109 38).toInt = (cf 38).toInt := e116
        replace e117 : (cf109 48).toInt = (cf 48).toInt := e117
        replace e118 : (cf109 46).toInt = (cf 46).toInt := e118
        replace e119 : (cf109 47).toInt = (cf 47).toInt := e119
        replace e120 : (cf109 57).toInt = (cf 57).toInt := e120
        replace e121 : (cf109 37).toInt = (cf 37).toInt := e121
        replace e122 : (cf109 42).toInt = (cf 42).toInt := e122
        replace e123 : (cf109 43).toInt = (cf 43).toInt := e123
        replace e124 : (cf109 44).toInt = (cf 44).toInt := e124
        replace e125 : (cf109 45).toInt = (cf 45).toInt := e125
        replace e126 : (cf109 54).toInt = (cf 54).toInt := e126
        replace e127 : (cf109 55).toInt = (cf 55).toInt := e127
        replace e128 : (cf109 58).toInt = (cf 58).toInt := e128
        replace e129 : (cf109 59).toInt = (cf 59).toInt := e129
        replace e130 : (cf109 41).toInt = (cf 41).toInt := e130
        replace hw : pw D A s.heap H locs [wdP cs h r g tf ta pf na ma wa cf109 ca ef ea xf xa] := hw
        refine lv_aload_n S.x S.b d_Mpg_checkReturn_49 rfl (lv_at hl 1 rfl) ?_
        refine px_get S k_Mpg hT hw 0 0 17 (v := .ref (r 17)) rfl rfl rfl (by decide) m10_1 d_Mpg_checkReturn_50 ?_
        refine lv_iload_n S.x S.b d_Mpg_checkReturn_53 rfl (lv_at hl 2 rfl) ?_
        refine px_iald S hT hw 0 13 (n := 2100) (f := (na 17)) rfl gp_17 (x := p0) (vp_in_iff.mpr (by first | exact oz_a7e05de1cd hsr0.2.2.1 hsr0.2.1 g1 g2 | (constructor <;> omega))) d_Mpg_checkReturn_54 ?_
        refine lv_topi (fun z131 ez131 => ?_)
        have lz131 := Int32.le_toInt z131
        have uz131 := Int32.toInt_lt z131
        have ha_z131 : z131 = na 17 p0.toNatClampNeg := ez131; have hn_z131 : z131.toInt = (na 17 p0.toNatClampNeg).toInt := (by rw [ha_z131])
        refine lv_if_lt (tgt := 70) S.x S.b d_Mpg_checkReturn_55 (by decide) (fun c132 => ?_) (fun c132 => ?_)
        · have nc132 : z131.toInt < (0 : Int) := (i_lt (x := z131) (y := 0)).mp c132
          exact px_vret S hr hlk hAe hw (Nat.le_of_ble_eq_true rfl) (Nat.le_of_ble_eq_true rfl) (⟨ma, cf109, ca, rfl, (show (cf109 30).toInt = 0 → (cf 30).toInt = 0 from by first | exact hkz_e112 | omega), (show WrV cf109 (tf 6).toInt from hwr), (show (cf109 37).toInt = (cf 37).toInt from by first | exact e121 | omega), (show (cf109 38).toInt = (cf 38).toInt from by first | exact e116 | omega), (show (cf109 43).toInt = (cf 43).toInt from by first | exact e123 | omega), (show (cf109 44).toInt = (cf 44).toInt from by first | exact e124 | omega), (show (cf109 45).toInt = (cf 45).toInt from by first | exact e125 | omega), (show (cf109 46).toInt = (cf 46).toInt from by first | exact e118 | omega), (show (cf109 47).toInt = (cf 47).toInt from by first | exact e119 | omega), (show (cf109 41).toInt = (cf 41).toInt from by first | exact e130 | omega), (show (cf109 55).toInt = (cf 55).toInt from by first | exact e127 | omega), (show (cf109 59).toInt = (cf 59).toInt from by first | exact e129 | omega), (show (cf109 33).toInt = (cf 33).toInt from by first | exact e115 | omega), (show (cf 48).toInt ≤ (cf109 48).toInt from by first | exact oz_f9b42d1b56 e117 | omega), (show 6 * (cf109 48).toInt ≤ 6 * (cf 48).toInt + (w) from by first | exact oz_092373726c g5 e117 | omega), (show (cf 54).toInt ≤ (cf109 54).toInt from by first | exact oz_f9b42d1b56 e126 | omega), (show (cf 42).toInt ≤ (cf109 42).toInt from by first | exact oz_f9b42d1b56 e122 | omega), (show (cf109 54).toInt - (cf 54).toInt ≤ 4 * ((cf109 42).toInt - (cf 42).toInt) from by first | exact oz_7f23dbcb5f e122 e126 | omega), (show (cf109 54).toInt - (cf 54).toInt ≤ 4096 * ((cf109 48).toInt - (cf 48).toInt) from by first | exact oz_a2be20d97d e117 e126 | omega), (show (cf109 42).toInt - (cf 42).toInt ≤ 4096 * ((cf109 48).toInt - (cf 48).toInt) from by first | exact oz_a2be20d97d e117 e122 | omega), (show KnT (tf 6).toInt ca (cf109 33).toInt from (KnT.eq hkt (by first | with_reducible rfl | with_reducible assumption | omega))), (show KnS ca (cf109 33).toInt (cf109 48).toInt ys from (KnS.eq hks (by first | with_reducible rfl | with_reducible assumption | omega) (by first | with_reducible rfl | with_reducible assumption | omega))), (show CaG ca ca (cf 33).toInt (cf 48).toInt from (hcg.le (by first | with_reducible rfl | with_reducible assumption | omega) (by first | with_reducible rfl | with_reducible assumption | omega))), (show SyR ca ys (cf109 48).toInt (cf109 54).toInt tx from (SyR.eq hsr (by first | with_reducible rfl | with_reducible assumption | omega) (by first | with_reducible rfl | with_reducible assumption | omega))), (show Ann na ma0 ma from han), (show FrC lo hi ma ma from hfc), (show ZTe cf109 ta ca na ma0 (cf109 48).toInt ys nf ma lo hi p0 (tgv (cf 44).toInt (cf 45).toInt) from (zr_no (by first | with_reducible rfl | with_reducible assumption | omega)))⟩) d_Mpg_checkReturn_70
        · have nc132 : ¬ z131.toInt < (0 : Int) := mt (i_lt (x := z131) (y := 0)).mpr c132
          refine lv_aload_n S.x S.b d_Mpg_checkReturn_58 rfl (lv_at hl 1 rfl) ?_
          refine lv_aload_n S.x S.b d_Mpg_checkReturn_59 rfl (lv_at hl 1 rfl) ?_
          refine px_get S k_Mpg hT hw 0 0 17 (v := .ref (r 17)) rfl rfl rfl (by decide) m10_1 d_Mpg_checkReturn_60 ?_
          refine lv_iload_n S.x S.b d_Mpg_checkReturn_63 rfl (lv_at hl 2 rfl) ?_
          refine px_iald S hT hw 0 13 (n := 2100) (f := (na 17)) rfl gp_17 (x := p0) (vp_in_iff.mpr (by first | exact oz_a7e05de1cd hsr0.2.2.1 hsr0.2.1 g1 g2 | (constructor <;> omega))) d_Mpg_checkReturn_64 ?_
          refine lv_topi (fun z133 ez133 => ?_)
          have lz133 := Int32.le_toInt z133
          have uz133 := Int32.toInt_lt z133
          have ha_z133 : z133 = na 17 p0.toNatClampNeg := ez133; have hn_z133 : z133.toInt = (na 17 p0.toNatClampNeg).toInt := (by rw [ha_z133]); have hev_z133 : ErV ta (tf 6).toInt na ma0 d (p0.toInt + 1) hi (w - 2) z133 := (by rw [ha_z133]; exact hoc.get (by first | with_reducible rfl | with_reducible assumption | omega)); obtain ⟨hec_z133, h20_z133, hw_z133⟩ := hev_z133.ec; have hrg_z133 := EcV.rng hec_z133
          refine lv_iconst (v := 1) S.x S.b d_Mpg_checkReturn_65 (by decide) ?_
          refine px_calli (pr := []) (px_runV (As := [.int z133, .int 1]) (rest := []) S (c_S_check l D cs ma0 ys (cf109 48).toInt nf (cf109 33).toInt d (p0.toInt + 1) hi h r g tf ta pf na wa ca ef ea xf xa ma cf109 z133 1  (show 0 ≤ (p0.toInt + 1) from by first | exact oz_c12c169b81 hsr0.2.2.1 | omega) (show hi ≤ (pf 13).toInt from by first | exact g1 | omega) (show (pf 13).toInt ≤ 2100 from by first | exact g2 | omega) (show (tf 6).toInt ≤ 2049 from by first | exact g3 | omega) (show (cf109 33).toInt = (cf109 33).toInt from rfl) (show 0 ≤ (cf109 33).toInt from by first | exact oz_f3ebed1ad0 e115 g4 | omega) (show (cf109 48).toInt = (cf109 48).toInt from rfl) (show (cf109 38).toInt = nf from by first | exact oz_1687f4cc65 g9 e116 | omega) (show 0 ≤ nf from by first | exact g10 | omega) (show 0 ≤ (1 : Int) from by first | decide | omega) (show (1 : Int) ≤ 1 from by first | decide | omega) htk (FsI.le (N' := (pf 13).toInt) hfs (by first | with_reducible rfl | with_reducible assumption | omega)) hwr (KnT.eq hkt (by first | with_reducible rfl | with_reducible assumption | omega)) (FnT.eq hft (by first | with_reducible rfl | with_reducible assumption | omega)) (KnS.eq hks (by first | with_reducible rfl | with_reducible assumption | omega) (by first | with_reducible rfl | with_reducible assumption | omega)) hfp han hec_z133 _) hT (pr := []) (pcs := [wdP cs h r g tf ta pf na ma wa cf109 ca ef ea xf xa]) hw (oX_call (P := (fun A U H => (oP A g U H))) (pr := []) oG_P hw hA hP) (px_recv hT hw 0 0 rfl rfl rfl) m12_217 m12_214 m12_216 ms_12_7 m1_21 q_Mpg_check ⟨show (4 * d + 12) + 1 ≤ (6 * d + 27) from by first | with_reducible rfl | with_reducible assumption | omega, show 8 + (8 + 11) + (200 * d + 420) ≤ (260 * d + 940) from by first | with_reducible rfl | with_reducible assumption | omega⟩ hl.1 rfl (Nat.le_of_ble_eq_true rfl) d_Mpg_checkReturn_66 ⟨Nat.le_of_ble_eq_true rfl, Nat.le_of_ble_eq_true rfl⟩) hw hA (fun v139 p138 H locs hp138 hw => ?_)
          obtain ⟨ma136, cf137, rfl, e140, e141, e142, e143, e144, e145, e146, e147, e148, e149, e150, e151, e152, e153, e154⟩ := hp138
          replace e140 : KpE cf109 cf137 := e140
          have hkz_e140 := e140.2
          have hkk37_e140 : (cf137 37).toInt = (cf109 37).toInt := (by rw [e140.1 37 (by decide) (by decide) (by decide) (by decide) (by decide)] <;> rfl)
          have hkk43_e140 : (cf137 43).toInt = (cf109 43).toInt := (by rw [e140.1 43 (by decide) (by decide) (by decide) (by decide) (by decide)] <;> rfl)
          have hkk44_e140 : (cf137 44).toInt = (cf109 44).toInt := (by rw [e140.1 44 (by decide) (by decide) (by decide) (by decide) (by decide)] <;> rfl)
          have hkk45_e140 : (cf137 45).toInt = (cf109 45).toInt := (by rw [e140.1 45 (by decide) (by decide) (by decide) (by decide) (by decide)] <;> rfl)
          have hkk41_e140 : (cf137 41).toInt = (cf109 41).toInt := (by rw [e140.1 41 (by decide) (by decide) (by decide) (by decide) (by decide)] <;> rfl)
          have hkk55_e140 : (cf137 55).toInt = (cf109 55).toInt := (by rw [e140.1 55 (by decide) (by decide) (by decide) (by decide) (by decide)] <;> rfl)
          have hkk59_e140 : (cf137 59).toInt = (cf109 59).toInt := (by rw [e140.1 59 (by decide) (by decide) (by decide) (by decide) (by decide)] <;> rfl)
          have hkk42_e140 : (cf137 42).toInt = (cf109 42).toInt := (by rw [e140.1 42 (by decide) (by decide) (by decide) (by decide) (by decide)] <;> rfl)
          have hkk54_e140 : (cf137 54).toInt = (cf109 54).toInt := (by rw [e140.1 54 (by decide) (by decide) (by decide) (by decide) (by decide)] <;> rfl)
          have hkk58_e140 : (cf137 58).toInt = (cf109 58).toInt := (by rw [e140.1 58 (by decide) (by decide) (by decide) (by decide) (by decide)] <;> rfl)
          replace e141 : WrV cf137 (tf 6).toInt := e141
          have hwr := e141
          have hw0_e141 := hwr.1
          replace e142 : (cf137 33).toInt = (cf109 33).toInt := e142
          replace e143 : (cf137 38).toInt = (cf109 38).toInt := e143
          replace e144 : (cf137 48).toInt = (cf109 48).toInt := e144
          replace e145 : (cf137 46).toInt = (cf109 46).toInt := e145
          replace e146 : (cf137 47).toInt = (cf109 47).toInt := e146
          replace e147 : (cf137 57).toInt = (cf109 57).toInt := e147
          replace e148 : Ann na ma0 ma136 := e148
          have han := e148
          replace e149 : FrC (p0.toInt + 1) hi ma ma136 := e149
          have hfc := hfc.tr e149 (by first | with_reducible rfl | with_reducible assumption | omega) (by first | with_reducible rfl | with_reducible assumption | omega)
          replace e150 : 0 ≤ v139.toInt := e150
          replace e151 : v139.toInt ≤ 4 := e151
          replace e152 : NmJ ta ca na ma136 (cf109 33).toInt z133 v139.toInt := e152
          replace e153 : ZTy cf137 (Gk ta ca na ma0 (cf109 48).toInt ys nf) na ma136 (p0.toInt + 1) hi z133 v139.toInt := e153
          replace e154 : ZNm cf137 (1 : Int) v139.toInt := e154
          have hty_z133 : ZTe cf137 ta ca na ma0 (cf137 48).toInt ys nf ma136 (p0.toInt + 1) hi z133 0 := ZTe.to (t := 0) (ZTy.num e153 e154) (fun q => by first | with_reducible rfl | with_reducible assumption | omega) (by first | with_reducible rfl | with_reducible assumption | omega) (Int.le_refl _) (Int.le_refl _) rfl
          replace hw : pw D A s.heap H locs [wdP cs h r g tf ta pf na ma136 wa cf137 ca ef ea xf xa] := hw
          have lv139 := Int32.le_toInt v139
          have uv139 := Int32.toInt_lt v139
          refine lv_pop S.x S.b d_Mpg_checkReturn_69 rfl ?_
          exact px_vret S hr hlk hAe hw (Nat.le_of_ble_eq_true rfl) (Nat.le_of_ble_eq_true rfl) (⟨ma136, cf137, ca, rfl, (show (cf137 30).toInt = 0 → (cf 30).toInt = 0 from by first | with_reducible rfl | with_reducible assumption | omega), (show WrV cf137 (tf 6).toInt from hwr), (show (cf137 37).toInt = (cf 37).toInt from by first | exact oz_1687f4cc65 e121 hkk37_e140 | omega), (show (cf137 38).toInt = (cf 38).toInt from by first | exact oz_1687f4cc65 e116 e143 | omega), (show (cf137 43).toInt = (cf 43).toInt from by first | exact oz_1687f4cc65 e123 hkk43_e140 | omega), (show (cf137 44).toInt = (cf 44).toInt from by first | exact oz_1687f4cc65 e124 hkk44_e140 | omega), (show (cf137 45).toInt = (cf 45).toInt from by first | exact oz_1687f4cc65 e125 hkk45_e140 | omega), (show (cf137 46).toInt = (cf 46).toInt from by first | exact oz_1687f4cc65 e118 e145 | omega), (show (cf137 47).toInt = (cf 47).toInt from by first | exact oz_1687f4cc65 e119 e146 | omega), (show (cf137 41).toInt = (cf 41).toInt from by first | exact oz_1687f4cc65 e130 hkk41_e140 | omega), (show (cf137 55).toInt = (cf 55).toInt from by first | exact oz_1687f4cc65 e127 hkk55_e140 | omega), (show (cf137 59).toInt = (cf 59).toInt from by first | exact oz_1687f4cc65 e129 hkk59_e140 | omega), (show (cf137 33).toInt = (cf 33).toInt from by first | exact oz_1687f4cc65 e115 e142 | omega), (show (cf 48).toInt ≤ (cf137 48).toInt from by first | exact oz_d01699e821 e117 e144 | omega), (show 6 * (cf137 48).toInt ≤ 6 * (cf 48).toInt + (w) from by first | exact oz_48fba83842 g5 e117 e144 | omega), (show (cf 54).toInt ≤ (cf137 54).toInt from by first | exact oz_d01699e821 e126 hkk54_e140 | omega), (show (cf 42).toInt ≤ (cf137 42).toInt from by first | exact oz_d01699e821 e122 hkk42_e140 | omega), (show (cf137 54).toInt - (cf 54).toInt ≤ 4 * ((cf137 42).toInt - (cf 42).toInt) from by first | exact oz_609cf4b982 e122 e126 hkk42_e140 hkk54_e140 | omega), (show (cf137 54).toInt - (cf 54).toInt ≤ 4096 * ((cf137 48).toInt - (cf 48).toInt) from by first | exact oz_9a318b6183 e117 e126 e144 hkk54_e140 | omega), (show (cf137 42).toInt - (cf 42).toInt ≤ 4096 * ((cf137 48).toInt - (cf 48).toInt) from by first | exact oz_9a318b6183 e117 e122 e144 hkk42_e140 | omega), (show KnT (tf 6).toInt ca (cf137 33).toInt from (KnT.eq hkt (by first | with_reducible rfl | with_reducible assumption | omega))), (show KnS ca (cf137 33).toInt (cf137 48).toInt ys from (KnS.eq hks (by first | with_reducible rfl | with_reducible assumption | omega) (by first | with_reducible rfl | with_reducible assumption | omega))), (show CaG ca ca (cf 33).toInt (cf 48).toInt from (hcg.le (by first | with_reducible rfl | with_reducible assumption | omega) (by first | with_reducible rfl | with_reducible assumption | omega))), (show SyR ca ys (cf137 48).toInt (cf137 54).toInt tx from (SyR.eq hsr (by first | with_reducible rfl | with_reducible assumption | omega) (by first | with_reducible rfl | with_reducible assumption | omega))), (show Ann na ma0 ma136 from han), (show FrC lo hi ma ma136 from hfc), (show ZTe cf137 ta ca na ma0 (cf137 48).toInt ys nf ma136 lo hi p0 (tgv (cf 44).toInt (cf 45).toInt) from (fun zz => by exact tys_33 ⟨by first | with_reducible rfl | with_reducible assumption | omega, by first | with_reducible rfl | with_reducible assumption | omega, by first | with_reducible rfl | with_reducible assumption | omega⟩ tgv_rng (by first | with_reducible rfl | with_reducible assumption | omega) ha_z133 (ZTe.ot hty_z133 (by first | with_reducible rfl | with_reducible assumption | omega) (by first | with_reducible rfl | with_reducible assumption | omega) (by first | with_reducible rfl | with_reducible assumption | omega) (by first | with_reducible rfl | with_reducible assumption | omega) rfl)))⟩) d_Mpg_checkReturn_70
