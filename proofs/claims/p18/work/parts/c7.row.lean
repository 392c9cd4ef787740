theorem oz_696e2d36cf {n0 : Nat}  : (5 * n0 + 12) + 1 ≤ (5 * n0 + 13) := by omega
theorem oz_1d485573bc {n0 : Nat}  : 8 + (4 + 11) + (200 * n0 + 500) ≤ (200 * n0 + 560) := by omega
theorem oz_340b0db65c {a0 a1 a2 a3 a4 a5 : Int} (h0 : a5 + a1 ≤ a3 + a4) (h1 : (a0) ≤ (a5) + a2) : a0 + (a1 - a2) ≤ a3 + a4 := by omega
theorem oz_c42e39f93b {a0 a1 : Int}  : a0 + a1 ≤ a0 + a1 := by omega
theorem oz_e7852b0d25 {a0 a1 a2 a3 : Int} (h0 : a0 + a3 ≤ a1 + a2 - 6) (h1 : 0 ≤ a3) : a0 ≤ a1 + a2 - 6 := by omega
theorem oz_5c83606361 {a0 a1 a2 a3 : Int} (h0 : a0 ≤ a2) (h1 : a1 = a3 + 1) (h2 : a3 = a2 + 1) : a0 ≤ a1 := by omega
theorem oz_3357465290 {a0 a1 a2 : Int} (h0 : a1 = a0 + 2 * a2) (h1 : 0 ≤ a2) : a0 ≤ a1 := by omega
theorem oz_e736c01dcb {a0 a1 a2 a3 : Int} (h0 : a0 ≤ 2050 + 2 * a1) (h1 : a1 ≤ a2) (h2 : a2 = a3) (h3 : a3 ≤ 200) : a0 ≤ 100000 := by omega
theorem oz_a209f3a9d1 {n0 : Nat}  : 1 + 1 ≤ (2 * n0 + 11) := by omega
theorem oz_4b3295d068 {n0 : Nat}  : 8 + (6 + 11) + 30 ≤ (120 * n0 + 380) := by omega
theorem oz_9a0d252aad {a0 a1 a2 : Int} (h0 : a0 = a1 + 2 * a2) (h1 : 0 ≤ a1) (h2 : 0 ≤ a2) : 0 ≤ a0 := by omega
theorem oz_f325019be4 {a0 a1 a2 a3 : Int} (h0 : a0 = a1 + 1) (h1 : a1 = a2 + 2 * a3) (h2 : 0 ≤ a2) (h3 : 0 ≤ a3) : 0 ≤ a0 := by omega
theorem oz_9a5ba3dcf0 {a0 a1 a2 a3 a4 a5 : Int} (h0 : a3 = a1 + 2 * a4) (h1 : a0 = a5 + 1) (h2 : a2 = a4 + 1) (h3 : a5 = a3 + 1) : a0 = a1 + 2 * a2 := by omega
theorem oz_6e86fc6690 {a0 a1 a2 a3 : Int} (h0 : a0 = a2 + (2 : Int)) (h1 : a1 = a3 + 1) (h2 : a2 ≤ 2050 + 2 * a3) : a0 ≤ 2050 + 2 * a1 := by omega
theorem oz_dec745cd2d {a0 a1 a2 a3 : Int} (h0 : a0 = a2 + (1 : Int)) (h1 : a1 = a3 + 1) (h2 : a2 ≤ 2050 + 2 * a3) : a0 ≤ 2050 + 2 * a1 := by omega
theorem oz_5275fa593a {a0 a1 : Int} (h0 : 6 ≤ a1) : a0 ≤ a0 + a1 - 6 := by omega
theorem oz_319426e3ad {a0 : Int}  : a0 = a0 + 2 * (0 : Int) := by omega
theorem oz_494d4f6c20 {a0 a1 a2 a3 a4 : Int} (h0 : a0 = a1 + (1 : Int)) (h1 : a1 = a2) (h2 : a2 + a3 ≤ a4) (h3 : a4 ≤ 2048) (h4 : 0 ≤ a3) : a0 ≤ 2050 + 2 * (0 : Int) := by omega
theorem oz_510c95ccb6 {a0 a1 : Int} (h0 : a1 = a0) (h1 : a1 = (3 : Int)) : a0 = 3 := by omega
theorem oz_141b3276af {n0 : Nat}  : 0 + 1 ≤ (2 * n0 + 12) := by omega
theorem oz_8e2f644a0a {n0 : Nat}  : 8 + (4 + 11) + 0 ≤ (120 * n0 + 440) := by omega
theorem oz_cdfe3fe465 {a0 a1 a2 a3 a4 a5 : Int} (h0 : a1 ≤ a2) (h1 : a0 = a3 + 1) (h2 : a3 + a2 ≤ a4 + a5) (h3 : a4 + a5 ≤ 7000) : a0 + a1 ≤ 7006 := by omega
theorem oz_528d71b8df {n0 : Nat}  : (2 * n0 + 11) + 1 ≤ (2 * n0 + 12) := by omega
theorem oz_89e2b8658d {n0 : Nat}  : 8 + (7 + 11) + (120 * n0 + 380) ≤ (120 * n0 + 440) := by omega
theorem oz_4824bb6d1f {a0 a1 a2 a3 a4 a5 a6 : Int} (h0 : a5 + a1 ≤ a3 + a4) (h1 : a0 ≤ a6 + a2 - 6) (h2 : a6 = a5 + 1) : a0 + (a1 - a2) ≤ a3 + a4 := by omega
theorem oz_4265495277 {a0 a1 a2 a3 a4 : Int} (h0 : a0 + a2 ≤ a3 + a4) (h1 : a1 ≤ a2) (h2 : a3 + a4 ≤ 7000) : a0 + (a1 - 6) ≤ 7000 := by omega
theorem oz_4ea04c7201 {n0 : Nat}  : (2 * n0 + 10) + 1 ≤ (2 * n0 + 12) := by omega
theorem oz_add2152f82 {n0 : Nat}  : 8 + (8 + 11) + (120 * n0 + 320) ≤ (120 * n0 + 440) := by omega
theorem oz_f23d348090 {a0 a1 a2 a3 a4 a5 : Int} (h0 : a0 ≤ a1 + (a2 - 6)) (h1 : a1 + a3 ≤ a4 + a5) (h2 : a2 ≤ a3) (h3 : a4 + a5 ≤ 7000) : a0 < 7000 := by omega
theorem oz_c90ce7c01d {a0 a1 a2 a3 : Int} (h0 : a0 = a1 + 1) (h1 : a2 ≤ a1) (h2 : a3 ≤ a2) (h3 : 0 ≤ a3) : 0 ≤ a0 := by omega
theorem oz_3de084b5a4 {a0 a1 a2 a3 a4 a5 a6 : Int} (h0 : a0 = a1 + 1) (h1 : a1 ≤ a2 + (a3 - 6)) (h2 : a2 + a4 ≤ a5 + a6) (h3 : a3 ≤ a4) (h4 : a5 + a6 ≤ 7000) : a0 < 7000 := by omega
theorem oz_2c45f33b6c {a0 a1 a2 a3 a4 : Int} (h0 : a0 ≤ a2) (h1 : a1 = a3 + 1) (h2 : a2 ≤ a4) (h3 : a3 = a4 + 1) : a0 ≤ a1 := by omega
theorem oz_389d89356b {a0 a1 a2 a3 a4 a5 a6 a7 : Int} (h0 : a5 + a1 ≤ a3 + a4) (h1 : a6 ≤ a5 + (a2 - 6)) (h2 : a0 = a7 + 1) (h3 : a7 = a6 + 1) : a0 + (a1 - a2) ≤ a3 + a4 := by omega
theorem oz_e5dfe0e4b2 {a0 a1 a2 a3 a4 : Int} (h0 : a0 ≤ a2) (h1 : a1 = a3 + 1) (h2 : a4 = a2 + 1) (h3 : a3 = a4 + 1) : a0 ≤ a1 := by omega
theorem m13_123 : Cond.methodLink "HomeSystemModel$Program" 731 ⟨"HomeSystemModel$Program", "makeStatement", "(I)V"⟩ ∈ AL := AL_13 (List.mem_of_getElem? (i := 123) rfl) rfl
theorem m13_126 : Cond.code ⟨"HomeSystemModel$Program", "makeStatement", "(I)V"⟩ prog_16_method_116_code 4 (Option.none : Option Jvm.ClassFile.FieldType) ∈ AL := AL_13 (List.mem_of_getElem? (i := 126) rfl) rfl
theorem ms_14_12 : Cond.selects "HomeSystemModel$Program" ⟨"HomeSystemModel$Program", "makeStatement", "(I)V"⟩ ⟨"HomeSystemModel$Program", "makeStatement", "(I)V"⟩ ∈ AL := AL_p (q := (⟨"HomeSystemModel$Program", "makeStatement", "(I)V"⟩, 69)) (by unfold lw_privs; exact List.mem_append_right _ (List.mem_append_right _ (List.mem_append_right _ (List.mem_append_right _ (List.mem_append_right _ (List.mem_append_right _ (List.mem_append_right _ (List.mem_append_right _ (List.mem_append_right _ (List.mem_append_right _ (List.mem_append_right _ (List.mem_append_right _ (List.mem_append_right _ (List.mem_append_left _ (List.mem_of_getElem? (i := 12) rfl)))))))))))))))
theorem m13_125 : Cond.instanceMethod ⟨"HomeSystemModel$Program", "makeStatement", "(I)V"⟩ ∈ AL := AL_13 (List.mem_of_getElem? (i := 125) rfl) rfl
theorem m13_111 : Cond.methodLink "HomeSystemModel$Program" 734 ⟨"HomeSystemModel$Program", "fill", "(II)V"⟩ ∈ AL := AL_13 (List.mem_of_getElem? (i := 111) rfl) rfl
theorem m13_114 : Cond.code ⟨"HomeSystemModel$Program", "fill", "(II)V"⟩ prog_16_method_115_code 7 (Option.none : Option Jvm.ClassFile.FieldType) ∈ AL := AL_13 (List.mem_of_getElem? (i := 114) rfl) rfl
theorem ms_14_9 : Cond.selects "HomeSystemModel$Program" ⟨"HomeSystemModel$Program", "fill", "(II)V"⟩ ⟨"HomeSystemModel$Program", "fill", "(II)V"⟩ ∈ AL := AL_p (q := (⟨"HomeSystemModel$Program", "fill", "(II)V"⟩, 69)) (by unfold lw_privs; exact List.mem_append_right _ (List.mem_append_right _ (List.mem_append_right _ (List.mem_append_right _ (List.mem_append_right _ (List.mem_append_right _ (List.mem_append_right _ (List.mem_append_right _ (List.mem_append_right _ (List.mem_append_right _ (List.mem_append_right _ (List.mem_append_right _ (List.mem_append_right _ (List.mem_append_left _ (List.mem_of_getElem? (i := 9) rfl)))))))))))))))
theorem m13_113 : Cond.instanceMethod ⟨"HomeSystemModel$Program", "fill", "(II)V"⟩ ∈ AL := AL_13 (List.mem_of_getElem? (i := 113) rfl) rfl
abbrev b_Mpg_makeStatement : ByteArray := prog_16_method_116_code
def y_Mpg_makeStatement : MethodName := ⟨"HomeSystemModel$Program", "makeStatement", "(I)V"⟩
theorem d_Mpg_makeStatement_0 : decode b_Mpg_makeStatement 0 = .ok (.aload_n 0, 1) := by decide +kernel
theorem d_Mpg_makeStatement_1 : decode b_Mpg_makeStatement 1 = .ok (.getfield 207, 3) := by decide +kernel
theorem d_Mpg_makeStatement_4 : decode b_Mpg_makeStatement 4 = .ok (.iload_n 1, 1) := by decide +kernel
theorem d_Mpg_makeStatement_5 : decode b_Mpg_makeStatement 5 = .ok (.baload, 1) := by decide +kernel
theorem d_Mpg_makeStatement_6 : decode b_Mpg_makeStatement 6 = .ok (.tableswitch 299 20 33 #[70, 299, 83, 105, 114, 192, 192, 192, 200, 208, 208, 221, 239, 257], 70) := by decide +kernel
theorem d_Mpg_makeStatement_76 : decode b_Mpg_makeStatement 76 = .ok (.aload_n 0, 1) := by decide +kernel
theorem d_Mpg_makeStatement_77 : decode b_Mpg_makeStatement 77 = .ok (.aload_n 0, 1) := by decide +kernel
theorem d_Mpg_makeStatement_78 : decode b_Mpg_makeStatement 78 = .ok (.getfield 216, 3) := by decide +kernel
theorem d_Mpg_makeStatement_81 : decode b_Mpg_makeStatement 81 = .ok (.iload_n 1, 1) := by decide +kernel
theorem d_Mpg_makeStatement_82 : decode b_Mpg_makeStatement 82 = .ok (.iaload, 1) := by decide +kernel
theorem d_Mpg_makeStatement_83 : decode b_Mpg_makeStatement 83 = .ok (.invokevirtual 737, 3) := by decide +kernel
theorem d_Mpg_makeStatement_86 : decode b_Mpg_makeStatement 86 = .ok (.goto 219, 3) := by decide +kernel
theorem d_Mpg_makeStatement_89 : decode b_Mpg_makeStatement 89 = .ok (.aload_n 0, 1) := by decide +kernel
theorem d_Mpg_makeStatement_90 : decode b_Mpg_makeStatement 90 = .ok (.aload_n 0, 1) := by decide +kernel
theorem d_Mpg_makeStatement_91 : decode b_Mpg_makeStatement 91 = .ok (.getfield 216, 3) := by decide +kernel
theorem d_Mpg_makeStatement_94 : decode b_Mpg_makeStatement 94 = .ok (.iload_n 1, 1) := by decide +kernel
theorem d_Mpg_makeStatement_95 : decode b_Mpg_makeStatement 95 = .ok (.iaload, 1) := by decide +kernel
theorem d_Mpg_makeStatement_96 : decode b_Mpg_makeStatement 96 = .ok (.invokevirtual 714, 3) := by decide +kernel
theorem d_Mpg_makeStatement_99 : decode b_Mpg_makeStatement 99 = .ok (.aload_n 0, 1) := by decide +kernel
theorem d_Mpg_makeStatement_100 : decode b_Mpg_makeStatement 100 = .ok (.bipush 17, 2) := by decide +kernel
theorem d_Mpg_makeStatement_102 : decode b_Mpg_makeStatement 102 = .ok (.iconst 0, 1) := by decide +kernel
theorem d_Mpg_makeStatement_103 : decode b_Mpg_makeStatement 103 = .ok (.iconst 0, 1) := by decide +kernel
theorem d_Mpg_makeStatement_104 : decode b_Mpg_makeStatement 104 = .ok (.invokevirtual 711, 3) := by decide +kernel
theorem d_Mpg_makeStatement_107 : decode b_Mpg_makeStatement 107 = .ok (.pop, 1) := by decide +kernel
theorem d_Mpg_makeStatement_108 : decode b_Mpg_makeStatement 108 = .ok (.goto 197, 3) := by decide +kernel
theorem d_Mpg_makeStatement_111 : decode b_Mpg_makeStatement 111 = .ok (.aload_n 0, 1) := by decide +kernel
theorem d_Mpg_makeStatement_112 : decode b_Mpg_makeStatement 112 = .ok (.iload_n 1, 1) := by decide +kernel
theorem d_Mpg_makeStatement_113 : decode b_Mpg_makeStatement 113 = .ok (.iconst 0, 1) := by decide +kernel
theorem d_Mpg_makeStatement_114 : decode b_Mpg_makeStatement 114 = .ok (.invokevirtual 740, 3) := by decide +kernel
theorem d_Mpg_makeStatement_117 : decode b_Mpg_makeStatement 117 = .ok (.goto 188, 3) := by decide +kernel
theorem d_Mpg_makeStatement_120 : decode b_Mpg_makeStatement 120 = .ok (.aload_n 0, 1) := by decide +kernel
theorem d_Mpg_makeStatement_121 : decode b_Mpg_makeStatement 121 = .ok (.aload_n 0, 1) := by decide +kernel
theorem d_Mpg_makeStatement_122 : decode b_Mpg_makeStatement 122 = .ok (.getfield 216, 3) := by decide +kernel
theorem d_Mpg_makeStatement_125 : decode b_Mpg_makeStatement 125 = .ok (.iload_n 1, 1) := by decide +kernel
theorem d_Mpg_makeStatement_126 : decode b_Mpg_makeStatement 126 = .ok (.iaload, 1) := by decide +kernel
theorem d_Mpg_makeStatement_127 : decode b_Mpg_makeStatement 127 = .ok (.invokevirtual 714, 3) := by decide +kernel
theorem d_Mpg_makeStatement_130 : decode b_Mpg_makeStatement 130 = .ok (.aload_n 0, 1) := by decide +kernel
theorem d_Mpg_makeStatement_131 : decode b_Mpg_makeStatement 131 = .ok (.bipush 13, 2) := by decide +kernel
theorem d_Mpg_makeStatement_133 : decode b_Mpg_makeStatement 133 = .ok (.iconst 0, 1) := by decide +kernel
theorem d_Mpg_makeStatement_134 : decode b_Mpg_makeStatement 134 = .ok (.iconst 0, 1) := by decide +kernel
theorem d_Mpg_makeStatement_135 : decode b_Mpg_makeStatement 135 = .ok (.invokevirtual 711, 3) := by decide +kernel
theorem d_Mpg_makeStatement_138 : decode b_Mpg_makeStatement 138 = .ok (.istore_n 2, 1) := by decide +kernel
theorem d_Mpg_makeStatement_139 : decode b_Mpg_makeStatement 139 = .ok (.aload_n 0, 1) := by decide +kernel
theorem d_Mpg_makeStatement_140 : decode b_Mpg_makeStatement 140 = .ok (.aload_n 0, 1) := by decide +kernel
theorem d_Mpg_makeStatement_141 : decode b_Mpg_makeStatement 141 = .ok (.getfield 219, 3) := by decide +kernel
theorem d_Mpg_makeStatement_144 : decode b_Mpg_makeStatement 144 = .ok (.iload_n 1, 1) := by decide +kernel
theorem d_Mpg_makeStatement_145 : decode b_Mpg_makeStatement 145 = .ok (.iaload, 1) := by decide +kernel
theorem d_Mpg_makeStatement_146 : decode b_Mpg_makeStatement 146 = .ok (.invokevirtual 731, 3) := by decide +kernel
theorem d_Mpg_makeStatement_149 : decode b_Mpg_makeStatement 149 = .ok (.aload_n 0, 1) := by decide +kernel
theorem d_Mpg_makeStatement_150 : decode b_Mpg_makeStatement 150 = .ok (.getfield 222, 3) := by decide +kernel
theorem d_Mpg_makeStatement_153 : decode b_Mpg_makeStatement 153 = .ok (.iload_n 1, 1) := by decide +kernel
theorem d_Mpg_makeStatement_154 : decode b_Mpg_makeStatement 154 = .ok (.iaload, 1) := by decide +kernel
theorem d_Mpg_makeStatement_155 : decode b_Mpg_makeStatement 155 = .ok (.ifCond .lt 35, 3) := by decide +kernel
theorem d_Mpg_makeStatement_158 : decode b_Mpg_makeStatement 158 = .ok (.aload_n 0, 1) := by decide +kernel
theorem d_Mpg_makeStatement_159 : decode b_Mpg_makeStatement 159 = .ok (.bipush 12, 2) := by decide +kernel
theorem d_Mpg_makeStatement_161 : decode b_Mpg_makeStatement 161 = .ok (.iconst 0, 1) := by decide +kernel
theorem d_Mpg_makeStatement_162 : decode b_Mpg_makeStatement 162 = .ok (.iconst 0, 1) := by decide +kernel
theorem d_Mpg_makeStatement_163 : decode b_Mpg_makeStatement 163 = .ok (.invokevirtual 711, 3) := by decide +kernel
theorem d_Mpg_makeStatement_166 : decode b_Mpg_makeStatement 166 = .ok (.istore_n 3, 1) := by decide +kernel
theorem d_Mpg_makeStatement_167 : decode b_Mpg_makeStatement 167 = .ok (.aload_n 0, 1) := by decide +kernel
theorem d_Mpg_makeStatement_168 : decode b_Mpg_makeStatement 168 = .ok (.iload_n 2, 1) := by decide +kernel
theorem d_Mpg_makeStatement_169 : decode b_Mpg_makeStatement 169 = .ok (.invokevirtual 725, 3) := by decide +kernel
theorem d_Mpg_makeStatement_172 : decode b_Mpg_makeStatement 172 = .ok (.aload_n 0, 1) := by decide +kernel
theorem d_Mpg_makeStatement_173 : decode b_Mpg_makeStatement 173 = .ok (.aload_n 0, 1) := by decide +kernel
theorem d_Mpg_makeStatement_174 : decode b_Mpg_makeStatement 174 = .ok (.getfield 222, 3) := by decide +kernel
theorem d_Mpg_makeStatement_177 : decode b_Mpg_makeStatement 177 = .ok (.iload_n 1, 1) := by decide +kernel
theorem d_Mpg_makeStatement_178 : decode b_Mpg_makeStatement 178 = .ok (.iaload, 1) := by decide +kernel
theorem d_Mpg_makeStatement_179 : decode b_Mpg_makeStatement 179 = .ok (.invokevirtual 731, 3) := by decide +kernel
theorem d_Mpg_makeStatement_182 : decode b_Mpg_makeStatement 182 = .ok (.aload_n 0, 1) := by decide +kernel
theorem d_Mpg_makeStatement_183 : decode b_Mpg_makeStatement 183 = .ok (.iload_n 3, 1) := by decide +kernel
theorem d_Mpg_makeStatement_184 : decode b_Mpg_makeStatement 184 = .ok (.invokevirtual 725, 3) := by decide +kernel
theorem d_Mpg_makeStatement_187 : decode b_Mpg_makeStatement 187 = .ok (.goto 118, 3) := by decide +kernel
theorem d_Mpg_makeStatement_190 : decode b_Mpg_makeStatement 190 = .ok (.aload_n 0, 1) := by decide +kernel
theorem d_Mpg_makeStatement_191 : decode b_Mpg_makeStatement 191 = .ok (.iload_n 2, 1) := by decide +kernel
theorem d_Mpg_makeStatement_192 : decode b_Mpg_makeStatement 192 = .ok (.invokevirtual 725, 3) := by decide +kernel
theorem d_Mpg_makeStatement_195 : decode b_Mpg_makeStatement 195 = .ok (.goto 110, 3) := by decide +kernel
theorem d_Mpg_makeStatement_198 : decode b_Mpg_makeStatement 198 = .ok (.aload_n 0, 1) := by decide +kernel
theorem d_Mpg_makeStatement_199 : decode b_Mpg_makeStatement 199 = .ok (.iload_n 1, 1) := by decide +kernel
theorem d_Mpg_makeStatement_200 : decode b_Mpg_makeStatement 200 = .ok (.invokevirtual 743, 3) := by decide +kernel
theorem d_Mpg_makeStatement_203 : decode b_Mpg_makeStatement 203 = .ok (.goto 102, 3) := by decide +kernel
theorem d_Mpg_makeStatement_206 : decode b_Mpg_makeStatement 206 = .ok (.aload_n 0, 1) := by decide +kernel
theorem d_Mpg_makeStatement_207 : decode b_Mpg_makeStatement 207 = .ok (.iload_n 1, 1) := by decide +kernel
theorem d_Mpg_makeStatement_208 : decode b_Mpg_makeStatement 208 = .ok (.invokevirtual 746, 3) := by decide +kernel
theorem d_Mpg_makeStatement_211 : decode b_Mpg_makeStatement 211 = .ok (.goto 94, 3) := by decide +kernel
theorem d_Mpg_makeStatement_214 : decode b_Mpg_makeStatement 214 = .ok (.aload_n 0, 1) := by decide +kernel
theorem d_Mpg_makeStatement_215 : decode b_Mpg_makeStatement 215 = .ok (.getfield 222, 3) := by decide +kernel
theorem d_Mpg_makeStatement_218 : decode b_Mpg_makeStatement 218 = .ok (.iload_n 1, 1) := by decide +kernel
theorem d_Mpg_makeStatement_219 : decode b_Mpg_makeStatement 219 = .ok (.aload_n 0, 1) := by decide +kernel
theorem d_Mpg_makeStatement_220 : decode b_Mpg_makeStatement 220 = .ok (.getfield 708, 3) := by decide +kernel
theorem d_Mpg_makeStatement_223 : decode b_Mpg_makeStatement 223 = .ok (.iastore, 1) := by decide +kernel
theorem d_Mpg_makeStatement_224 : decode b_Mpg_makeStatement 224 = .ok (.goto 81, 3) := by decide +kernel
theorem d_Mpg_makeStatement_227 : decode b_Mpg_makeStatement 227 = .ok (.aload_n 0, 1) := by decide +kernel
theorem d_Mpg_makeStatement_228 : decode b_Mpg_makeStatement 228 = .ok (.aload_n 0, 1) := by decide +kernel
theorem d_Mpg_makeStatement_229 : decode b_Mpg_makeStatement 229 = .ok (.bipush 12, 2) := by decide +kernel
theorem d_Mpg_makeStatement_231 : decode b_Mpg_makeStatement 231 = .ok (.aload_n 0, 1) := by decide +kernel
theorem d_Mpg_makeStatement_232 : decode b_Mpg_makeStatement 232 = .ok (.getfield 749, 3) := by decide +kernel
theorem d_Mpg_makeStatement_235 : decode b_Mpg_makeStatement 235 = .ok (.iconst 0, 1) := by decide +kernel
theorem d_Mpg_makeStatement_236 : decode b_Mpg_makeStatement 236 = .ok (.invokevirtual 711, 3) := by decide +kernel
theorem d_Mpg_makeStatement_239 : decode b_Mpg_makeStatement 239 = .ok (.putfield 749, 3) := by decide +kernel
theorem d_Mpg_makeStatement_242 : decode b_Mpg_makeStatement 242 = .ok (.goto 63, 3) := by decide +kernel
theorem d_Mpg_makeStatement_245 : decode b_Mpg_makeStatement 245 = .ok (.aload_n 0, 1) := by decide +kernel
theorem d_Mpg_makeStatement_246 : decode b_Mpg_makeStatement 246 = .ok (.aload_n 0, 1) := by decide +kernel
theorem d_Mpg_makeStatement_247 : decode b_Mpg_makeStatement 247 = .ok (.bipush 12, 2) := by decide +kernel
theorem d_Mpg_makeStatement_249 : decode b_Mpg_makeStatement 249 = .ok (.aload_n 0, 1) := by decide +kernel
theorem d_Mpg_makeStatement_250 : decode b_Mpg_makeStatement 250 = .ok (.getfield 752, 3) := by decide +kernel
theorem d_Mpg_makeStatement_253 : decode b_Mpg_makeStatement 253 = .ok (.iconst 0, 1) := by decide +kernel
theorem d_Mpg_makeStatement_254 : decode b_Mpg_makeStatement 254 = .ok (.invokevirtual 711, 3) := by decide +kernel
theorem d_Mpg_makeStatement_257 : decode b_Mpg_makeStatement 257 = .ok (.putfield 752, 3) := by decide +kernel
theorem d_Mpg_makeStatement_260 : decode b_Mpg_makeStatement 260 = .ok (.goto 45, 3) := by decide +kernel
theorem d_Mpg_makeStatement_263 : decode b_Mpg_makeStatement 263 = .ok (.aload_n 0, 1) := by decide +kernel
theorem d_Mpg_makeStatement_264 : decode b_Mpg_makeStatement 264 = .ok (.getfield 216, 3) := by decide +kernel
theorem d_Mpg_makeStatement_267 : decode b_Mpg_makeStatement 267 = .ok (.iload_n 1, 1) := by decide +kernel
theorem d_Mpg_makeStatement_268 : decode b_Mpg_makeStatement 268 = .ok (.iaload, 1) := by decide +kernel
theorem d_Mpg_makeStatement_269 : decode b_Mpg_makeStatement 269 = .ok (.ifCond .lt 16, 3) := by decide +kernel
theorem d_Mpg_makeStatement_272 : decode b_Mpg_makeStatement 272 = .ok (.aload_n 0, 1) := by decide +kernel
theorem d_Mpg_makeStatement_273 : decode b_Mpg_makeStatement 273 = .ok (.aload_n 0, 1) := by decide +kernel
theorem d_Mpg_makeStatement_274 : decode b_Mpg_makeStatement 274 = .ok (.getfield 216, 3) := by decide +kernel
theorem d_Mpg_makeStatement_277 : decode b_Mpg_makeStatement 277 = .ok (.iload_n 1, 1) := by decide +kernel
theorem d_Mpg_makeStatement_278 : decode b_Mpg_makeStatement 278 = .ok (.iaload, 1) := by decide +kernel
theorem d_Mpg_makeStatement_279 : decode b_Mpg_makeStatement 279 = .ok (.invokevirtual 714, 3) := by decide +kernel
theorem d_Mpg_makeStatement_282 : decode b_Mpg_makeStatement 282 = .ok (.goto 11, 3) := by decide +kernel
theorem d_Mpg_makeStatement_285 : decode b_Mpg_makeStatement 285 = .ok (.aload_n 0, 1) := by decide +kernel
theorem d_Mpg_makeStatement_286 : decode b_Mpg_makeStatement 286 = .ok (.iconst 1, 1) := by decide +kernel
theorem d_Mpg_makeStatement_287 : decode b_Mpg_makeStatement 287 = .ok (.iconst 0, 1) := by decide +kernel
theorem d_Mpg_makeStatement_288 : decode b_Mpg_makeStatement 288 = .ok (.iconst 0, 1) := by decide +kernel
theorem d_Mpg_makeStatement_289 : decode b_Mpg_makeStatement 289 = .ok (.invokevirtual 711, 3) := by decide +kernel
theorem d_Mpg_makeStatement_292 : decode b_Mpg_makeStatement 292 = .ok (.pop, 1) := by decide +kernel
theorem d_Mpg_makeStatement_293 : decode b_Mpg_makeStatement 293 = .ok (.aload_n 0, 1) := by decide +kernel
theorem d_Mpg_makeStatement_294 : decode b_Mpg_makeStatement 294 = .ok (.bipush 18, 2) := by decide +kernel
theorem d_Mpg_makeStatement_296 : decode b_Mpg_makeStatement 296 = .ok (.iconst 0, 1) := by decide +kernel
theorem d_Mpg_makeStatement_297 : decode b_Mpg_makeStatement 297 = .ok (.iconst 0, 1) := by decide +kernel
theorem d_Mpg_makeStatement_298 : decode b_Mpg_makeStatement 298 = .ok (.invokevirtual 711, 3) := by decide +kernel
theorem d_Mpg_makeStatement_301 : decode b_Mpg_makeStatement 301 = .ok (.pop, 1) := by decide +kernel
theorem d_Mpg_makeStatement_302 : decode b_Mpg_makeStatement 302 = .ok (.goto 3, 3) := by decide +kernel
theorem d_Mpg_makeStatement_305 : decode b_Mpg_makeStatement 305 = .ok (.return_, 1) := by decide +kernel
theorem q_Mpg_makeStatement : px_y y_Mpg_makeStatement 1 := by unfold px_y; decide +kernel
def StkC (l : Launch) (D : va_G) (cs : Nat → ClassId) (d : Nat) : Prop := ∀ (ma0 : Nat → Nat → Int32) (mb : Nat → Nat → Int32) (ys : Int) (ns : Int) (nf : Int) (lo : Int) (hi : Int) (wt : Int) (V : Nat → Nat → Prop) (vl : Int) (vh : Int) (X9 : Cx) (fi : Int) (lvq : Nat) (bh : Int) (t9 : Nat) (h : Nat) (r : Nat → Nat) (g : Nat → Nat → Option Nat) (tf : Nat → Int32) (ta : Nat → Nat → Int32) (pf : Nat → Int32) (na : Nat → Nat → Int32) (wa : Nat → Nat → Int32) (cf : Nat → Int32) (ca : Nat → Nat → Int32) (xf : Nat → Int32) (xa : Nat → Nat → Int32) (ma : Nat → Nat → Int32) (ef : Nat → Int32) (ea : Nat → Nat → Int32) (p0 : Int32)  (g0 : 0 ≤ (tf 5).toInt) (g1 : (tf 5).toInt ≤ 2048) (g2 : (pf 13).toInt ≤ 2100) (g3 : (tf 6).toInt ≤ 2049) (g4 : (cf 38).toInt = nf) (g5 : 0 ≤ nf) (g6 : 0 ≤ (ef 60).toInt) (g7 : 0 ≤ fi) (g8 : 1 ≤ X9.tall fi) (g9 : bh ≤ X9.tall fi) (g10 : (ef 60).toInt + wt ≤ 7000 + k29 na p0) (htk : TkI tf ta) (hft : FnT (tf 6).toInt na ca (cf 38).toInt) (hfp : FnP na ca nf) (hab : Ann na ma0 mb) (hkc : Kc na mb ma) (htb : Ts (Gk ta ca na ma0 ns ys nf) na mb vl vh V) (hcx : CxI X9 fi ca ns ys nf (tkl na ma0 ca)) (hsk : SkB ta (tf 6).toInt na ma0 mb ca V d (pf 13).toInt lo hi wt bh t9 p0), MetV l y_Mpg_makeStatement b_Mpg_makeStatement 4 D cs (5 * d + 12) (200 * d + 500) (0) (0) [.ref h, .int p0] [wdP cs h r g tf ta pf na ma wa cf ca ef ea xf xa] (oX (fun A U H => (oP A g U H)) [wdP cs h r g tf ta pf na ma wa cf ca ef ea xf xa]) (fun ps => ∃ (ma' : Nat → Nat → Int32) (ef' : Nat → Int32) (ea' : Nat → Nat → Int32), (ps = [wdP cs h r g tf ta pf na ma' wa cf ca ef' ea' xf xa]) ∧ ((ef 60).toInt ≤ (ef' 60).toInt) ∧ ((ef' 60).toInt ≤ (ef 60).toInt + wt) ∧ (CdK ea ea' (ef 60).toInt) ∧ (Kc na mb ma') ∧ (FrL lo hi ma ma') ∧ (StQ X9 (ea' 61) (ef 60).toInt (ef' 60).toInt fi [] lvq t9 (ef 64) (ef' 64) (ef 65) (ef' 65)) ∧ (StX na ma' p0 (ef 60).toInt (ef' 60).toInt (ef 64).toInt (ef' 64).toInt (ef 65).toInt (ef' 65).toInt))
abbrev b_Mpg_makeRow : ByteArray := prog_16_method_113_code
def y_Mpg_makeRow : MethodName := ⟨"HomeSystemModel$Program", "makeRow", "(I)V"⟩
theorem d_Mpg_makeRow_0 : decode b_Mpg_makeRow 0 = .ok (.iload_n 1, 1) := by decide +kernel
theorem d_Mpg_makeRow_1 : decode b_Mpg_makeRow 1 = .ok (.istore_n 2, 1) := by decide +kernel
theorem d_Mpg_makeRow_2 : decode b_Mpg_makeRow 2 = .ok (.iload_n 2, 1) := by decide +kernel
theorem d_Mpg_makeRow_3 : decode b_Mpg_makeRow 3 = .ok (.ifCond .lt 18, 3) := by decide +kernel
theorem d_Mpg_makeRow_6 : decode b_Mpg_makeRow 6 = .ok (.aload_n 0, 1) := by decide +kernel
theorem d_Mpg_makeRow_7 : decode b_Mpg_makeRow 7 = .ok (.iload_n 2, 1) := by decide +kernel
theorem d_Mpg_makeRow_8 : decode b_Mpg_makeRow 8 = .ok (.invokevirtual 731, 3) := by decide +kernel
theorem d_Mpg_makeRow_11 : decode b_Mpg_makeRow 11 = .ok (.aload_n 0, 1) := by decide +kernel
theorem d_Mpg_makeRow_12 : decode b_Mpg_makeRow 12 = .ok (.getfield 228, 3) := by decide +kernel
theorem d_Mpg_makeRow_15 : decode b_Mpg_makeRow 15 = .ok (.iload_n 2, 1) := by decide +kernel
theorem d_Mpg_makeRow_16 : decode b_Mpg_makeRow 16 = .ok (.iaload, 1) := by decide +kernel
theorem d_Mpg_makeRow_17 : decode b_Mpg_makeRow 17 = .ok (.istore_n 2, 1) := by decide +kernel
theorem d_Mpg_makeRow_18 : decode b_Mpg_makeRow 18 = .ok (.goto (-16), 3) := by decide +kernel
theorem d_Mpg_makeRow_21 : decode b_Mpg_makeRow 21 = .ok (.return_, 1) := by decide +kernel
theorem q_Mpg_makeRow : px_y y_Mpg_makeRow 1 := by unfold px_y; decide +kernel
set_option maxHeartbeats 4000000 in
set_option maxRecDepth 100000 in
theorem c_mp_makeRow (l : Launch) (D : va_G) (cs : Nat → ClassId) (ma0 : Nat → Nat → Int32) (mb : Nat → Nat → Int32) (ys : Int) (ns : Int) (nf : Int) (d : Nat) (lo : Int) (hi : Int) (wt : Int) (V : Nat → Nat → Prop) (vl : Int) (vh : Int) (X9 : Cx) (fi : Int) (lvq : Nat) (bh : Int) (t9 : Nat) (h : Nat) (r : Nat → Nat) (g : Nat → Nat → Option Nat) (tf : Nat → Int32) (ta : Nat → Nat → Int32) (pf : Nat → Int32) (na : Nat → Nat → Int32) (wa : Nat → Nat → Int32) (cf : Nat → Int32) (ca : Nat → Nat → Int32) (xf : Nat → Int32) (xa : Nat → Nat → Int32) (ma : Nat → Nat → Int32) (ef : Nat → Int32) (ea : Nat → Nat → Int32) (p0 : Int32)  (g0 : 0 ≤ (tf 5).toInt) (g1 : (tf 5).toInt ≤ 2048) (g2 : (pf 13).toInt ≤ 2100) (g3 : (tf 6).toInt ≤ 2049) (g4 : (cf 38).toInt = nf) (g5 : 0 ≤ nf) (g6 : 0 ≤ (ef 60).toInt) (g7 : 0 ≤ fi) (g8 : 1 ≤ X9.tall fi) (g9 : bh ≤ X9.tall fi) (g10 : (ef 60).toInt + wt ≤ 7000) (g11 : lo ≤ hi) (htk : TkI tf ta) (hft : FnT (tf 6).toInt na ca (cf 38).toInt) (hfp : FnP na ca nf) (hab : Ann na ma0 mb) (hkc : Kc na mb ma) (htb : Ts (Gk ta ca na ma0 ns ys nf) na mb vl vh V) (hcx : CxI X9 fi ca ns ys nf (tkl na ma0 ca)) (hrk : RkB ta (tf 6).toInt na ma0 mb ca V d (pf 13).toInt lo hi wt bh t9 p0) (hLS : StkC l D cs d) : MetV l y_Mpg_makeRow b_Mpg_makeRow 3 D cs (5 * d + 13) (200 * d + 560) (0) (0) [.ref h, .int p0] [wdP cs h r g tf ta pf na ma wa cf ca ef ea xf xa] (oX (fun A U H => (oP A g U H)) [wdP cs h r g tf ta pf na ma wa cf ca ef ea xf xa]) (fun ps => ∃ (ma' : Nat → Nat → Int32) (ef' : Nat → Int32) (ea' : Nat → Nat → Int32), (ps = [wdP cs h r g tf ta pf na ma' wa cf ca ef' ea' xf xa]) ∧ ((ef 60).toInt ≤ (ef' 60).toInt) ∧ ((ef' 60).toInt ≤ (ef 60).toInt + wt) ∧ (CdK ea ea' (ef 60).toInt) ∧ (Kc na mb ma') ∧ (FrL lo hi ma ma') ∧ (StW X9 (ea' 61) (ef 60).toInt (ef' 60).toInt fi [] lvq t9 (ef 64) (ef' 64) (ef 65) (ef' 65) na ma' hi p0)) := by
  refine px_enter (by decide) (Nat.le_of_ble_eq_true rfl) ?_
  intro p e s m below meth c A ls hAe S hr hlk hnm hA hT hX hw hl
  have hl : lv_has ls 3 [(0, .ref h), (1, .int p0)] := hl
  have lp0 := Int32.le_toInt p0
  have up0 := Int32.toInt_lt p0
  have hX : (fun A U H => (oP A g U H)) A s s.heap := by rw [hAe]; exact hX
  have hP := hX
  have hZ := hP.1
  have hF0 := hP.2.1
  have hf11 := hft.1
  have han := hab.kc hkc
  have hts := htb.kc hkc
  have hcd : CdK ea ea (ef 60).toInt := CdK.rf
  have hfl : FrL lo hi ma ma := FrL.rf
  have hl0 : (([] : List Nat).length : Int) = 0 := rfl
  have hrk0 := hrk.2.2.2.1
  have hrw0 := hrk.wp
  have J2 : ∀ (n_2 : Nat) (ma_2 : Nat → Nat → Int32) (ef_2 : Nat → Int32) (ea_2 : Nat → Nat → Int32) (mid_2 : Int) (wr_2 : Int) (x2_2 : Int32) (H : Heap) (locs : List Loc) (ls : Array Slot), ((ef 60).toInt ≤ (ef_2 60).toInt) → ((ef_2 60).toInt + wr_2 ≤ (ef 60).toInt + wt) → (lo ≤ mid_2) → (mid_2 ≤ hi) → (CdK ea ea_2 (ef 60).toInt) → (Kc na mb ma_2) → (FrL lo hi ma ma_2) → (RkB ta (tf 6).toInt na ma0 mb ca V d (pf 13).toInt mid_2 hi wr_2 bh t9 x2_2) → (StR X9 (ea_2 61) (ef 60).toInt (ef_2 60).toInt fi [] lvq t9 (ef 64) (ef_2 64) (ef 65) (ef_2 65) na ma_2 mid_2 p0 x2_2) → hi - mid_2 < (n_2 : Int) → pw D A s.heap H locs [wdP cs h r g tf ta pf na ma_2 wa cf ca ef_2 ea_2 xf xa] → lv_has ls 3 [(0, .ref h), (1, .int p0), (2, .int x2_2)] → W p l e { frames := (5 * d + 13), cells := 0, slots := 0, locals := (200 * d + 560) } s m [.ref h, .int p0].toArray below meth c H locs 0 0 (MQ below (va_Qv (fun ps => ∃ (ma' : Nat → Nat → Int32) (ef' : Nat → Int32) (ea' : Nat → Nat → Int32), (ps = [wdP cs h r g tf ta pf na ma' wa cf ca ef' ea' xf xa]) ∧ ((ef 60).toInt ≤ (ef' 60).toInt) ∧ ((ef' 60).toInt ≤ (ef 60).toInt + wt) ∧ (CdK ea ea' (ef 60).toInt) ∧ (Kc na mb ma') ∧ (FrL lo hi ma ma') ∧ (StW X9 (ea' 61) (ef 60).toInt (ef' 60).toInt fi [] lvq t9 (ef 64) (ef' 64) (ef 65) (ef' 65) na ma' hi p0)) (pc_B D (va_A ([wdP cs h r g tf ta pf na ma wa cf ca ef ea xf xa] : List va_W).flatten s.heap.size)) (va_A ([wdP cs h r g tf ta pf na ma wa cf ca ef ea xf xa] : List va_W).flatten s.heap.size)) [.ref h, .int p0].toArray s 0 0 A) (F0 m 2 ls []) := by
    intro  n_2
    induction n_2 with
    | zero =>
      intro ma_2 ef_2 ea_2 mid_2 wr_2 x2_2 H locs ls k2_0 k2_1 k2_2 k2_3 k2_4 k2_5 k2_6 k2_7 k2_8 hm hw hl
      have lx2_2 := Int32.le_toInt x2_2
      have ux2_2 := Int32.toInt_lt x2_2
      have hcd := k2_4
      have hkc := k2_5
      have han := hab.kc hkc
      have hts := htb.kc hkc
      have hfl := k2_6
      have hrk := k2_7
      have hrw := hrk.wp
      have hstr := k2_8
      exact absurd hm (by omega)
    | succ n_2 ih2 =>
      intro ma_2 ef_2 ea_2 mid_2 wr_2 x2_2 H locs ls k2_0 k2_1 k2_2 k2_3 k2_4 k2_5 k2_6 k2_7 k2_8 hm hw hl
      have lx2_2 := Int32.le_toInt x2_2
      have ux2_2 := Int32.toInt_lt x2_2
      have hcd := k2_4
      have hkc := k2_5
      have han := hab.kc hkc
      have hts := htb.kc hkc
      have hfl := k2_6
      have hrk := k2_7
      have hrw := hrk.wp
      have hstr := k2_8
      refine lv_iload_n S.x S.b d_Mpg_makeRow_2 rfl (lv_at hl 2 rfl) ?_
      refine lv_if_lt (tgt := 21) S.x S.b d_Mpg_makeRow_3 (by decide) (fun c1 => ?_) (fun c1 => ?_)
      · have nc1 : x2_2.toInt < (0 : Int) := (i_lt (x := x2_2) (y := 0)).mp c1
        exact px_vret S hr hlk hAe hw (Nat.le_of_ble_eq_true rfl) (Nat.le_of_ble_eq_true rfl) (⟨ma_2, ef_2, ea_2, rfl, (show (ef 60).toInt ≤ (ef_2 60).toInt from by first | exact k2_0 | omega), (show (ef_2 60).toInt ≤ (ef 60).toInt + wt from by first | exact oz_812b27d4c5 k2_1 hrw | omega), (show CdK ea ea_2 (ef 60).toInt from hcd), (show Kc na mb ma_2 from hkc), (show FrL lo hi ma ma_2 from hfl), (show StW X9 (ea_2 61) (ef 60).toInt (ef_2 60).toInt fi [] lvq t9 (ef 64) (ef_2 64) (ef 65) (ef_2 65) na ma_2 hi p0 from ⟨_, by omega, StR.wm hstr (by omega)⟩)⟩) d_Mpg_makeRow_21
      · have nc1 : ¬ x2_2.toInt < (0 : Int) := mt (i_lt (x := x2_2) (y := 0)).mpr c1
        refine lv_aload_n S.x S.b d_Mpg_makeRow_6 rfl (lv_at hl 0 rfl) ?_
        refine lv_iload_n S.x S.b d_Mpg_makeRow_7 rfl (lv_at hl 2 rfl) ?_
        obtain ⟨md3, wa4, hm_md3, hsk_x2_2, hrk2⟩ := hrk.go (by omega); have hk9 := k29_r (na := na) (n := x2_2); have hrs_md3 := hsk_x2_2.rng; have hrw2 := hrk2.wp
        refine px_callv (pr := []) (px_runV (As := [.int x2_2]) (rest := []) S (hLS ma0 mb ys ns nf mid_2 md3 (wa4 + k29 na x2_2) V vl vh X9 fi lvq bh t9 h r g tf ta pf na wa cf ca xf xa ma_2 ef_2 ea_2 x2_2 (show 0 ≤ (tf 5).toInt from by first | exact g0 | omega) (show (tf 5).toInt ≤ 2048 from by first | exact g1 | omega) (show (pf 13).toInt ≤ 2100 from by first | exact g2 | omega) (show (tf 6).toInt ≤ 2049 from by first | exact g3 | omega) (show (cf 38).toInt = nf from by first | exact g4 | omega) (show 0 ≤ nf from by first | exact g5 | omega) (show 0 ≤ (ef_2 60).toInt from by first | exact oz_16d7fa9f32 k2_0 g6 | omega) (show 0 ≤ fi from by first | exact g7 | omega) (show 1 ≤ X9.tall fi from by first | exact g8 | omega) (show bh ≤ X9.tall fi from by first | exact g9 | omega) (show (ef_2 60).toInt + (wa4 + k29 na x2_2) ≤ 7000 + k29 na x2_2 from by omega) htk (FnT.eq hft (by omega)) hfp hab hkc htb hcx hsk_x2_2 _) hT (pr := []) (pcs := [wdP cs h r g tf ta pf na ma_2 wa cf ca ef_2 ea_2 xf xa]) hw (oX_call (P := (fun A U H => (oP A g U H))) (pr := []) oG_P hw hA hP) (px_recv hT hw 0 0 rfl rfl rfl) m13_126 m13_123 m13_125 ms_14_12 m1_21 q_Mpg_makeStatement ⟨show (5 * d + 12) + 1 ≤ (5 * d + 13) from (by first | exact oz_696e2d36cf | omega), show 8 + (4 + 11) + (200 * d + 500) ≤ (200 * d + 560) from (by first | exact oz_1d485573bc | omega)⟩ hl.1 rfl (Nat.le_of_ble_eq_true rfl) d_Mpg_makeRow_8 ⟨Nat.le_of_ble_eq_true rfl, Nat.le_of_ble_eq_true rfl⟩) hw hA (fun p11 H locs hp11 hw => ?_)
        obtain ⟨ma8, ef9, ea10, rfl, e13, e14, e15, e16, e17, e18, e19⟩ := hp11
        have e13 : (ef_2 60).toInt ≤ (ef9 60).toInt := e13
        have e14 : (ef9 60).toInt ≤ (ef_2 60).toInt + (wa4 + k29 na x2_2) := e14
        have e15 : CdK ea_2 ea10 (ef_2 60).toInt := e15
        have hcd := hcd.tr e15 (by omega)
        have e16 : Kc na mb ma8 := e16
        have hkc := e16
        have han := hab.kc hkc
        have hts := htb.kc hkc
        have e17 : FrL mid_2 md3 ma_2 ma8 := e17
        have hfl := hfl.tr e17 (by omega) (by omega)
        have e18 : StQ X9 (ea10 61) (ef_2 60).toInt (ef9 60).toInt fi [] lvq t9 (ef_2 64) (ef9 64) (ef_2 65) (ef9 65) := e18
        have e19 : StX na ma8 x2_2 (ef_2 60).toInt (ef9 60).toInt (ef_2 64).toInt (ef9 64).toInt (ef_2 65).toInt (ef9 65).toInt := e19
        have hw : pw D A s.heap H locs [wdP cs h r g tf ta pf na ma8 wa cf ca ef9 ea10 xf xa] := hw
        have hle9 := StX.le e19 (w := wa4) (by omega) (by omega); have hfl2 := e17
        refine lv_aload_n S.x S.b d_Mpg_makeRow_11 rfl (lv_at hl 0 rfl) ?_
        refine px_get S k_Mpg hT hw 0 0 21 (v := .ref (r 21)) rfl rfl rfl (by decide) m10_7 d_Mpg_makeRow_12 ?_
        refine lv_iload_n S.x S.b d_Mpg_makeRow_15 rfl (lv_at hl 2 rfl) ?_
        refine px_iald S hT hw 0 17 (n := 2100) (f := (na 21)) rfl gp_21 (x := x2_2) (vp_in_iff.mpr (by constructor <;> omega)) d_Mpg_makeRow_16 ?_
        refine lv_topi (fun z20 ez20 => ?_)
        have lz20 := Int32.le_toInt z20
        have uz20 := Int32.toInt_lt z20
        refine lv_istore_n (lv' := [(2, .int z20), (0, .ref h), (1, .int p0)]) S.x S.b d_Mpg_makeRow_17 rfl hl (by decide) rfl (fun ls hl => ?_)
        refine lv_goto (tgt := 2) S.x S.b d_Mpg_makeRow_18 (by decide) ?_
        exact ih2 ma8 ef9 ea10 md3 (wr_2 - wa4) z20 _ _ ls (show (ef 60).toInt ≤ (ef9 60).toInt from by first | exact oz_be764f19f0 k2_0 e13 | omega) (show (ef9 60).toInt + (wr_2 - wa4) ≤ (ef 60).toInt + wt from by first | exact oz_340b0db65c k2_1 hle9 | omega) (show lo ≤ md3 from by first | exact oz_8ecff1de6a k2_2 hm_md3.2.2.2.1 hm_md3.2.2.1 | omega) (show md3 ≤ hi from by first | exact hm_md3.2.1 | omega) (show CdK ea ea10 (ef 60).toInt from hcd) (show Kc na mb ma8 from hkc) (show FrL lo hi ma ma8 from hfl) (show RkB ta (tf 6).toInt na ma0 mb ca V d (pf 13).toInt md3 hi (wr_2 - wa4) bh t9 z20 from (by rw [ez20]; exact hrk2)) (show StR X9 (ea10 61) (ef 60).toInt (ef9 60).toInt fi [] lvq t9 (ef 64) (ef9 64) (ef 65) (ef9 65) na ma8 md3 p0 z20 from (hstr.ap e15 e18 (by omega) (by omega) (by omega) hfl2 e19.2.1 ez20)) (show hi - md3 < (n_2 : Int) from by first | exact oz_2b66180fc4 hm hm_md3.2.2.2.1 hm_md3.2.2.1 | omega) hw (lv_sub hl [1, 2, 0] rfl)
  refine lv_iload_n S.x S.b d_Mpg_makeRow_0 rfl (lv_at hl 1 rfl) ?_
  refine lv_istore_n (lv' := [(2, .int p0), (0, .ref h), (1, .int p0)]) S.x S.b d_Mpg_makeRow_1 rfl hl (by decide) rfl (fun ls hl => ?_)
  exact J2 ((hi - lo).toNat + 1) ma ef ea lo wt p0 _ _ ls (show (ef 60).toInt ≤ (ef 60).toInt from by first | exact oz_1cb5f934a5 | omega) (show (ef 60).toInt + wt ≤ (ef 60).toInt + wt from by first | exact oz_c42e39f93b | omega) (show lo ≤ lo from by first | exact oz_1cb5f934a5 | omega) (show lo ≤ hi from by first | exact g11 | omega) (show CdK ea ea (ef 60).toInt from hcd) (show Kc na mb ma from hkc) (show FrL lo hi ma ma from hfl) (show RkB ta (tf 6).toInt na ma0 mb ca V d (pf 13).toInt lo hi wt bh t9 p0 from hrk) (show StR X9 (ea 61) (ef 60).toInt (ef 60).toInt fi [] lvq t9 (ef 64) (ef 64) (ef 65) (ef 65) na ma lo p0 p0 from (str_0 (by omega) rfl rfl rfl rfl)) (show hi - lo < ((((hi - lo).toNat + 1 : Nat) : Int) : Int) from by first | exact oz_natlt | omega) hw (lv_sub hl [1, 2, 0] rfl)
abbrev b_Mpg_fill : ByteArray := prog_16_method_115_code
def y_Mpg_fill : MethodName := ⟨"HomeSystemModel$Program", "fill", "(II)V"⟩
theorem d_Mpg_fill_0 : decode b_Mpg_fill 0 = .ok (.iconst 0, 1) := by decide +kernel
theorem d_Mpg_fill_1 : decode b_Mpg_fill 1 = .ok (.istore_n 3, 1) := by decide +kernel
theorem d_Mpg_fill_2 : decode b_Mpg_fill 2 = .ok (.aload_n 0, 1) := by decide +kernel
theorem d_Mpg_fill_3 : decode b_Mpg_fill 3 = .ok (.getfield 231, 3) := by decide +kernel
theorem d_Mpg_fill_6 : decode b_Mpg_fill 6 = .ok (.iload_n 1, 1) := by decide +kernel
theorem d_Mpg_fill_7 : decode b_Mpg_fill 7 = .ok (.iaload, 1) := by decide +kernel
theorem d_Mpg_fill_8 : decode b_Mpg_fill 8 = .ok (.iconst 2, 1) := by decide +kernel
theorem d_Mpg_fill_9 : decode b_Mpg_fill 9 = .ok (.if_icmp .ne 57, 3) := by decide +kernel
theorem d_Mpg_fill_12 : decode b_Mpg_fill 12 = .ok (.aload_n 0, 1) := by decide +kernel
theorem d_Mpg_fill_13 : decode b_Mpg_fill 13 = .ok (.getfield 219, 3) := by decide +kernel
theorem d_Mpg_fill_16 : decode b_Mpg_fill 16 = .ok (.iload_n 1, 1) := by decide +kernel
theorem d_Mpg_fill_17 : decode b_Mpg_fill 17 = .ok (.iaload, 1) := by decide +kernel
theorem d_Mpg_fill_18 : decode b_Mpg_fill 18 = .ok (.istore 4, 2) := by decide +kernel
theorem d_Mpg_fill_20 : decode b_Mpg_fill 20 = .ok (.iload 4, 2) := by decide +kernel
theorem d_Mpg_fill_22 : decode b_Mpg_fill 22 = .ok (.ifCond .lt 41, 3) := by decide +kernel
theorem d_Mpg_fill_25 : decode b_Mpg_fill 25 = .ok (.aload_n 0, 1) := by decide +kernel
theorem d_Mpg_fill_26 : decode b_Mpg_fill 26 = .ok (.iconst 1, 1) := by decide +kernel
theorem d_Mpg_fill_27 : decode b_Mpg_fill 27 = .ok (.aload_n 0, 1) := by decide +kernel
theorem d_Mpg_fill_28 : decode b_Mpg_fill 28 = .ok (.getfield 225, 3) := by decide +kernel
theorem d_Mpg_fill_31 : decode b_Mpg_fill 31 = .ok (.iload 4, 2) := by decide +kernel
theorem d_Mpg_fill_33 : decode b_Mpg_fill 33 = .ok (.iaload, 1) := by decide +kernel
theorem d_Mpg_fill_34 : decode b_Mpg_fill 34 = .ok (.iconst 0, 1) := by decide +kernel
theorem d_Mpg_fill_35 : decode b_Mpg_fill 35 = .ok (.invokevirtual 711, 3) := by decide +kernel
theorem d_Mpg_fill_38 : decode b_Mpg_fill 38 = .ok (.pop, 1) := by decide +kernel
theorem d_Mpg_fill_39 : decode b_Mpg_fill 39 = .ok (.aload_n 0, 1) := by decide +kernel
theorem d_Mpg_fill_40 : decode b_Mpg_fill 40 = .ok (.bipush 21, 2) := by decide +kernel
theorem d_Mpg_fill_42 : decode b_Mpg_fill 42 = .ok (.iload_n 2, 1) := by decide +kernel
theorem d_Mpg_fill_43 : decode b_Mpg_fill 43 = .ok (.iload_n 3, 1) := by decide +kernel
theorem d_Mpg_fill_44 : decode b_Mpg_fill 44 = .ok (.invokevirtual 711, 3) := by decide +kernel
theorem d_Mpg_fill_47 : decode b_Mpg_fill 47 = .ok (.pop, 1) := by decide +kernel
theorem d_Mpg_fill_48 : decode b_Mpg_fill 48 = .ok (.iinc 3 1, 3) := by decide +kernel
theorem d_Mpg_fill_51 : decode b_Mpg_fill 51 = .ok (.aload_n 0, 1) := by decide +kernel
theorem d_Mpg_fill_52 : decode b_Mpg_fill 52 = .ok (.getfield 228, 3) := by decide +kernel
theorem d_Mpg_fill_55 : decode b_Mpg_fill 55 = .ok (.iload 4, 2) := by decide +kernel
theorem d_Mpg_fill_57 : decode b_Mpg_fill 57 = .ok (.iaload, 1) := by decide +kernel
theorem d_Mpg_fill_58 : decode b_Mpg_fill 58 = .ok (.istore 4, 2) := by decide +kernel
theorem d_Mpg_fill_60 : decode b_Mpg_fill 60 = .ok (.goto (-40), 3) := by decide +kernel
theorem d_Mpg_fill_63 : decode b_Mpg_fill 63 = .ok (.goto 104, 3) := by decide +kernel
theorem d_Mpg_fill_66 : decode b_Mpg_fill 66 = .ok (.aload_n 0, 1) := by decide +kernel
theorem d_Mpg_fill_67 : decode b_Mpg_fill 67 = .ok (.getfield 231, 3) := by decide +kernel
theorem d_Mpg_fill_70 : decode b_Mpg_fill 70 = .ok (.iload_n 1, 1) := by decide +kernel
theorem d_Mpg_fill_71 : decode b_Mpg_fill 71 = .ok (.iaload, 1) := by decide +kernel
theorem d_Mpg_fill_72 : decode b_Mpg_fill 72 = .ok (.iconst 3, 1) := by decide +kernel
theorem d_Mpg_fill_73 : decode b_Mpg_fill 73 = .ok (.if_icmp .ne 94, 3) := by decide +kernel
theorem d_Mpg_fill_76 : decode b_Mpg_fill 76 = .ok (.aload_n 0, 1) := by decide +kernel
theorem d_Mpg_fill_77 : decode b_Mpg_fill 77 = .ok (.getfield 194, 3) := by decide +kernel
theorem d_Mpg_fill_80 : decode b_Mpg_fill 80 = .ok (.aload_n 0, 1) := by decide +kernel
theorem d_Mpg_fill_81 : decode b_Mpg_fill 81 = .ok (.getfield 222, 3) := by decide +kernel
theorem d_Mpg_fill_84 : decode b_Mpg_fill 84 = .ok (.iload_n 1, 1) := by decide +kernel
theorem d_Mpg_fill_85 : decode b_Mpg_fill 85 = .ok (.iaload, 1) := by decide +kernel
theorem d_Mpg_fill_86 : decode b_Mpg_fill 86 = .ok (.iaload, 1) := by decide +kernel
theorem d_Mpg_fill_87 : decode b_Mpg_fill 87 = .ok (.iconst 1, 1) := by decide +kernel
theorem d_Mpg_fill_88 : decode b_Mpg_fill 88 = .ok (.iadd, 1) := by decide +kernel
theorem d_Mpg_fill_89 : decode b_Mpg_fill 89 = .ok (.istore 4, 2) := by decide +kernel
theorem d_Mpg_fill_91 : decode b_Mpg_fill 91 = .ok (.iconst 0, 1) := by decide +kernel
theorem d_Mpg_fill_92 : decode b_Mpg_fill 92 = .ok (.istore 5, 2) := by decide +kernel
theorem d_Mpg_fill_94 : decode b_Mpg_fill 94 = .ok (.iload 5, 2) := by decide +kernel
theorem d_Mpg_fill_96 : decode b_Mpg_fill 96 = .ok (.aload_n 0, 1) := by decide +kernel
theorem d_Mpg_fill_97 : decode b_Mpg_fill 97 = .ok (.getfield 204, 3) := by decide +kernel
theorem d_Mpg_fill_100 : decode b_Mpg_fill 100 = .ok (.aload_n 0, 1) := by decide +kernel
theorem d_Mpg_fill_101 : decode b_Mpg_fill 101 = .ok (.getfield 222, 3) := by decide +kernel
theorem d_Mpg_fill_104 : decode b_Mpg_fill 104 = .ok (.iload_n 1, 1) := by decide +kernel
theorem d_Mpg_fill_105 : decode b_Mpg_fill 105 = .ok (.iaload, 1) := by decide +kernel
theorem d_Mpg_fill_106 : decode b_Mpg_fill 106 = .ok (.iaload, 1) := by decide +kernel
theorem d_Mpg_fill_107 : decode b_Mpg_fill 107 = .ok (.if_icmp .ge 60, 3) := by decide +kernel
theorem d_Mpg_fill_110 : decode b_Mpg_fill 110 = .ok (.aload_n 0, 1) := by decide +kernel
theorem d_Mpg_fill_111 : decode b_Mpg_fill 111 = .ok (.iload 4, 2) := by decide +kernel
theorem d_Mpg_fill_113 : decode b_Mpg_fill 113 = .ok (.bipush 34, 2) := by decide +kernel
theorem d_Mpg_fill_115 : decode b_Mpg_fill 115 = .ok (.invokevirtual 332, 3) := by decide +kernel
theorem d_Mpg_fill_118 : decode b_Mpg_fill 118 = .ok (.istore 6, 2) := by decide +kernel
theorem d_Mpg_fill_120 : decode b_Mpg_fill 120 = .ok (.aload_n 0, 1) := by decide +kernel
theorem d_Mpg_fill_121 : decode b_Mpg_fill 121 = .ok (.iconst 1, 1) := by decide +kernel
theorem d_Mpg_fill_122 : decode b_Mpg_fill 122 = .ok (.iload 6, 2) := by decide +kernel
theorem d_Mpg_fill_124 : decode b_Mpg_fill 124 = .ok (.sipush 1000, 3) := by decide +kernel
theorem d_Mpg_fill_127 : decode b_Mpg_fill 127 = .ok (.irem, 1) := by decide +kernel
theorem d_Mpg_fill_128 : decode b_Mpg_fill 128 = .ok (.iconst 0, 1) := by decide +kernel
theorem d_Mpg_fill_129 : decode b_Mpg_fill 129 = .ok (.invokevirtual 711, 3) := by decide +kernel
theorem d_Mpg_fill_132 : decode b_Mpg_fill 132 = .ok (.pop, 1) := by decide +kernel
theorem d_Mpg_fill_133 : decode b_Mpg_fill 133 = .ok (.aload_n 0, 1) := by decide +kernel
theorem d_Mpg_fill_134 : decode b_Mpg_fill 134 = .ok (.bipush 21, 2) := by decide +kernel
theorem d_Mpg_fill_136 : decode b_Mpg_fill 136 = .ok (.iload_n 2, 1) := by decide +kernel
theorem d_Mpg_fill_137 : decode b_Mpg_fill 137 = .ok (.iload 5, 2) := by decide +kernel
theorem d_Mpg_fill_139 : decode b_Mpg_fill 139 = .ok (.invokevirtual 711, 3) := by decide +kernel
theorem d_Mpg_fill_142 : decode b_Mpg_fill 142 = .ok (.pop, 1) := by decide +kernel
theorem d_Mpg_fill_143 : decode b_Mpg_fill 143 = .ok (.iload 4, 2) := by decide +kernel
theorem d_Mpg_fill_145 : decode b_Mpg_fill 145 = .ok (.iload 6, 2) := by decide +kernel
theorem d_Mpg_fill_147 : decode b_Mpg_fill 147 = .ok (.sipush 1000, 3) := by decide +kernel
theorem d_Mpg_fill_150 : decode b_Mpg_fill 150 = .ok (.if_icmp .ge 7, 3) := by decide +kernel
theorem d_Mpg_fill_153 : decode b_Mpg_fill 153 = .ok (.iconst 1, 1) := by decide +kernel
theorem d_Mpg_fill_154 : decode b_Mpg_fill 154 = .ok (.goto 4, 3) := by decide +kernel
theorem d_Mpg_fill_157 : decode b_Mpg_fill 157 = .ok (.iconst 2, 1) := by decide +kernel
theorem d_Mpg_fill_158 : decode b_Mpg_fill 158 = .ok (.iadd, 1) := by decide +kernel
theorem d_Mpg_fill_159 : decode b_Mpg_fill 159 = .ok (.istore 4, 2) := by decide +kernel
theorem d_Mpg_fill_161 : decode b_Mpg_fill 161 = .ok (.iinc 5 1, 3) := by decide +kernel
theorem d_Mpg_fill_164 : decode b_Mpg_fill 164 = .ok (.goto (-70), 3) := by decide +kernel
theorem d_Mpg_fill_167 : decode b_Mpg_fill 167 = .ok (.return_, 1) := by decide +kernel
theorem q_Mpg_fill : px_y y_Mpg_fill 2 := by unfold px_y; decide +kernel
set_option maxHeartbeats 4000000 in
set_option maxRecDepth 100000 in
theorem c_mp_fill (l : Launch) (D : va_G) (cs : Nat → ClassId) (ma0 : Nat → Nat → Int32) (mb : Nat → Nat → Int32) (ys : Int) (ns : Int) (nf : Int) (d : Nat) (lo : Int) (hi : Int) (wt : Int) (V : Nat → Nat → Prop) (vl : Int) (vh : Int) (X9 : Cx) (fi : Int) (lvq : Nat) (bh : Int) (t9 : Nat) (S9 : List Nat) (h : Nat) (r : Nat → Nat) (g : Nat → Nat → Option Nat) (tf : Nat → Int32) (ta : Nat → Nat → Int32) (pf : Nat → Int32) (na : Nat → Nat → Int32) (ma : Nat → Nat → Int32) (wa : Nat → Nat → Int32) (cf : Nat → Int32) (ca : Nat → Nat → Int32) (xf : Nat → Int32) (xa : Nat → Nat → Int32) (ef : Nat → Int32) (ea : Nat → Nat → Int32) (p0 p1 : Int32)  (g0 : (pf 13).toInt ≤ 2100) (g1 : (tf 6).toInt ≤ 2049) (g2 : (cf 38).toInt = nf) (g3 : 0 ≤ nf) (g4 : 0 ≤ (ef 60).toInt) (g5 : (ef 60).toInt + wt ≤ 7006) (g6 : (S9.length : Int) + bh ≤ X9.tall fi) (g7 : (S9.length : Int) + 1 ≤ X9.tall fi) (g8 : 0 ≤ (tf 5).toInt) (g9 : (tf 5).toInt ≤ 2048) (htk : TkI tf ta) (hft : FnT (tf 6).toInt na ca (cf 38).toInt) (hfp : FnP na ca nf) (hab : Ann na ma0 mb) (hkc : Kc na mb ma) (htb : Ts (Gk ta ca na ma0 ns ys nf) na mb vl vh V) (hcx : CxI X9 fi ca ns ys nf (tkl na ma0 ca)) (hvr : VrK ta (tf 6).toInt na ma0 mb ca V d (pf 13).toInt lo hi wt bh t9 p0) (hy20 : p1 = mb 20 p0.toNatClampNeg) : MetV l y_Mpg_fill b_Mpg_fill 7 D cs (2 * d + 11) (120 * d + 380) (0) (0) [.ref h, .int p0, .int p1] [wdP cs h r g tf ta pf na ma wa cf ca ef ea xf xa] (oX (fun A U H => (oP A g U H)) [wdP cs h r g tf ta pf na ma wa cf ca ef ea xf xa]) (fun ps => ∃ (ef' : Nat → Int32) (ea' : Nat → Nat → Int32), (ps = [wdP cs h r g tf ta pf na ma wa cf ca ef' ea' xf xa]) ∧ ((ef 60).toInt ≤ (ef' 60).toInt) ∧ ((ef' 64).toInt = (ef 64).toInt) ∧ ((ef' 65).toInt = (ef 65).toInt) ∧ (CdK ea ea' (ef 60).toInt) ∧ (SgQ X9 (ea' 61) (ef 60).toInt (ef' 60).toInt fi S9 S9 lvq) ∧ ((ef' 60).toInt ≤ (ef 60).toInt + wt - 6)) := by
  refine px_enter (by decide) (Nat.le_of_ble_eq_true rfl) ?_
  intro p e s m below meth c A ls hAe S hr hlk hnm hA hT hX hw hl
  have hl : lv_has ls 7 [(0, .ref h), (1, .int p0), (2, .int p1)] := hl
  have lp0 := Int32.le_toInt p0
  have up0 := Int32.toInt_lt p0
  have lp1 := Int32.le_toInt p1
  have up1 := Int32.toInt_lt p1
  have cst0 : (0 : Int32).toInt = 0 := rfl
  have cst1 : (1 : Int32).toInt = 1 := rfl
  have cst2 : (2 : Int32).toInt = 2 := rfl
  have cst3 : (3 : Int32).toInt = 3 := rfl
  have cst21 : (21 : Int32).toInt = 21 := rfl
  have cst34 : (34 : Int32).toInt = 34 := rfl
  have cst1000 : (1000 : Int32).toInt = 1000 := rfl
  have hX : (fun A U H => (oP A g U H)) A s s.heap := by rw [hAe]; exact hX
  have hP := hX
  have hZ := hP.1
  have hF0 := hP.2.1
  have hf11 := hft.1
  have han := hab.kc hkc
  have hts := htb.kc hkc
  have hcd : CdK ea ea (ef 60).toInt := CdK.rf
  have hl1 : ((0 :: S9).length : Int) = S9.length + 1 := (by rw [List.length_cons]; omega)
  have hsg : SgQ X9 (ea 61) (ef 60).toInt (ef 60).toInt fi S9 S9 lvq := sgq_0 (by omega)
  have hvg := hvr.1.rng
  have hvk0 := hvr.1.kind
  have hvn := hvr.2.2.2.1
  have hv20 : p1.toNatClampNeg = (mb 20 p0.toNatClampNeg).toNatClampNeg := (by rw [hy20])
  have J20 : ∀ (n_20 : Nat) (ef_20 : Nat → Int32) (ea_20 : Nat → Nat → Int32) (mid_20 : Int) (wr_20 : Int) (x20_3 x20_4 : Int32) (H : Heap) (locs : List Loc) (ls : Array Slot), ((ef 60).toInt ≤ (ef_20 60).toInt) → ((ef_20 60).toInt + wr_20 ≤ (ef 60).toInt + wt - 6) → (0 ≤ x20_3.toInt) → (0 ≤ mid_20) → (mid_20 ≤ hi) → ((ef_20 64).toInt = (ef 64).toInt) → ((ef_20 65).toInt = (ef 65).toInt) → ((mb 22 p0.toNatClampNeg).toInt = 2) → (CdK ea ea_20 (ef 60).toInt) → (FlR ta (tf 6).toInt na ma0 ca d (pf 13).toInt mid_20 hi wr_20 x20_3.toInt p1 x20_4) → (SgQ X9 (ea_20 61) (ef 60).toInt (ef_20 60).toInt fi S9 S9 lvq) → hi - mid_20 < (n_20 : Int) → pw D A s.heap H locs [wdP cs h r g tf ta pf na ma wa cf ca ef_20 ea_20 xf xa] → lv_has ls 7 [(0, .ref h), (1, .int p0), (2, .int p1), (3, .int x20_3), (4, .int x20_4)] → W p l e { frames := (2 * d + 11), cells := 0, slots := 0, locals := (120 * d + 380) } s m [.ref h, .int p0, .int p1].toArray below meth c H locs 0 0 (MQ below (va_Qv (fun ps => ∃ (ef' : Nat → Int32) (ea' : Nat → Nat → Int32), (ps = [wdP cs h r g tf ta pf na ma wa cf ca ef' ea' xf xa]) ∧ ((ef 60).toInt ≤ (ef' 60).toInt) ∧ ((ef' 64).toInt = (ef 64).toInt) ∧ ((ef' 65).toInt = (ef 65).toInt) ∧ (CdK ea ea' (ef 60).toInt) ∧ (SgQ X9 (ea' 61) (ef 60).toInt (ef' 60).toInt fi S9 S9 lvq) ∧ ((ef' 60).toInt ≤ (ef 60).toInt + wt - 6)) (pc_B D (va_A ([wdP cs h r g tf ta pf na ma wa cf ca ef ea xf xa] : List va_W).flatten s.heap.size)) (va_A ([wdP cs h r g tf ta pf na ma wa cf ca ef ea xf xa] : List va_W).flatten s.heap.size)) [.ref h, .int p0, .int p1].toArray s 0 0 A) (F0 m 20 ls []) := by
    intro  n_20
    induction n_20 with
    | zero =>
      intro ef_20 ea_20 mid_20 wr_20 x20_3 x20_4 H locs ls k20_0 k20_1 k20_2 k20_3 k20_4 k20_5 k20_6 k20_7 k20_8 k20_9 k20_10 hm hw hl
      have lx20_3 := Int32.le_toInt x20_3
      have ux20_3 := Int32.toInt_lt x20_3
      have lx20_4 := Int32.le_toInt x20_4
      have ux20_4 := Int32.toInt_lt x20_4
      have hcd := k20_8
      have hfl9 := k20_9
      have hfw := hfl9.wp
      have hsg := k20_10
      exact absurd hm (by omega)
    | succ n_20 ih20 =>
      intro ef_20 ea_20 mid_20 wr_20 x20_3 x20_4 H locs ls k20_0 k20_1 k20_2 k20_3 k20_4 k20_5 k20_6 k20_7 k20_8 k20_9 k20_10 hm hw hl
      have lx20_3 := Int32.le_toInt x20_3
      have ux20_3 := Int32.toInt_lt x20_3
      have lx20_4 := Int32.le_toInt x20_4
      have ux20_4 := Int32.toInt_lt x20_4
      have hcd := k20_8
      have hfl9 := k20_9
      have hfw := hfl9.wp
      have hsg := k20_10
      refine lv_iload S.x S.b d_Mpg_fill_20 (lv_at hl 4 rfl) ?_
      refine lv_if_lt (tgt := 63) S.x S.b d_Mpg_fill_22 (by decide) (fun c1 => ?_) (fun c1 => ?_)
      · have nc1 : x20_4.toInt < (0 : Int) := (i_lt (x := x20_4) (y := 0)).mp c1
        refine lv_goto (tgt := 167) S.x S.b d_Mpg_fill_63 (by decide) ?_
        exact px_vret S hr hlk hAe hw (Nat.le_of_ble_eq_true rfl) (Nat.le_of_ble_eq_true rfl) (⟨ef_20, ea_20, rfl, (show (ef 60).toInt ≤ (ef_20 60).toInt from by first | exact k20_0 | omega), (show (ef_20 64).toInt = (ef 64).toInt from by first | exact k20_5 | omega), (show (ef_20 65).toInt = (ef 65).toInt from by first | exact k20_6 | omega), (show CdK ea ea_20 (ef 60).toInt from hcd), (show SgQ X9 (ea_20 61) (ef 60).toInt (ef_20 60).toInt fi S9 S9 lvq from (hsg.tq (by omega) (by omega) rfl)), (show (ef_20 60).toInt ≤ (ef 60).toInt + wt - 6 from by first | exact oz_e7852b0d25 k20_1 hfw | omega)⟩) d_Mpg_fill_167
      · have nc1 : ¬ x20_4.toInt < (0 : Int) := mt (i_lt (x := x20_4) (y := 0)).mpr c1
        refine lv_aload_n S.x S.b d_Mpg_fill_25 rfl (lv_at hl 0 rfl) ?_
        obtain ⟨md3, wa4, hm_md3, hfi, hfl8⟩ := hfl9.go (by omega) (i' := x20_3.toInt + 1) rfl; have hfw8 := hfl8.wp; have hcu := Int32.toInt_lt (ca 52 p1.toNatClampNeg)
        obtain ⟨hsy2, -⟩ := hvr.f2 htb hab (by omega)
        refine lv_iconst (v := 1) S.x S.b d_Mpg_fill_26 (by decide) ?_
        refine lv_aload_n S.x S.b d_Mpg_fill_27 rfl (lv_at hl 0 rfl) ?_
        refine px_get S k_Mpg hT hw 0 0 20 (v := .ref (r 20)) rfl rfl rfl (by decide) m10_6 d_Mpg_fill_28 ?_
        refine lv_iload S.x S.b d_Mpg_fill_31 (lv_at hl 4 rfl) ?_
        refine px_iald S hT hw 0 16 (n := 2100) (f := (ma 20)) rfl gp_20 (x := x20_4) (vp_in_iff.mpr (by first | exact oz_e6f6ba9544 nc1 hm_md3.2.2.2.2.2.2 g0 | (constructor <;> omega))) d_Mpg_fill_33 ?_
        refine lv_topi (fun z5 ez5 => ?_)
        have lz5 := Int32.le_toInt z5
        have uz5 := Int32.toInt_lt z5
        refine lv_iconst (v := 0) S.x S.b d_Mpg_fill_34 (by decide) ?_
        refine px_calli (pr := []) (px_runV (As := [.int 1, .int z5, .int 0]) (rest := []) S (c_mp_emit l D cs h r g tf ta pf na ma wa cf ca xf xa ef_20 ea_20 1 z5 0  (show 0 ≤ (ef_20 60).toInt from by first | exact oz_16d7fa9f32 k20_0 g4 | omega) (show (ef_20 60).toInt < 7000 from by omega) _) hT (pr := []) (pcs := [wdP cs h r g tf ta pf na ma wa cf ca ef_20 ea_20 xf xa]) hw px_X.tt (px_recv hT hw 0 0 rfl rfl rfl) m13_86 m13_83 m13_85 ms_14_2 m1_21 q_Mpg_emit ⟨show 0 + 1 ≤ (2 * d + 11) from (by first | exact oz_1e76c4e141 | omega), show 8 + (4 + 11) + 0 ≤ (120 * d + 380) from (by first | exact oz_13b734c000 | omega)⟩ hl.1 rfl (Nat.le_of_ble_eq_true rfl) d_Mpg_fill_35 ⟨Nat.le_of_ble_eq_true rfl, Nat.le_of_ble_eq_true rfl⟩) hw hA (fun v11 p10 H locs hp10 hw => ?_)
        obtain ⟨ef8, ea9, rfl, e12, e13, e14, e15, e16⟩ := hp10
        have e12 : v11.toInt = (ef_20 60).toInt := e12
        have e13 : (ef8 60).toInt = (ef_20 60).toInt + 1 := e13
        have e14 : (ef8 64).toInt = (ef_20 64).toInt := e14
        have e15 : (ef8 65).toInt = (ef_20 65).toInt := e15
        have e16 : EmU ea_20 ea9 (ef_20 60) (1 : Int32) z5 (0 : Int32) := e16
        have hcd := hcd.tr e16.cd (by omega)
        have hsg := hsg.em e16 (by omega) rfl (by first | omega | (simp only [List.length_cons, List.length_append]; omega)) (.push S9 rfl)
        have hw : pw D A s.heap H locs [wdP cs h r g tf ta pf na ma wa cf ca ef8 ea9 xf xa] := hw
        have lv11 := Int32.le_toInt v11
        have uv11 := Int32.toInt_lt v11
        refine lv_pop S.x S.b d_Mpg_fill_38 rfl ?_
        refine lv_aload_n S.x S.b d_Mpg_fill_39 rfl (lv_at hl 0 rfl) ?_
        refine lv_bipush (v := 21) S.x S.b d_Mpg_fill_40 (by decide) ?_
        refine lv_iload_n S.x S.b d_Mpg_fill_42 rfl (lv_at hl 2 rfl) ?_
        refine lv_iload_n S.x S.b d_Mpg_fill_43 rfl (lv_at hl 3 rfl) ?_
        refine px_calli (pr := []) (px_runV (As := [.int 21, .int p1, .int x20_3]) (rest := []) S (c_mp_emit l D cs h r g tf ta pf na ma wa cf ca xf xa ef8 ea9 21 p1 x20_3  (show 0 ≤ (ef8 60).toInt from by first | exact oz_2188d1bf01 e13 k20_0 g4 | omega) (show (ef8 60).toInt < 7000 from by omega) _) hT (pr := []) (pcs := [wdP cs h r g tf ta pf na ma wa cf ca ef8 ea9 xf xa]) hw px_X.tt (px_recv hT hw 0 0 rfl rfl rfl) m13_86 m13_83 m13_85 ms_14_2 m1_21 q_Mpg_emit ⟨show 0 + 1 ≤ (2 * d + 11) from (by first | exact oz_1e76c4e141 | omega), show 8 + (4 + 11) + 0 ≤ (120 * d + 380) from (by first | exact oz_13b734c000 | omega)⟩ hl.1 rfl (Nat.le_of_ble_eq_true rfl) d_Mpg_fill_44 ⟨Nat.le_of_ble_eq_true rfl, Nat.le_of_ble_eq_true rfl⟩) hw hA (fun v22 p21 H locs hp21 hw => ?_)
        obtain ⟨ef19, ea20, rfl, e23, e24, e25, e26, e27⟩ := hp21
        have e23 : v22.toInt = (ef8 60).toInt := e23
        have e24 : (ef19 60).toInt = (ef8 60).toInt + 1 := e24
        have e25 : (ef19 64).toInt = (ef8 64).toInt := e25
        have e26 : (ef19 65).toInt = (ef8 65).toInt := e26
        have e27 : EmU ea9 ea20 (ef8 60) (21 : Int32) p1 x20_3 := e27
        have hcd := hcd.tr e27.cd (by omega)
        have hsg := hsg.em e27 (by omega) rfl (by first | omega | (simp only [List.length_cons, List.length_append]; omega)) (hcx.fill (by rw [hy20]; exact hsy2) rfl (by omega))
        have hw : pw D A s.heap H locs [wdP cs h r g tf ta pf na ma wa cf ca ef19 ea20 xf xa] := hw
        have lv22 := Int32.le_toInt v22
        have uv22 := Int32.toInt_lt v22
        refine lv_pop S.x S.b d_Mpg_fill_47 rfl ?_
        obtain ⟨z28, ez28⟩ : ∃ y : Int32, y = x20_3 + 1 := ⟨_, rfl⟩
        have tz28 : z28.toInt = (x20_3.toInt + 1 + 2147483648) % 4294967296 - 2147483648 := by rw [ez28]; exact i_add x20_3 1
        have lz28 := Int32.le_toInt z28
        have uz28 := Int32.toInt_lt z28
        try replace tz28 : z28.toInt = x20_3.toInt + 1 := by omega
        refine lv_iinc (v := z28) (lv' := [(3, .int z28), (0, .ref h), (1, .int p0), (2, .int p1), (4, .int x20_4)]) S.x S.b d_Mpg_fill_48 hl (k := 3) rfl (by rw [ez28]; rfl) (by decide) rfl (fun ls hl => ?_)
        refine lv_aload_n S.x S.b d_Mpg_fill_51 rfl (lv_at hl 1 rfl) ?_
        refine px_get S k_Mpg hT hw 0 0 21 (v := .ref (r 21)) rfl rfl rfl (by decide) m10_7 d_Mpg_fill_52 ?_
        refine lv_iload S.x S.b d_Mpg_fill_55 (lv_at hl 4 rfl) ?_
        refine px_iald S hT hw 0 17 (n := 2100) (f := (na 21)) rfl gp_21 (x := x20_4) (vp_in_iff.mpr (by first | exact oz_e6f6ba9544 nc1 hm_md3.2.2.2.2.2.2 g0 | (constructor <;> omega))) d_Mpg_fill_57 ?_
        refine lv_topi (fun z29 ez29 => ?_)
        have lz29 := Int32.le_toInt z29
        have uz29 := Int32.toInt_lt z29
        refine lv_istore (lv' := [(4, .int z29), (3, .int z28), (0, .ref h), (1, .int p0), (2, .int p1)]) S.x S.b d_Mpg_fill_58 hl (by decide) rfl (fun ls hl => ?_)
        refine lv_goto (tgt := 20) S.x S.b d_Mpg_fill_60 (by decide) ?_
        exact ih20 ef19 ea20 md3 (wr_20 - wa4) z28 z29 _ _ ls (show (ef 60).toInt ≤ (ef19 60).toInt from by first | exact oz_5c83606361 k20_0 e24 e13 | omega) (show (ef19 60).toInt + (wr_20 - wa4) ≤ (ef 60).toInt + wt - 6 from by omega) (show 0 ≤ z28.toInt from by first | exact oz_ae613611c0 tz28 k20_2 | omega) (show 0 ≤ md3 from by first | exact oz_d3d3a7f06a hm_md3.2.2.2.1 nc1 | omega) (show md3 ≤ hi from by first | exact hm_md3.2.1 | omega) (show (ef19 64).toInt = (ef 64).toInt from by first | exact oz_e13fc83238 k20_5 e25 e14 | omega) (show (ef19 65).toInt = (ef 65).toInt from by first | exact oz_e13fc83238 k20_6 e26 e15 | omega) (show (mb 22 p0.toNatClampNeg).toInt = 2 from by first | exact k20_7 | omega) (show CdK ea ea20 (ef 60).toInt from hcd) (show FlR ta (tf 6).toInt na ma0 ca d (pf 13).toInt md3 hi (wr_20 - wa4) z28.toInt p1 z29 from (by rw [ez29, show z28.toInt = x20_3.toInt + 1 by omega]; exact hfl8)) (show SgQ X9 (ea20 61) (ef 60).toInt (ef19 60).toInt fi S9 S9 lvq from (hsg.tq (by omega) (by omega) rfl)) (show hi - md3 < (n_20 : Int) from by first | exact oz_2b66180fc4 hm hm_md3.2.2.2.1 hm_md3.2.2.1 | omega) hw (lv_sub hl [2, 3, 4, 1, 0] rfl)
  have J94 : ∀ (n_94 : Nat) (ef_94 : Nat → Int32) (ea_94 : Nat → Nat → Int32) (x94_3 x94_4 x94_5 : Int32) (H : Heap) (locs : List Loc) (ls : Array Slot), ((ef_94 60).toInt = (ef 60).toInt + 2 * x94_5.toInt) → (0 ≤ x94_5.toInt) → (x94_5.toInt ≤ wh ta (mb 19 p0.toNatClampNeg)) → (0 ≤ x94_4.toInt) → (x94_4.toInt ≤ 2050 + 2 * x94_5.toInt) → ((ef_94 64).toInt = (ef 64).toInt) → ((ef_94 65).toInt = (ef 65).toInt) → ((mb 22 p0.toNatClampNeg).toInt = 3) → (CdK ea ea_94 (ef 60).toInt) → (SgQ X9 (ea_94 61) (ef 60).toInt (ef_94 60).toInt fi S9 S9 lvq) → wh ta (mb 19 p0.toNatClampNeg) - x94_5.toInt < (n_94 : Int) → pw D A s.heap H locs [wdP cs h r g tf ta pf na ma wa cf ca ef_94 ea_94 xf xa] → lv_has ls 7 [(0, .ref h), (1, .int p0), (2, .int p1), (3, .int x94_3), (4, .int x94_4), (5, .int x94_5)] → W p l e { frames := (2 * d + 11), cells := 0, slots := 0, locals := (120 * d + 380) } s m [.ref h, .int p0, .int p1].toArray below meth c H locs 0 0 (MQ below (va_Qv (fun ps => ∃ (ef' : Nat → Int32) (ea' : Nat → Nat → Int32), (ps = [wdP cs h r g tf ta pf na ma wa cf ca ef' ea' xf xa]) ∧ ((ef 60).toInt ≤ (ef' 60).toInt) ∧ ((ef' 64).toInt = (ef 64).toInt) ∧ ((ef' 65).toInt = (ef 65).toInt) ∧ (CdK ea ea' (ef 60).toInt) ∧ (SgQ X9 (ea' 61) (ef 60).toInt (ef' 60).toInt fi S9 S9 lvq) ∧ ((ef' 60).toInt ≤ (ef 60).toInt + wt - 6)) (pc_B D (va_A ([wdP cs h r g tf ta pf na ma wa cf ca ef ea xf xa] : List va_W).flatten s.heap.size)) (va_A ([wdP cs h r g tf ta pf na ma wa cf ca ef ea xf xa] : List va_W).flatten s.heap.size)) [.ref h, .int p0, .int p1].toArray s 0 0 A) (F0 m 94 ls []) := by
    intro  n_94
    induction n_94 with
    | zero =>
      intro ef_94 ea_94 x94_3 x94_4 x94_5 H locs ls k94_0 k94_1 k94_2 k94_3 k94_4 k94_5 k94_6 k94_7 k94_8 k94_9 hm hw hl
      have lx94_3 := Int32.le_toInt x94_3
      have ux94_3 := Int32.toInt_lt x94_3
      have lx94_4 := Int32.le_toInt x94_4
      have ux94_4 := Int32.toInt_lt x94_4
      have lx94_5 := Int32.le_toInt x94_5
      have ux94_5 := Int32.toInt_lt x94_5
      have hcd := k94_8
      have hsg := k94_9
      exact absurd hm (by omega)
    | succ n_94 ih94 =>
      intro ef_94 ea_94 x94_3 x94_4 x94_5 H locs ls k94_0 k94_1 k94_2 k94_3 k94_4 k94_5 k94_6 k94_7 k94_8 k94_9 hm hw hl
      have lx94_3 := Int32.le_toInt x94_3
      have ux94_3 := Int32.toInt_lt x94_3
      have lx94_4 := Int32.le_toInt x94_4
      have ux94_4 := Int32.toInt_lt x94_4
      have lx94_5 := Int32.le_toInt x94_5
      have ux94_5 := Int32.toInt_lt x94_5
      have hcd := k94_8
      have hsg := k94_9
      refine lv_iload S.x S.b d_Mpg_fill_94 (lv_at hl 5 rfl) ?_
      obtain ⟨hsy2, ht3, hwh3, hsz3⟩ := hvr.f3 htb hab (by omega); have hb3 := tk_b htk (x := mb 19 p0.toNatClampNeg) (by omega) (by omega); have hw43 := tk_w4 htk (x := mb 19 p0.toNatClampNeg) (by omega) (by omega) (z := ta 10 (mb 19 p0.toNatClampNeg).toNatClampNeg) rfl ht3.2.2; have hwe3 : wh ta (mb 19 p0.toNatClampNeg) = (ta 10 (mb 19 p0.toNatClampNeg).toNatClampNeg).toInt := rfl
      refine lv_aload_n S.x S.b d_Mpg_fill_96 rfl (lv_at hl 0 rfl) ?_
      refine px_get S k_Mpg hT hw 0 0 10 (v := .ref (r 10)) rfl rfl rfl (by decide) m9_234 d_Mpg_fill_97 ?_
      refine lv_aload_n S.x S.b d_Mpg_fill_100 rfl (lv_at hl 0 rfl) ?_
      refine px_get S k_Mpg hT hw 0 0 19 (v := .ref (r 19)) rfl rfl rfl (by decide) m10_5 d_Mpg_fill_101 ?_
      refine lv_iload_n S.x S.b d_Mpg_fill_104 rfl (lv_at hl 1 rfl) ?_
      refine px_iald S hT hw 0 15 (n := 2100) (f := (ma 19)) rfl gp_19 (x := p0) (vp_in_iff.mpr (by constructor <;> omega)) d_Mpg_fill_105 ?_
      refine lv_topi (fun z30 ez30 => ?_)
      have lz30 := Int32.le_toInt z30
      have uz30 := Int32.toInt_lt z30
      have hz_z30 : z30 = mb 19 p0.toNatClampNeg := (by rw [ez30, hkc.g (x := p0.toNatClampNeg) (by omega)]); have hzi_z30 : z30.toInt = (mb 19 p0.toNatClampNeg).toInt := (by rw [hz_z30])
      refine px_iald S hT hw 0 9 (n := 2060) (f := (ta 10)) rfl gp_10 (x := z30) (vp_in_iff.mpr (by constructor <;> omega)) d_Mpg_fill_106 ?_
      refine lv_topi (fun z31 ez31 => ?_)
      have lz31 := Int32.le_toInt z31
      have uz31 := Int32.toInt_lt z31
      have rz31 : z31.toInt = wh ta (mb 19 p0.toNatClampNeg) := (by rw [ez31, hz_z30]; rfl)
      refine lv_icmp_ge (tgt := 167) S.x S.b d_Mpg_fill_107 (by decide) (fun c32 => ?_) (fun c32 => ?_)
      · have nc32 : z31.toInt ≤ x94_5.toInt := (i_le (x := z31) (y := x94_5)).mp c32
        exact px_vret S hr hlk hAe hw (Nat.le_of_ble_eq_true rfl) (Nat.le_of_ble_eq_true rfl) (⟨ef_94, ea_94, rfl, (show (ef 60).toInt ≤ (ef_94 60).toInt from by first | exact oz_3357465290 k94_0 k94_1 | omega), (show (ef_94 64).toInt = (ef 64).toInt from by first | exact k94_5 | omega), (show (ef_94 65).toInt = (ef 65).toInt from by first | exact k94_6 | omega), (show CdK ea ea_94 (ef 60).toInt from hcd), (show SgQ X9 (ea_94 61) (ef 60).toInt (ef_94 60).toInt fi S9 S9 lvq from (hsg.tq (by omega) (by omega) rfl)), (show (ef_94 60).toInt ≤ (ef 60).toInt + wt - 6 from by omega)⟩) d_Mpg_fill_167
      · have nc32 : ¬ z31.toInt ≤ x94_5.toInt := mt (i_le (x := z31) (y := x94_5)).mpr c32
        refine lv_aload_n S.x S.b d_Mpg_fill_110 rfl (lv_at hl 0 rfl) ?_
        refine lv_iload S.x S.b d_Mpg_fill_111 (lv_at hl 4 rfl) ?_
        refine lv_bipush (v := 34) S.x S.b d_Mpg_fill_113 (by decide) ?_
        refine px_calli (pr := []) (px_runV (As := [.int x94_4, .int 34]) (rest := []) S (c_mp_character l D cs h r g tf ta pf na ma wa cf ca ef_94 ea_94 xf xa x94_4 34  (show 0 ≤ (tf 5).toInt from by first | exact g8 | omega) (show (tf 5).toInt ≤ 2048 from by first | exact g9 | omega) (show 0 ≤ x94_4.toInt from by first | exact k94_3 | omega) (show x94_4.toInt ≤ 100000 from by first | exact oz_e736c01dcb k94_4 k94_2 hwe3 hw43.2.1 | omega) (show 0 ≤ (34 : Int) from by first | exact oz_3355060c74 | omega) (show (34 : Int) ≤ 100 from by first | exact oz_e07fc907b2 | omega) _) hT (pr := []) (pcs := [wdP cs h r g tf ta pf na ma wa cf ca ef_94 ea_94 xf xa]) hw px_X.tt (px_recv hT hw 0 0 rfl rfl rfl) m11_180 m11_177 m11_179 ms_8_5 m1_21 q_Mpg_character ⟨show 1 + 1 ≤ (2 * d + 11) from (by first | exact oz_a209f3a9d1 | omega), show 8 + (6 + 11) + 30 ≤ (120 * d + 380) from (by first | exact oz_4b3295d068 | omega)⟩ hl.1 rfl (Nat.le_of_ble_eq_true rfl) d_Mpg_fill_115 ⟨Nat.le_of_ble_eq_true rfl, Nat.le_of_ble_eq_true rfl⟩) hw hA (fun v35 p34 H locs hp34 hw => ?_)
        obtain ⟨rfl, e36, e37, e38, e39, e40⟩ := hp34
        have e36 : -1 ≤ v35.toInt := e36
        have e37 : v35.toInt ≤ 1126 := e37
        have e38 : 0 ≤ v35.toInt → x94_4.toInt < (tf 5).toInt := e38
        have e39 : 1000 ≤ v35.toInt → x94_4.toInt + 1 < (tf 5).toInt := e39
        have e40 : R_mp_character tf ta x94_4 (34 : Int32) v35 := e40
        have hw : pw D A s.heap H locs [wdP cs h r g tf ta pf na ma wa cf ca ef_94 ea_94 xf xa] := hw
        have lv35 := Int32.le_toInt v35
        have uv35 := Int32.toInt_lt v35
        refine lv_istore (lv' := [(6, .int v35), (0, .ref h), (1, .int p0), (2, .int p1), (3, .int x94_3), (4, .int x94_4), (5, .int x94_5)]) S.x S.b d_Mpg_fill_118 hl (by decide) rfl (fun ls hl => ?_)
        refine lv_aload_n S.x S.b d_Mpg_fill_120 rfl (lv_at hl 1 rfl) ?_
        refine lv_iconst (v := 1) S.x S.b d_Mpg_fill_121 (by decide) ?_
        refine lv_iload S.x S.b d_Mpg_fill_122 (lv_at hl 0 rfl) ?_
        refine lv_sipush (v := 1000) S.x S.b d_Mpg_fill_124 (by decide) ?_
        refine lv_irem S.x S.b d_Mpg_fill_127 (fun hz0 => by have hz1 := i_eq.mp hz0; omega) ?_
        refine lv_topi (fun z41 ez41 => ?_)
        have lz41 := Int32.le_toInt z41
        have uz41 := Int32.toInt_lt z41
        refine lv_iconst (v := 0) S.x S.b d_Mpg_fill_128 (by decide) ?_
        refine px_calli (pr := []) (px_runV (As := [.int 1, .int z41, .int 0]) (rest := []) S (c_mp_emit l D cs h r g tf ta pf na ma wa cf ca xf xa ef_94 ea_94 1 z41 0  (show 0 ≤ (ef_94 60).toInt from by first | exact oz_9a0d252aad k94_0 g4 k94_1 | omega) (show (ef_94 60).toInt < 7000 from by omega) _) hT (pr := []) (pcs := [wdP cs h r g tf ta pf na ma wa cf ca ef_94 ea_94 xf xa]) hw px_X.tt (px_recv hT hw 0 0 rfl rfl rfl) m13_86 m13_83 m13_85 ms_14_2 m1_21 q_Mpg_emit ⟨show 0 + 1 ≤ (2 * d + 11) from (by first | exact oz_1e76c4e141 | omega), show 8 + (4 + 11) + 0 ≤ (120 * d + 380) from (by first | exact oz_13b734c000 | omega)⟩ hl.1 rfl (Nat.le_of_ble_eq_true rfl) d_Mpg_fill_129 ⟨Nat.le_of_ble_eq_true rfl, Nat.le_of_ble_eq_true rfl⟩) hw hA (fun v47 p46 H locs hp46 hw => ?_)
        obtain ⟨ef44, ea45, rfl, e48, e49, e50, e51, e52⟩ := hp46
        have e48 : v47.toInt = (ef_94 60).toInt := e48
        have e49 : (ef44 60).toInt = (ef_94 60).toInt + 1 := e49
        have e50 : (ef44 64).toInt = (ef_94 64).toInt := e50
        have e51 : (ef44 65).toInt = (ef_94 65).toInt := e51
        have e52 : EmU ea_94 ea45 (ef_94 60) (1 : Int32) z41 (0 : Int32) := e52
        have hcd := hcd.tr e52.cd (by omega)
        have hsg := hsg.em e52 (by omega) rfl (by first | omega | (simp only [List.length_cons, List.length_append]; omega)) (.push S9 rfl)
        have hw : pw D A s.heap H locs [wdP cs h r g tf ta pf na ma wa cf ca ef44 ea45 xf xa] := hw
        have lv47 := Int32.le_toInt v47
        have uv47 := Int32.toInt_lt v47
        refine lv_pop S.x S.b d_Mpg_fill_132 rfl ?_
        refine lv_aload_n S.x S.b d_Mpg_fill_133 rfl (lv_at hl 1 rfl) ?_
        refine lv_bipush (v := 21) S.x S.b d_Mpg_fill_134 (by decide) ?_
        refine lv_iload_n S.x S.b d_Mpg_fill_136 rfl (lv_at hl 3 rfl) ?_
        refine lv_iload S.x S.b d_Mpg_fill_137 (lv_at hl 6 rfl) ?_
        refine px_calli (pr := []) (px_runV (As := [.int 21, .int p1, .int x94_5]) (rest := []) S (c_mp_emit l D cs h r g tf ta pf na ma wa cf ca xf xa ef44 ea45 21 p1 x94_5  (show 0 ≤ (ef44 60).toInt from by first | exact oz_f325019be4 e49 k94_0 g4 k94_1 | omega) (show (ef44 60).toInt < 7000 from by omega) _) hT (pr := []) (pcs := [wdP cs h r g tf ta pf na ma wa cf ca ef44 ea45 xf xa]) hw px_X.tt (px_recv hT hw 0 0 rfl rfl rfl) m13_86 m13_83 m13_85 ms_14_2 m1_21 q_Mpg_emit ⟨show 0 + 1 ≤ (2 * d + 11) from (by first | exact oz_1e76c4e141 | omega), show 8 + (4 + 11) + 0 ≤ (120 * d + 380) from (by first | exact oz_13b734c000 | omega)⟩ hl.1 rfl (Nat.le_of_ble_eq_true rfl) d_Mpg_fill_139 ⟨Nat.le_of_ble_eq_true rfl, Nat.le_of_ble_eq_true rfl⟩) hw hA (fun v58 p57 H locs hp57 hw => ?_)
        obtain ⟨ef55, ea56, rfl, e59, e60, e61, e62, e63⟩ := hp57
        have e59 : v58.toInt = (ef44 60).toInt := e59
        have e60 : (ef55 60).toInt = (ef44 60).toInt + 1 := e60
        have e61 : (ef55 64).toInt = (ef44 64).toInt := e61
        have e62 : (ef55 65).toInt = (ef44 65).toInt := e62
        have e63 : EmU ea45 ea56 (ef44 60) (21 : Int32) p1 x94_5 := e63
        have hcd := hcd.tr e63.cd (by omega)
        have hsg := hsg.em e63 (by omega) rfl (by first | omega | (simp only [List.length_cons, List.length_append]; omega)) (hcx.fill (by rw [hy20]; exact hsy2) rfl (by rw [hy20]; omega))
        have hw : pw D A s.heap H locs [wdP cs h r g tf ta pf na ma wa cf ca ef55 ea56 xf xa] := hw
        have lv58 := Int32.le_toInt v58
        have uv58 := Int32.toInt_lt v58
        refine lv_pop S.x S.b d_Mpg_fill_142 rfl ?_
        refine lv_iload S.x S.b d_Mpg_fill_143 (lv_at hl 5 rfl) ?_
        refine lv_iload S.x S.b d_Mpg_fill_145 (lv_at hl 0 rfl) ?_
        refine lv_sipush (v := 1000) S.x S.b d_Mpg_fill_147 (by decide) ?_
        refine lv_icmp_ge (tgt := 157) S.x S.b d_Mpg_fill_150 (by decide) (fun c64 => ?_) (fun c64 => ?_)
        · have nc64 : (1000 : Int) ≤ v35.toInt := (i_le (x := 1000) (y := v35)).mp c64
          refine lv_iconst (v := 2) S.x S.b d_Mpg_fill_157 (by decide) ?_
          refine lv_iadd S.x S.b d_Mpg_fill_158 ?_
          refine lv_topi (fun z66 ez66 => ?_)
          have tz66 : z66.toInt = (x94_4.toInt + (2 : Int) + 2147483648) % 4294967296 - 2147483648 := by rw [ez66]; exact i_add x94_4 2
          have lz66 := Int32.le_toInt z66
          have uz66 := Int32.toInt_lt z66
          try replace tz66 : z66.toInt = x94_4.toInt + (2 : Int) := by omega
          refine lv_istore (lv' := [(4, .int z66), (6, .int v35), (0, .ref h), (1, .int p0), (2, .int p1), (3, .int x94_3), (5, .int x94_5)]) S.x S.b d_Mpg_fill_159 hl (by decide) rfl (fun ls hl => ?_)
          obtain ⟨z67, ez67⟩ : ∃ y : Int32, y = x94_5 + 1 := ⟨_, rfl⟩
          have tz67 : z67.toInt = (x94_5.toInt + 1 + 2147483648) % 4294967296 - 2147483648 := by rw [ez67]; exact i_add x94_5 1
          have lz67 := Int32.le_toInt z67
          have uz67 := Int32.toInt_lt z67
          try replace tz67 : z67.toInt = x94_5.toInt + 1 := by omega
          refine lv_iinc (v := z67) (lv' := [(5, .int z67), (4, .int z66), (6, .int v35), (0, .ref h), (1, .int p0), (2, .int p1), (3, .int x94_3)]) S.x S.b d_Mpg_fill_161 hl (k := 6) rfl (by rw [ez67]; rfl) (by decide) rfl (fun ls hl => ?_)
          refine lv_goto (tgt := 94) S.x S.b d_Mpg_fill_164 (by decide) ?_
          exact ih94 ef55 ea56 x94_3 z66 z67 _ _ ls (show (ef55 60).toInt = (ef 60).toInt + 2 * z67.toInt from by first | exact oz_9a5ba3dcf0 k94_0 e60 tz67 e49 | omega) (show 0 ≤ z67.toInt from by first | exact oz_ae613611c0 tz67 k94_1 | omega) (show z67.toInt ≤ wh ta (mb 19 p0.toNatClampNeg) from by first | exact oz_a6fd07f316 rz31 tz67 nc32 | omega) (show 0 ≤ z66.toInt from by first | exact oz_6c4a1e09c3 tz66 k94_3 | omega) (show z66.toInt ≤ 2050 + 2 * z67.toInt from by first | exact oz_6e86fc6690 tz66 tz67 k94_4 | omega) (show (ef55 64).toInt = (ef 64).toInt from by first | exact oz_e13fc83238 k94_5 e61 e50 | omega) (show (ef55 65).toInt = (ef 65).toInt from by first | exact oz_e13fc83238 k94_6 e62 e51 | omega) (show (mb 22 p0.toNatClampNeg).toInt = 3 from by first | exact k94_7 | omega) (show CdK ea ea56 (ef 60).toInt from hcd) (show SgQ X9 (ea56 61) (ef 60).toInt (ef55 60).toInt fi S9 S9 lvq from (hsg.tq (by omega) (by omega) rfl)) (show wh ta (mb 19 p0.toNatClampNeg) - z67.toInt < (n_94 : Int) from by first | exact oz_654393c63a hm tz67 | omega) hw (lv_sub hl [3, 4, 5, 6, 1, 0] rfl)
        · have nc64 : ¬ (1000 : Int) ≤ v35.toInt := mt (i_le (x := 1000) (y := v35)).mpr c64
          refine lv_iconst (v := 1) S.x S.b d_Mpg_fill_153 (by decide) ?_
          refine lv_goto (tgt := 158) S.x S.b d_Mpg_fill_154 (by decide) ?_
          refine lv_iadd S.x S.b d_Mpg_fill_158 ?_
          refine lv_topi (fun z68 ez68 => ?_)
          have tz68 : z68.toInt = (x94_4.toInt + (1 : Int) + 2147483648) % 4294967296 - 2147483648 := by rw [ez68]; exact i_add x94_4 1
          have lz68 := Int32.le_toInt z68
          have uz68 := Int32.toInt_lt z68
          try replace tz68 : z68.toInt = x94_4.toInt + (1 : Int) := by omega
          refine lv_istore (lv' := [(4, .int z68), (6, .int v35), (0, .ref h), (1, .int p0), (2, .int p1), (3, .int x94_3), (5, .int x94_5)]) S.x S.b d_Mpg_fill_159 hl (by decide) rfl (fun ls hl => ?_)
          obtain ⟨z69, ez69⟩ : ∃ y : Int32, y = x94_5 + 1 := ⟨_, rfl⟩
          have tz69 : z69.toInt = (x94_5.toInt + 1 + 2147483648) % 4294967296 - 2147483648 := by rw [ez69]; exact i_add x94_5 1
          have lz69 := Int32.le_toInt z69
          have uz69 := Int32.toInt_lt z69
          try replace tz69 : z69.toInt = x94_5.toInt + 1 := by omega
          refine lv_iinc (v := z69) (lv' := [(5, .int z69), (4, .int z68), (6, .int v35), (0, .ref h), (1, .int p0), (2, .int p1), (3, .int x94_3)]) S.x S.b d_Mpg_fill_161 hl (k := 6) rfl (by rw [ez69]; rfl) (by decide) rfl (fun ls hl => ?_)
          refine lv_goto (tgt := 94) S.x S.b d_Mpg_fill_164 (by decide) ?_
          exact ih94 ef55 ea56 x94_3 z68 z69 _ _ ls (show (ef55 60).toInt = (ef 60).toInt + 2 * z69.toInt from by first | exact oz_9a5ba3dcf0 k94_0 e60 tz69 e49 | omega) (show 0 ≤ z69.toInt from by first | exact oz_ae613611c0 tz69 k94_1 | omega) (show z69.toInt ≤ wh ta (mb 19 p0.toNatClampNeg) from by first | exact oz_a6fd07f316 rz31 tz69 nc32 | omega) (show 0 ≤ z68.toInt from by first | exact oz_b3b25f0e49 tz68 k94_3 | omega) (show z68.toInt ≤ 2050 + 2 * z69.toInt from by first | exact oz_dec745cd2d tz68 tz69 k94_4 | omega) (show (ef55 64).toInt = (ef 64).toInt from by first | exact oz_e13fc83238 k94_5 e61 e50 | omega) (show (ef55 65).toInt = (ef 65).toInt from by first | exact oz_e13fc83238 k94_6 e62 e51 | omega) (show (mb 22 p0.toNatClampNeg).toInt = 3 from by first | exact k94_7 | omega) (show CdK ea ea56 (ef 60).toInt from hcd) (show SgQ X9 (ea56 61) (ef 60).toInt (ef55 60).toInt fi S9 S9 lvq from (hsg.tq (by omega) (by omega) rfl)) (show wh ta (mb 19 p0.toNatClampNeg) - z69.toInt < (n_94 : Int) from by first | exact oz_654393c63a hm tz69 | omega) hw (lv_sub hl [3, 4, 5, 6, 1, 0] rfl)
  refine lv_iconst (v := 0) S.x S.b d_Mpg_fill_0 (by decide) ?_
  refine lv_istore_n (lv' := [(3, .int 0), (0, .ref h), (1, .int p0), (2, .int p1)]) S.x S.b d_Mpg_fill_1 rfl hl (by decide) rfl (fun ls hl => ?_)
  refine lv_aload_n S.x S.b d_Mpg_fill_2 rfl (lv_at hl 1 rfl) ?_
  refine px_get S k_Mpg hT hw 0 0 22 (v := .ref (r 22)) rfl rfl rfl (by decide) m10_9 d_Mpg_fill_3 ?_
  refine lv_iload_n S.x S.b d_Mpg_fill_6 rfl (lv_at hl 2 rfl) ?_
  refine px_iald S hT hw 0 18 (n := 2100) (f := (ma 22)) rfl gp_22 (x := p0) (vp_in_iff.mpr (by constructor <;> omega)) d_Mpg_fill_7 ?_
  refine lv_topi (fun z70 ez70 => ?_)
  have lz70 := Int32.le_toInt z70
  have uz70 := Int32.toInt_lt z70
  have rz70 : z70.toInt = (mb 22 p0.toNatClampNeg).toInt := by rw [ez70, hkc.f (k := 22) (x := p0.toNatClampNeg) (by decide)]
  refine lv_iconst (v := 2) S.x S.b d_Mpg_fill_8 (by decide) ?_
  refine lv_icmp_ne (tgt := 66) S.x S.b d_Mpg_fill_9 (by decide) (fun c71 => ?_) (fun c71 => ?_)
  · have nc71 : ¬ z70.toInt = (2 : Int) := mt (i_eq (x := z70) (y := 2)).mpr c71
    refine lv_aload_n S.x S.b d_Mpg_fill_66 rfl (lv_at hl 1 rfl) ?_
    refine px_get S k_Mpg hT hw 0 0 22 (v := .ref (r 22)) rfl rfl rfl (by decide) m10_9 d_Mpg_fill_67 ?_
    refine lv_iload_n S.x S.b d_Mpg_fill_70 rfl (lv_at hl 2 rfl) ?_
    refine px_iald S hT hw 0 18 (n := 2100) (f := (ma 22)) rfl gp_22 (x := p0) (vp_in_iff.mpr (by constructor <;> omega)) d_Mpg_fill_71 ?_
    refine lv_topi (fun z73 ez73 => ?_)
    have lz73 := Int32.le_toInt z73
    have uz73 := Int32.toInt_lt z73
    have rz73 : z73.toInt = (mb 22 p0.toNatClampNeg).toInt := by rw [ez73, hkc.f (k := 22) (x := p0.toNatClampNeg) (by decide)]
    refine lv_iconst (v := 3) S.x S.b d_Mpg_fill_72 (by decide) ?_
    refine lv_icmp_ne (tgt := 167) S.x S.b d_Mpg_fill_73 (by decide) (fun c74 => ?_) (fun c74 => ?_)
    · have nc74 : ¬ z73.toInt = (3 : Int) := mt (i_eq (x := z73) (y := 3)).mpr c74
      exact px_vret S hr hlk hAe hw (Nat.le_of_ble_eq_true rfl) (Nat.le_of_ble_eq_true rfl) (⟨ef, ea, rfl, (show (ef 60).toInt ≤ (ef 60).toInt from by first | exact oz_1cb5f934a5 | omega), (show (ef 64).toInt = (ef 64).toInt from rfl), (show (ef 65).toInt = (ef 65).toInt from rfl), (show CdK ea ea (ef 60).toInt from hcd), (show SgQ X9 (ea 61) (ef 60).toInt (ef 60).toInt fi S9 S9 lvq from (hsg.tq (by omega) (by omega) rfl)), (show (ef 60).toInt ≤ (ef 60).toInt + wt - 6 from by first | exact oz_5275fa593a hvg.2.2.2 | omega)⟩) d_Mpg_fill_167
    · have nc74 : z73.toInt = (3 : Int) := (i_eq (x := z73) (y := 3)).mp c74
      refine lv_aload_n S.x S.b d_Mpg_fill_76 rfl (lv_at hl 1 rfl) ?_
      obtain ⟨hsy2, ht3, hwh3, hsz3⟩ := hvr.f3 htb hab (by omega); have hb3 := tk_b htk (x := mb 19 p0.toNatClampNeg) (by omega) (by omega); have hw43 := tk_w4 htk (x := mb 19 p0.toNatClampNeg) (by omega) (by omega) (z := ta 10 (mb 19 p0.toNatClampNeg).toNatClampNeg) rfl ht3.2.2; have hwe3 : wh ta (mb 19 p0.toNatClampNeg) = (ta 10 (mb 19 p0.toNatClampNeg).toNatClampNeg).toInt := rfl
      refine px_get S k_Mpg hT hw 0 0 7 (v := .ref (r 7)) rfl rfl rfl (by decide) m9_231 d_Mpg_fill_77 ?_
      refine lv_aload_n S.x S.b d_Mpg_fill_80 rfl (lv_at hl 1 rfl) ?_
      refine px_get S k_Mpg hT hw 0 0 19 (v := .ref (r 19)) rfl rfl rfl (by decide) m10_5 d_Mpg_fill_81 ?_
      refine lv_iload_n S.x S.b d_Mpg_fill_84 rfl (lv_at hl 2 rfl) ?_
      refine px_iald S hT hw 0 15 (n := 2100) (f := (ma 19)) rfl gp_19 (x := p0) (vp_in_iff.mpr (by constructor <;> omega)) d_Mpg_fill_85 ?_
      refine lv_topi (fun z76 ez76 => ?_)
      have lz76 := Int32.le_toInt z76
      have uz76 := Int32.toInt_lt z76
      have hz_z76 : z76 = mb 19 p0.toNatClampNeg := (by rw [ez76, hkc.g (x := p0.toNatClampNeg) (by omega)]); have hzi_z76 : z76.toInt = (mb 19 p0.toNatClampNeg).toInt := (by rw [hz_z76])
      refine px_iald S hT hw 0 6 (n := 2060) (f := (ta 7)) rfl gp_7 (x := z76) (vp_in_iff.mpr (by constructor <;> omega)) d_Mpg_fill_86 ?_
      refine lv_topi (fun z77 ez77 => ?_)
      have lz77 := Int32.le_toInt z77
      have uz77 := Int32.toInt_lt z77
      have rz77 : z77.toInt = bp ta (mb 19 p0.toNatClampNeg) := (by rw [ez77, hz_z76]; rfl)
      refine lv_iconst (v := 1) S.x S.b d_Mpg_fill_87 (by decide) ?_
      refine lv_iadd S.x S.b d_Mpg_fill_88 ?_
      refine lv_topi (fun z78 ez78 => ?_)
      have tz78 : z78.toInt = (z77.toInt + (1 : Int) + 2147483648) % 4294967296 - 2147483648 := by rw [ez78]; exact i_add z77 1
      have lz78 := Int32.le_toInt z78
      have uz78 := Int32.toInt_lt z78
      try replace tz78 : z78.toInt = z77.toInt + (1 : Int) := by omega
      refine lv_istore (lv' := [(4, .int z78), (3, .int 0), (0, .ref h), (1, .int p0), (2, .int p1)]) S.x S.b d_Mpg_fill_89 hl (by decide) rfl (fun ls hl => ?_)
      refine lv_iconst (v := 0) S.x S.b d_Mpg_fill_91 (by decide) ?_
      refine lv_istore (lv' := [(5, .int 0), (4, .int z78), (3, .int 0), (0, .ref h), (1, .int p0), (2, .int p1)]) S.x S.b d_Mpg_fill_92 hl (by decide) rfl (fun ls hl => ?_)
      exact J94 ((wh ta (mb 19 p0.toNatClampNeg) - (0 : Int)).toNat + 1) ef ea (0 : Int32) z78 (0 : Int32) _ _ ls (show (ef 60).toInt = (ef 60).toInt + 2 * (0 : Int) from by first | exact oz_319426e3ad | omega) (show 0 ≤ (0 : Int) from by first | exact oz_5a341f00aa | omega) (show (0 : Int) ≤ wh ta (mb 19 p0.toNatClampNeg) from by first | exact oz_cbd7d48f1f hwe3 hw43.1 | omega) (show 0 ≤ z78.toInt from by first | exact oz_9bc226aaf4 tz78 rz77 hb3.1 | omega) (show z78.toInt ≤ 2050 + 2 * (0 : Int) from by first | exact oz_494d4f6c20 tz78 rz77 hb3.2.2.1 g9 hb3.2.1 | omega) (show (ef 64).toInt = (ef 64).toInt from rfl) (show (ef 65).toInt = (ef 65).toInt from rfl) (show (mb 22 p0.toNatClampNeg).toInt = 3 from by first | exact oz_510c95ccb6 rz73 nc74 | omega) (show CdK ea ea (ef 60).toInt from hcd) (show SgQ X9 (ea 61) (ef 60).toInt (ef 60).toInt fi S9 S9 lvq from (hsg.tq (by omega) (by omega) rfl)) (show wh ta (mb 19 p0.toNatClampNeg) - (0 : Int) < ((((wh ta (mb 19 p0.toNatClampNeg) - (0 : Int)).toNat + 1 : Nat) : Int) : Int) from by first | exact oz_natlt | omega) hw (lv_sub hl [3, 4, 5, 2, 1, 0] rfl)
  · have nc71 : z70.toInt = (2 : Int) := (i_eq (x := z70) (y := 2)).mp c71
    refine lv_aload_n S.x S.b d_Mpg_fill_12 rfl (lv_at hl 1 rfl) ?_
    refine px_get S k_Mpg hT hw 0 0 18 (v := .ref (r 18)) rfl rfl rfl (by decide) m10_3 d_Mpg_fill_13 ?_
    refine lv_iload_n S.x S.b d_Mpg_fill_16 rfl (lv_at hl 2 rfl) ?_
    refine px_iald S hT hw 0 14 (n := 2100) (f := (ma 18)) rfl gp_18 (x := p0) (vp_in_iff.mpr (by constructor <;> omega)) d_Mpg_fill_17 ?_
    refine lv_topi (fun z79 ez79 => ?_)
    have lz79 := Int32.le_toInt z79
    have uz79 := Int32.toInt_lt z79
    obtain ⟨hsy2, mf, wf, hmf, hflr, hwf⟩ := hvr.f2 htb hab (by omega); have hfl9 : FlR ta (tf 6).toInt na ma0 ca d (pf 13).toInt mf hi wf 0 p1 z79 := (by rw [ez79, hkc.f (k := 18) (x := p0.toNatClampNeg) (by decide), hy20]; exact hflr); have hfw := hfl9.wp
    refine lv_istore (lv' := [(4, .int z79), (3, .int 0), (0, .ref h), (1, .int p0), (2, .int p1)]) S.x S.b d_Mpg_fill_18 hl (by decide) rfl (fun ls hl => ?_)
    exact J20 ((hi - mf).toNat + 1) ef ea mf wf (0 : Int32) z79 _ _ ls (show (ef 60).toInt ≤ (ef 60).toInt from by first | exact oz_1cb5f934a5 | omega) (show (ef 60).toInt + wf ≤ (ef 60).toInt + wt - 6 from by omega) (show 0 ≤ (0 : Int) from by first | exact oz_5a341f00aa | omega) (show 0 ≤ mf from by first | exact oz_ed756c8324 | omega) (show mf ≤ hi from by omega) (show (ef 64).toInt = (ef 64).toInt from rfl) (show (ef 65).toInt = (ef 65).toInt from rfl) (show (mb 22 p0.toNatClampNeg).toInt = 2 from by first | exact oz_70422203cd rz70 nc71 | omega) (show CdK ea ea (ef 60).toInt from hcd) (show FlR ta (tf 6).toInt na ma0 ca d (pf 13).toInt mf hi wf (0 : Int) p1 z79 from hfl9) (show SgQ X9 (ea 61) (ef 60).toInt (ef 60).toInt fi S9 S9 lvq from (hsg.tq (by omega) (by omega) rfl)) (show hi - mf < ((((hi - mf).toNat + 1 : Nat) : Int) : Int) from by first | exact oz_natlt | omega) hw (lv_sub hl [2, 3, 4, 1, 0] rfl)
abbrev b_Mpg_makeDeclaration : ByteArray := prog_16_method_114_code
def y_Mpg_makeDeclaration : MethodName := ⟨"HomeSystemModel$Program", "makeDeclaration", "(IZ)V"⟩
theorem d_Mpg_makeDeclaration_0 : decode b_Mpg_makeDeclaration 0 = .ok (.aload_n 0, 1) := by decide +kernel
theorem d_Mpg_makeDeclaration_1 : decode b_Mpg_makeDeclaration 1 = .ok (.getfield 216, 3) := by decide +kernel
theorem d_Mpg_makeDeclaration_4 : decode b_Mpg_makeDeclaration 4 = .ok (.iload_n 1, 1) := by decide +kernel
theorem d_Mpg_makeDeclaration_5 : decode b_Mpg_makeDeclaration 5 = .ok (.iaload, 1) := by decide +kernel
theorem d_Mpg_makeDeclaration_6 : decode b_Mpg_makeDeclaration 6 = .ok (.istore_n 3, 1) := by decide +kernel
theorem d_Mpg_makeDeclaration_7 : decode b_Mpg_makeDeclaration 7 = .ok (.iload_n 3, 1) := by decide +kernel
theorem d_Mpg_makeDeclaration_8 : decode b_Mpg_makeDeclaration 8 = .ok (.ifCond .lt 104, 3) := by decide +kernel
theorem d_Mpg_makeDeclaration_11 : decode b_Mpg_makeDeclaration 11 = .ok (.aload_n 0, 1) := by decide +kernel
theorem d_Mpg_makeDeclaration_12 : decode b_Mpg_makeDeclaration 12 = .ok (.getfield 225, 3) := by decide +kernel
theorem d_Mpg_makeDeclaration_15 : decode b_Mpg_makeDeclaration 15 = .ok (.iload_n 3, 1) := by decide +kernel
theorem d_Mpg_makeDeclaration_16 : decode b_Mpg_makeDeclaration 16 = .ok (.iaload, 1) := by decide +kernel
theorem d_Mpg_makeDeclaration_17 : decode b_Mpg_makeDeclaration 17 = .ok (.istore 4, 2) := by decide +kernel
theorem d_Mpg_makeDeclaration_19 : decode b_Mpg_makeDeclaration 19 = .ok (.aload_n 0, 1) := by decide +kernel
theorem d_Mpg_makeDeclaration_20 : decode b_Mpg_makeDeclaration 20 = .ok (.getfield 231, 3) := by decide +kernel
theorem d_Mpg_makeDeclaration_23 : decode b_Mpg_makeDeclaration 23 = .ok (.iload_n 3, 1) := by decide +kernel
theorem d_Mpg_makeDeclaration_24 : decode b_Mpg_makeDeclaration 24 = .ok (.iaload, 1) := by decide +kernel
theorem d_Mpg_makeDeclaration_25 : decode b_Mpg_makeDeclaration 25 = .ok (.iconst 1, 1) := by decide +kernel
theorem d_Mpg_makeDeclaration_26 : decode b_Mpg_makeDeclaration 26 = .ok (.if_icmp .ne 59, 3) := by decide +kernel
theorem d_Mpg_makeDeclaration_29 : decode b_Mpg_makeDeclaration 29 = .ok (.iload_n 2, 1) := by decide +kernel
theorem d_Mpg_makeDeclaration_30 : decode b_Mpg_makeDeclaration 30 = .ok (.ifCond .eq 24, 3) := by decide +kernel
theorem d_Mpg_makeDeclaration_33 : decode b_Mpg_makeDeclaration 33 = .ok (.aload_n 0, 1) := by decide +kernel
theorem d_Mpg_makeDeclaration_34 : decode b_Mpg_makeDeclaration 34 = .ok (.iconst 1, 1) := by decide +kernel
theorem d_Mpg_makeDeclaration_35 : decode b_Mpg_makeDeclaration 35 = .ok (.aload_n 0, 1) := by decide +kernel
theorem d_Mpg_makeDeclaration_36 : decode b_Mpg_makeDeclaration 36 = .ok (.getfield 225, 3) := by decide +kernel
theorem d_Mpg_makeDeclaration_39 : decode b_Mpg_makeDeclaration 39 = .ok (.aload_n 0, 1) := by decide +kernel
theorem d_Mpg_makeDeclaration_40 : decode b_Mpg_makeDeclaration 40 = .ok (.getfield 219, 3) := by decide +kernel
theorem d_Mpg_makeDeclaration_43 : decode b_Mpg_makeDeclaration 43 = .ok (.iload_n 3, 1) := by decide +kernel
theorem d_Mpg_makeDeclaration_44 : decode b_Mpg_makeDeclaration 44 = .ok (.iaload, 1) := by decide +kernel
theorem d_Mpg_makeDeclaration_45 : decode b_Mpg_makeDeclaration 45 = .ok (.iaload, 1) := by decide +kernel
theorem d_Mpg_makeDeclaration_46 : decode b_Mpg_makeDeclaration 46 = .ok (.iconst 0, 1) := by decide +kernel
theorem d_Mpg_makeDeclaration_47 : decode b_Mpg_makeDeclaration 47 = .ok (.invokevirtual 711, 3) := by decide +kernel
theorem d_Mpg_makeDeclaration_50 : decode b_Mpg_makeDeclaration 50 = .ok (.pop, 1) := by decide +kernel
theorem d_Mpg_makeDeclaration_51 : decode b_Mpg_makeDeclaration 51 = .ok (.goto 13, 3) := by decide +kernel
theorem d_Mpg_makeDeclaration_54 : decode b_Mpg_makeDeclaration 54 = .ok (.aload_n 0, 1) := by decide +kernel
theorem d_Mpg_makeDeclaration_55 : decode b_Mpg_makeDeclaration 55 = .ok (.aload_n 0, 1) := by decide +kernel
theorem d_Mpg_makeDeclaration_56 : decode b_Mpg_makeDeclaration 56 = .ok (.getfield 219, 3) := by decide +kernel
theorem d_Mpg_makeDeclaration_59 : decode b_Mpg_makeDeclaration 59 = .ok (.iload_n 3, 1) := by decide +kernel
theorem d_Mpg_makeDeclaration_60 : decode b_Mpg_makeDeclaration 60 = .ok (.iaload, 1) := by decide +kernel
theorem d_Mpg_makeDeclaration_61 : decode b_Mpg_makeDeclaration 61 = .ok (.invokevirtual 714, 3) := by decide +kernel
theorem d_Mpg_makeDeclaration_64 : decode b_Mpg_makeDeclaration 64 = .ok (.aload_n 0, 1) := by decide +kernel
theorem d_Mpg_makeDeclaration_65 : decode b_Mpg_makeDeclaration 65 = .ok (.iconst 3, 1) := by decide +kernel
theorem d_Mpg_makeDeclaration_66 : decode b_Mpg_makeDeclaration 66 = .ok (.iload 4, 2) := by decide +kernel
theorem d_Mpg_makeDeclaration_68 : decode b_Mpg_makeDeclaration 68 = .ok (.iconst 0, 1) := by decide +kernel
theorem d_Mpg_makeDeclaration_69 : decode b_Mpg_makeDeclaration 69 = .ok (.invokevirtual 711, 3) := by decide +kernel
theorem d_Mpg_makeDeclaration_72 : decode b_Mpg_makeDeclaration 72 = .ok (.pop, 1) := by decide +kernel
theorem d_Mpg_makeDeclaration_73 : decode b_Mpg_makeDeclaration 73 = .ok (.aload_n 0, 1) := by decide +kernel
theorem d_Mpg_makeDeclaration_74 : decode b_Mpg_makeDeclaration 74 = .ok (.bipush 17, 2) := by decide +kernel
theorem d_Mpg_makeDeclaration_76 : decode b_Mpg_makeDeclaration 76 = .ok (.iconst 0, 1) := by decide +kernel
theorem d_Mpg_makeDeclaration_77 : decode b_Mpg_makeDeclaration 77 = .ok (.iconst 0, 1) := by decide +kernel
theorem d_Mpg_makeDeclaration_78 : decode b_Mpg_makeDeclaration 78 = .ok (.invokevirtual 711, 3) := by decide +kernel
theorem d_Mpg_makeDeclaration_81 : decode b_Mpg_makeDeclaration 81 = .ok (.pop, 1) := by decide +kernel
theorem d_Mpg_makeDeclaration_82 : decode b_Mpg_makeDeclaration 82 = .ok (.goto 20, 3) := by decide +kernel
theorem d_Mpg_makeDeclaration_85 : decode b_Mpg_makeDeclaration 85 = .ok (.aload_n 0, 1) := by decide +kernel
theorem d_Mpg_makeDeclaration_86 : decode b_Mpg_makeDeclaration 86 = .ok (.bipush 20, 2) := by decide +kernel
theorem d_Mpg_makeDeclaration_88 : decode b_Mpg_makeDeclaration 88 = .ok (.iload 4, 2) := by decide +kernel
theorem d_Mpg_makeDeclaration_90 : decode b_Mpg_makeDeclaration 90 = .ok (.iconst 0, 1) := by decide +kernel
theorem d_Mpg_makeDeclaration_91 : decode b_Mpg_makeDeclaration 91 = .ok (.invokevirtual 711, 3) := by decide +kernel
theorem d_Mpg_makeDeclaration_94 : decode b_Mpg_makeDeclaration 94 = .ok (.pop, 1) := by decide +kernel
theorem d_Mpg_makeDeclaration_95 : decode b_Mpg_makeDeclaration 95 = .ok (.aload_n 0, 1) := by decide +kernel
theorem d_Mpg_makeDeclaration_96 : decode b_Mpg_makeDeclaration 96 = .ok (.iload_n 3, 1) := by decide +kernel
theorem d_Mpg_makeDeclaration_97 : decode b_Mpg_makeDeclaration 97 = .ok (.iload 4, 2) := by decide +kernel
theorem d_Mpg_makeDeclaration_99 : decode b_Mpg_makeDeclaration 99 = .ok (.invokevirtual 734, 3) := by decide +kernel
theorem d_Mpg_makeDeclaration_102 : decode b_Mpg_makeDeclaration 102 = .ok (.aload_n 0, 1) := by decide +kernel
theorem d_Mpg_makeDeclaration_103 : decode b_Mpg_makeDeclaration 103 = .ok (.getfield 228, 3) := by decide +kernel
theorem d_Mpg_makeDeclaration_106 : decode b_Mpg_makeDeclaration 106 = .ok (.iload_n 3, 1) := by decide +kernel
theorem d_Mpg_makeDeclaration_107 : decode b_Mpg_makeDeclaration 107 = .ok (.iaload, 1) := by decide +kernel
theorem d_Mpg_makeDeclaration_108 : decode b_Mpg_makeDeclaration 108 = .ok (.istore_n 3, 1) := by decide +kernel
theorem d_Mpg_makeDeclaration_109 : decode b_Mpg_makeDeclaration 109 = .ok (.goto (-102), 3) := by decide +kernel
theorem d_Mpg_makeDeclaration_112 : decode b_Mpg_makeDeclaration 112 = .ok (.return_, 1) := by decide +kernel
theorem q_Mpg_makeDeclaration : px_y y_Mpg_makeDeclaration 2 := by unfold px_y; decide +kernel
set_option maxHeartbeats 4000000 in
set_option maxRecDepth 100000 in
theorem c_mp_makeDeclaration (l : Launch) (D : va_G) (cs : Nat → ClassId) (ma0 : Nat → Nat → Int32) (mb : Nat → Nat → Int32) (ys : Int) (ns : Int) (nf : Int) (d : Nat) (lo : Int) (hi : Int) (wt : Int) (V : Nat → Nat → Prop) (vl : Int) (vh : Int) (X9 : Cx) (fi : Int) (lvq : Nat) (bh : Int) (t9 : Nat) (S9 : List Nat) (h : Nat) (r : Nat → Nat) (g : Nat → Nat → Option Nat) (tf : Nat → Int32) (ta : Nat → Nat → Int32) (pf : Nat → Int32) (na : Nat → Nat → Int32) (ma : Nat → Nat → Int32) (wa : Nat → Nat → Int32) (cf : Nat → Int32) (ca : Nat → Nat → Int32) (xf : Nat → Int32) (xa : Nat → Nat → Int32) (ef : Nat → Int32) (ea : Nat → Nat → Int32) (p0 p1 : Int32)  (g0 : (pf 13).toInt ≤ 2100) (g1 : (tf 6).toInt ≤ 2049) (g2 : (cf 38).toInt = nf) (g3 : 0 ≤ nf) (g4 : 0 ≤ (ef 60).toInt) (g5 : (ef 60).toInt + wt ≤ 7000) (g6 : (S9.length : Int) + bh ≤ X9.tall fi) (g7 : (S9.length : Int) + 1 ≤ X9.tall fi) (g8 : 0 ≤ (tf 5).toInt) (g9 : (tf 5).toInt ≤ 2048) (g10 : 0 ≤ p0.toInt) (g11 : p0.toInt < (pf 13).toInt) (g12 : 0 ≤ p1.toInt) (g13 : p1.toInt ≤ 1) (g14 : p1.toInt = 0 → t9 = 5) (g15 : lo ≤ hi) (htk : TkI tf ta) (hft : FnT (tf 6).toInt na ca (cf 38).toInt) (hfp : FnP na ca nf) (hab : Ann na ma0 mb) (hkc : Kc na mb ma) (htb : Ts (Gk ta ca na ma0 ns ys nf) na mb vl vh V) (hcx : CxI X9 fi ca ns ys nf (tkl na ma0 ca)) (hvk : VkB ta (tf 6).toInt na ma0 mb ca V d (pf 13).toInt lo hi wt bh t9 (na 17 p0.toNatClampNeg)) : MetV l y_Mpg_makeDeclaration b_Mpg_makeDeclaration 5 D cs (2 * d + 12) (120 * d + 440) (0) (0) [.ref h, .int p0, .int p1] [wdP cs h r g tf ta pf na ma wa cf ca ef ea xf xa] (oX (fun A U H => (oP A g U H)) [wdP cs h r g tf ta pf na ma wa cf ca ef ea xf xa]) (fun ps => ∃ (ef' : Nat → Int32) (ea' : Nat → Nat → Int32), (ps = [wdP cs h r g tf ta pf na ma wa cf ca ef' ea' xf xa]) ∧ ((ef 60).toInt ≤ (ef' 60).toInt) ∧ ((ef' 64).toInt = (ef 64).toInt) ∧ ((ef' 65).toInt = (ef 65).toInt) ∧ (CdK ea ea' (ef 60).toInt) ∧ (SgQ X9 (ea' 61) (ef 60).toInt (ef' 60).toInt fi S9 S9 lvq) ∧ ((ef' 60).toInt ≤ (ef 60).toInt + wt)) := by
  refine px_enter (by decide) (Nat.le_of_ble_eq_true rfl) ?_
  intro p e s m below meth c A ls hAe S hr hlk hnm hA hT hX hw hl
  have hl : lv_has ls 5 [(0, .ref h), (1, .int p0), (2, .int p1)] := hl
  have lp0 := Int32.le_toInt p0
  have up0 := Int32.toInt_lt p0
  have lp1 := Int32.le_toInt p1
  have up1 := Int32.toInt_lt p1
  have cst0 : (0 : Int32).toInt = 0 := rfl
  have cst1 : (1 : Int32).toInt = 1 := rfl
  have cst3 : (3 : Int32).toInt = 3 := rfl
  have cst17 : (17 : Int32).toInt = 17 := rfl
  have cst20 : (20 : Int32).toInt = 20 := rfl
  have hX : (fun A U H => (oP A g U H)) A s s.heap := by rw [hAe]; exact hX
  have hP := hX
  have hZ := hP.1
  have hF0 := hP.2.1
  have hf11 := hft.1
  have han := hab.kc hkc
  have hts := htb.kc hkc
  have hcd : CdK ea ea (ef 60).toInt := CdK.rf
  have hl1 : ((0 :: S9).length : Int) = S9.length + 1 := (by rw [List.length_cons]; omega)
  have hsg : SgQ X9 (ea 61) (ef 60).toInt (ef 60).toInt fi S9 S9 lvq := sgq_0 (by omega)
  have hvb := hvk.2.2.2.1
  have hvw0 := hvk.wp
  have J7 : ∀ (n_7 : Nat) (ef_7 : Nat → Int32) (ea_7 : Nat → Nat → Int32) (mid_7 : Int) (wr_7 : Int) (x7_3 : Int32) (H : Heap) (locs : List Loc) (ls : Array Slot), ((ef 60).toInt ≤ (ef_7 60).toInt) → ((ef_7 60).toInt + wr_7 ≤ (ef 60).toInt + wt) → (lo ≤ mid_7) → (mid_7 ≤ hi) → ((ef_7 64).toInt = (ef 64).toInt) → ((ef_7 65).toInt = (ef 65).toInt) → (CdK ea ea_7 (ef 60).toInt) → (VkB ta (tf 6).toInt na ma0 mb ca V d (pf 13).toInt mid_7 hi wr_7 bh t9 x7_3) → (SgQ X9 (ea_7 61) (ef 60).toInt (ef_7 60).toInt fi S9 S9 lvq) → hi - mid_7 < (n_7 : Int) → pw D A s.heap H locs [wdP cs h r g tf ta pf na ma wa cf ca ef_7 ea_7 xf xa] → lv_has ls 5 [(0, .ref h), (1, .int p0), (2, .int p1), (3, .int x7_3)] → W p l e { frames := (2 * d + 12), cells := 0, slots := 0, locals := (120 * d + 440) } s m [.ref h, .int p0, .int p1].toArray below meth c H locs 0 0 (MQ below (va_Qv (fun ps => ∃ (ef' : Nat → Int32) (ea' : Nat → Nat → Int32), (ps = [wdP cs h r g tf ta pf na ma wa cf ca ef' ea' xf xa]) ∧ ((ef 60).toInt ≤ (ef' 60).toInt) ∧ ((ef' 64).toInt = (ef 64).toInt) ∧ ((ef' 65).toInt = (ef 65).toInt) ∧ (CdK ea ea' (ef 60).toInt) ∧ (SgQ X9 (ea' 61) (ef 60).toInt (ef' 60).toInt fi S9 S9 lvq) ∧ ((ef' 60).toInt ≤ (ef 60).toInt + wt)) (pc_B D (va_A ([wdP cs h r g tf ta pf na ma wa cf ca ef ea xf xa] : List va_W).flatten s.heap.size)) (va_A ([wdP cs h r g tf ta pf na ma wa cf ca ef ea xf xa] : List va_W).flatten s.heap.size)) [.ref h, .int p0, .int p1].toArray s 0 0 A) (F0 m 7 ls []) := by
    intro  n_7
    induction n_7 with
    | zero =>
      intro ef_7 ea_7 mid_7 wr_7 x7_3 H locs ls k7_0 k7_1 k7_2 k7_3 k7_4 k7_5 k7_6 k7_7 k7_8 hm hw hl
      have lx7_3 := Int32.le_toInt x7_3
      have ux7_3 := Int32.toInt_lt x7_3
      have hcd := k7_6
      have hvk := k7_7
      have hvw := hvk.wp
      have hsg := k7_8
      exact absurd hm (by omega)
    | succ n_7 ih7 =>
      intro ef_7 ea_7 mid_7 wr_7 x7_3 H locs ls k7_0 k7_1 k7_2 k7_3 k7_4 k7_5 k7_6 k7_7 k7_8 hm hw hl
      have lx7_3 := Int32.le_toInt x7_3
      have ux7_3 := Int32.toInt_lt x7_3
      have hcd := k7_6
      have hvk := k7_7
      have hvw := hvk.wp
      have hsg := k7_8
      refine lv_iload_n S.x S.b d_Mpg_makeDeclaration_7 rfl (lv_at hl 3 rfl) ?_
      refine lv_if_lt (tgt := 112) S.x S.b d_Mpg_makeDeclaration_8 (by decide) (fun c1 => ?_) (fun c1 => ?_)
      · have nc1 : x7_3.toInt < (0 : Int) := (i_lt (x := x7_3) (y := 0)).mp c1
        exact px_vret S hr hlk hAe hw (Nat.le_of_ble_eq_true rfl) (Nat.le_of_ble_eq_true rfl) (⟨ef_7, ea_7, rfl, (show (ef 60).toInt ≤ (ef_7 60).toInt from by first | exact k7_0 | omega), (show (ef_7 64).toInt = (ef 64).toInt from by first | exact k7_4 | omega), (show (ef_7 65).toInt = (ef 65).toInt from by first | exact k7_5 | omega), (show CdK ea ea_7 (ef 60).toInt from hcd), (show SgQ X9 (ea_7 61) (ef 60).toInt (ef_7 60).toInt fi S9 S9 lvq from (hsg.tq (by omega) (by omega) rfl)), (show (ef_7 60).toInt ≤ (ef 60).toInt + wt from by first | exact oz_812b27d4c5 k7_1 hvw | omega)⟩) d_Mpg_makeDeclaration_112
      · have nc1 : ¬ x7_3.toInt < (0 : Int) := mt (i_lt (x := x7_3) (y := 0)).mpr c1
        refine lv_aload_n S.x S.b d_Mpg_makeDeclaration_11 rfl (lv_at hl 0 rfl) ?_
        obtain ⟨md3, wa4, hm_md3, hvr_x7_3, hvk2⟩ := hvk.go (by omega); have hvw2 := hvk2.wp; have hvz := hvr_x7_3.f0 htb hab
        refine px_get S k_Mpg hT hw 0 0 20 (v := .ref (r 20)) rfl rfl rfl (by decide) m10_6 d_Mpg_makeDeclaration_12 ?_
        refine lv_iload_n S.x S.b d_Mpg_makeDeclaration_15 rfl (lv_at hl 3 rfl) ?_
        refine px_iald S hT hw 0 16 (n := 2100) (f := (ma 20)) rfl gp_20 (x := x7_3) (vp_in_iff.mpr (by constructor <;> omega)) d_Mpg_makeDeclaration_16 ?_
        refine lv_topi (fun z5 ez5 => ?_)
        have lz5 := Int32.le_toInt z5
        have uz5 := Int32.toInt_lt z5
        have hy_z5 : z5 = mb 20 x7_3.toNatClampNeg := (by rw [ez5, hkc.f (k := 20) (x := x7_3.toNatClampNeg) (by decide)])
        refine lv_istore (lv' := [(4, .int z5), (0, .ref h), (1, .int p0), (2, .int p1), (3, .int x7_3)]) S.x S.b d_Mpg_makeDeclaration_17 hl (by decide) rfl (fun ls hl => ?_)
        refine lv_aload_n S.x S.b d_Mpg_makeDeclaration_19 rfl (lv_at hl 1 rfl) ?_
        refine px_get S k_Mpg hT hw 0 0 22 (v := .ref (r 22)) rfl rfl rfl (by decide) m10_9 d_Mpg_makeDeclaration_20 ?_
        refine lv_iload_n S.x S.b d_Mpg_makeDeclaration_23 rfl (lv_at hl 4 rfl) ?_
        refine px_iald S hT hw 0 18 (n := 2100) (f := (ma 22)) rfl gp_22 (x := x7_3) (vp_in_iff.mpr (by constructor <;> omega)) d_Mpg_makeDeclaration_24 ?_
        refine lv_topi (fun z6 ez6 => ?_)
        have lz6 := Int32.le_toInt z6
        have uz6 := Int32.toInt_lt z6
        have rz6 : z6.toInt = (mb 22 x7_3.toNatClampNeg).toInt := by rw [ez6, hkc.f (k := 22) (x := x7_3.toNatClampNeg) (by decide)]
        refine lv_iconst (v := 1) S.x S.b d_Mpg_makeDeclaration_25 (by decide) ?_
        refine lv_icmp_ne (tgt := 85) S.x S.b d_Mpg_makeDeclaration_26 (by decide) (fun c7 => ?_) (fun c7 => ?_)
        · have nc7 : ¬ z6.toInt = (1 : Int) := mt (i_eq (x := z6) (y := 1)).mpr c7
          refine lv_aload_n S.x S.b d_Mpg_makeDeclaration_85 rfl (lv_at hl 1 rfl) ?_
          refine lv_bipush (v := 20) S.x S.b d_Mpg_makeDeclaration_86 (by decide) ?_
          refine lv_iload S.x S.b d_Mpg_makeDeclaration_88 (lv_at hl 0 rfl) ?_
          refine lv_iconst (v := 0) S.x S.b d_Mpg_makeDeclaration_90 (by decide) ?_
          refine px_calli (pr := []) (px_runV (As := [.int 20, .int z5, .int 0]) (rest := []) S (c_mp_emit l D cs h r g tf ta pf na ma wa cf ca xf xa ef_7 ea_7 20 z5 0  (show 0 ≤ (ef_7 60).toInt from by first | exact oz_16d7fa9f32 k7_0 g4 | omega) (show (ef_7 60).toInt < 7000 from by omega) _) hT (pr := []) (pcs := [wdP cs h r g tf ta pf na ma wa cf ca ef_7 ea_7 xf xa]) hw px_X.tt (px_recv hT hw 0 0 rfl rfl rfl) m13_86 m13_83 m13_85 ms_14_2 m1_21 q_Mpg_emit ⟨show 0 + 1 ≤ (2 * d + 12) from (by first | exact oz_141b3276af | omega), show 8 + (4 + 11) + 0 ≤ (120 * d + 440) from (by first | exact oz_8e2f644a0a | omega)⟩ hl.1 rfl (Nat.le_of_ble_eq_true rfl) d_Mpg_makeDeclaration_91 ⟨Nat.le_of_ble_eq_true rfl, Nat.le_of_ble_eq_true rfl⟩) hw hA (fun v14 p13 H locs hp13 hw => ?_)
          obtain ⟨ef11, ea12, rfl, e15, e16, e17, e18, e19⟩ := hp13
          have e15 : v14.toInt = (ef_7 60).toInt := e15
          have e16 : (ef11 60).toInt = (ef_7 60).toInt + 1 := e16
          have e17 : (ef11 64).toInt = (ef_7 64).toInt := e17
          have e18 : (ef11 65).toInt = (ef_7 65).toInt := e18
          have e19 : EmU ea_7 ea12 (ef_7 60) (20 : Int32) z5 (0 : Int32) := e19
          have hcd := hcd.tr e19.cd (by omega)
          have hsg := hsg.em e19 (by omega) rfl (by first | omega | (simp only [List.length_cons, List.length_append]; omega)) (hcx.clear (by rw [hy_z5]; exact hvz.1) rfl)
          have hw : pw D A s.heap H locs [wdP cs h r g tf ta pf na ma wa cf ca ef11 ea12 xf xa] := hw
          have lv14 := Int32.le_toInt v14
          have uv14 := Int32.toInt_lt v14
          refine lv_pop S.x S.b d_Mpg_makeDeclaration_94 rfl ?_
          refine lv_aload_n S.x S.b d_Mpg_makeDeclaration_95 rfl (lv_at hl 1 rfl) ?_
          refine lv_iload_n S.x S.b d_Mpg_makeDeclaration_96 rfl (lv_at hl 4 rfl) ?_
          refine lv_iload S.x S.b d_Mpg_makeDeclaration_97 (lv_at hl 0 rfl) ?_
          refine px_callv (pr := []) (px_runV (As := [.int x7_3, .int z5]) (rest := []) S (c_mp_fill l D cs ma0 mb ys ns nf d mid_7 md3 wa4 V vl vh X9 fi lvq bh t9 S9 h r g tf ta pf na ma wa cf ca xf xa ef11 ea12 x7_3 z5  (show (pf 13).toInt ≤ 2100 from by first | exact g0 | omega) (show (tf 6).toInt ≤ 2049 from by first | exact g1 | omega) (show (cf 38).toInt = nf from by first | exact g2 | omega) (show 0 ≤ nf from by first | exact g3 | omega) (show 0 ≤ (ef11 60).toInt from by first | exact oz_2188d1bf01 e16 k7_0 g4 | omega) (show (ef11 60).toInt + wa4 ≤ 7006 from by first | exact oz_cdfe3fe465 hm_md3.2.2.2.2.2 e16 k7_1 g5 | omega) (show (S9.length : Int) + bh ≤ X9.tall fi from by first | exact g6 | omega) (show (S9.length : Int) + 1 ≤ X9.tall fi from by first | exact g7 | omega) (show 0 ≤ (tf 5).toInt from by first | exact g8 | omega) (show (tf 5).toInt ≤ 2048 from by first | exact g9 | omega) htk (FnT.eq hft (by omega)) hfp hab hkc htb hcx hvr_x7_3 hy_z5 _) hT (pr := []) (pcs := [wdP cs h r g tf ta pf na ma wa cf ca ef11 ea12 xf xa]) hw (oX_call (P := (fun A U H => (oP A g U H))) (pr := []) oG_P hw hA hP) (px_recv hT hw 0 0 rfl rfl rfl) m13_114 m13_111 m13_113 ms_14_9 m1_21 q_Mpg_fill ⟨show (2 * d + 11) + 1 ≤ (2 * d + 12) from (by first | exact oz_528d71b8df | omega), show 8 + (7 + 11) + (120 * d + 380) ≤ (120 * d + 440) from (by first | exact oz_89e2b8658d | omega)⟩ hl.1 rfl (Nat.le_of_ble_eq_true rfl) d_Mpg_makeDeclaration_99 ⟨Nat.le_of_ble_eq_true rfl, Nat.le_of_ble_eq_true rfl⟩) hw hA (fun p24 H locs hp24 hw => ?_)
          obtain ⟨ef22, ea23, rfl, e26, e27, e28, e29, e30, e31⟩ := hp24
          have e26 : (ef11 60).toInt ≤ (ef22 60).toInt := e26
          have e27 : (ef22 64).toInt = (ef11 64).toInt := e27
          have e28 : (ef22 65).toInt = (ef11 65).toInt := e28
          have e29 : CdK ea12 ea23 (ef11 60).toInt := e29
          have hcd := hcd.tr e29 (by omega)
          have e30 : SgQ X9 (ea23 61) (ef11 60).toInt (ef22 60).toInt fi S9 S9 lvq := e30
          have hsg := hsg.ap e29 e30 (by omega)
          have e31 : (ef22 60).toInt ≤ (ef11 60).toInt + wa4 - 6 := e31
          have hw : pw D A s.heap H locs [wdP cs h r g tf ta pf na ma wa cf ca ef22 ea23 xf xa] := hw
          refine lv_aload_n S.x S.b d_Mpg_makeDeclaration_102 rfl (lv_at hl 1 rfl) ?_
          refine px_get S k_Mpg hT hw 0 0 21 (v := .ref (r 21)) rfl rfl rfl (by decide) m10_7 d_Mpg_makeDeclaration_103 ?_
          refine lv_iload_n S.x S.b d_Mpg_makeDeclaration_106 rfl (lv_at hl 4 rfl) ?_
          refine px_iald S hT hw 0 17 (n := 2100) (f := (na 21)) rfl gp_21 (x := x7_3) (vp_in_iff.mpr (by constructor <;> omega)) d_Mpg_makeDeclaration_107 ?_
          refine lv_topi (fun z32 ez32 => ?_)
          have lz32 := Int32.le_toInt z32
          have uz32 := Int32.toInt_lt z32
          refine lv_istore_n (lv' := [(3, .int z32), (4, .int z5), (0, .ref h), (1, .int p0), (2, .int p1)]) S.x S.b d_Mpg_makeDeclaration_108 rfl hl (by decide) rfl (fun ls hl => ?_)
          refine lv_goto (tgt := 7) S.x S.b d_Mpg_makeDeclaration_109 (by decide) ?_
          exact ih7 ef22 ea23 md3 (wr_7 - wa4) z32 _ _ ls (show (ef 60).toInt ≤ (ef22 60).toInt from by first | exact oz_db0ccc982f k7_0 e26 e16 | omega) (show (ef22 60).toInt + (wr_7 - wa4) ≤ (ef 60).toInt + wt from by first | exact oz_4824bb6d1f k7_1 e31 e16 | omega) (show lo ≤ md3 from by first | exact oz_8ecff1de6a k7_2 hm_md3.2.2.2.1 hm_md3.2.2.1 | omega) (show md3 ≤ hi from by first | exact hm_md3.2.1 | omega) (show (ef22 64).toInt = (ef 64).toInt from by first | exact oz_e13fc83238 k7_4 e27 e17 | omega) (show (ef22 65).toInt = (ef 65).toInt from by first | exact oz_e13fc83238 k7_5 e28 e18 | omega) (show CdK ea ea23 (ef 60).toInt from hcd) (show VkB ta (tf 6).toInt na ma0 mb ca V d (pf 13).toInt md3 hi (wr_7 - wa4) bh t9 z32 from (by rw [ez32]; exact hvk2)) (show SgQ X9 (ea23 61) (ef 60).toInt (ef22 60).toInt fi S9 S9 lvq from (hsg.tq (by omega) (by omega) rfl)) (show hi - md3 < (n_7 : Int) from by first | exact oz_2b66180fc4 hm hm_md3.2.2.2.1 hm_md3.2.2.1 | omega) hw (lv_sub hl [2, 3, 4, 0] rfl)
        · have nc7 : z6.toInt = (1 : Int) := (i_eq (x := z6) (y := 1)).mp c7
          refine lv_iload_n S.x S.b d_Mpg_makeDeclaration_29 rfl (lv_at hl 3 rfl) ?_
          obtain ⟨hsv, hkb, hmk5, hw6⟩ := hvr_x7_3.f1 htb hab (by omega)
          refine lv_if_eq (tgt := 54) S.x S.b d_Mpg_makeDeclaration_30 (by decide) (fun c33 => ?_) (fun c33 => ?_)
          · have nc33 : p1.toInt = (0 : Int) := (i_eq (x := p1) (y := 0)).mp c33
            refine lv_aload_n S.x S.b d_Mpg_makeDeclaration_54 rfl (lv_at hl 1 rfl) ?_
            refine lv_aload_n S.x S.b d_Mpg_makeDeclaration_55 rfl (lv_at hl 1 rfl) ?_
            refine px_get S k_Mpg hT hw 0 0 18 (v := .ref (r 18)) rfl rfl rfl (by decide) m10_3 d_Mpg_makeDeclaration_56 ?_
            refine lv_iload_n S.x S.b d_Mpg_makeDeclaration_59 rfl (lv_at hl 4 rfl) ?_
            refine px_iald S hT hw 0 14 (n := 2100) (f := (ma 18)) rfl gp_18 (x := x7_3) (vp_in_iff.mpr (by constructor <;> omega)) d_Mpg_makeDeclaration_60 ?_
            refine lv_topi (fun z35 ez35 => ?_)
            have lz35 := Int32.le_toInt z35
            have uz35 := Int32.toInt_lt z35
            have hmk_z35 : MkB ta (tf 6).toInt na ma0 ma ca (V1 V) d (pf 13).toInt (wa4 - 6) bh z35 := (by rw [ez35, hkc.f (k := 18) (x := x7_3.toNatClampNeg) (by decide)]; exact (hmk5 (by omega)).kc hkc); have hec_z35 := hmk_z35.ec; have hrg_z35 := EcV.rng hec_z35; have hnn_z35 := hmk_z35.nn
            refine px_callv (pr := []) (px_runV (As := [.int z35]) (rest := []) S (c_S_make l D cs ma0 ys ns nf d (wa4 - 6) (V1 V) vl vh X9 fi S9 lvq bh h r g tf ta pf na ma wa cf ca xf xa ef_7 ea_7 z35  (show (pf 13).toInt ≤ 2100 from by first | exact g0 | omega) (show (tf 6).toInt ≤ 2049 from by first | exact g1 | omega) (show (cf 38).toInt = nf from by first | exact g2 | omega) (show 0 ≤ nf from by first | exact g3 | omega) (show 0 ≤ (ef_7 60).toInt from by first | exact oz_16d7fa9f32 k7_0 g4 | omega) (show (ef_7 60).toInt + (wa4 - 6) ≤ 7000 from by first | exact oz_4265495277 k7_1 hm_md3.2.2.2.2.2 g5 | omega) (show (S9.length : Int) + bh ≤ X9.tall fi from by first | exact g6 | omega) htk (FnT.eq hft (by omega)) hfp han hts hcx hmk_z35 _) hT (pr := []) (pcs := [wdP cs h r g tf ta pf na ma wa cf ca ef_7 ea_7 xf xa]) hw (oX_call (P := (fun A U H => (oP A g U H))) (pr := []) oG_P hw hA hP) (px_recv hT hw 0 0 rfl rfl rfl) m13_90 m13_87 m13_89 ms_14_3 m1_21 q_Mpg_make2 ⟨show (2 * d + 10) + 1 ≤ (2 * d + 12) from (by first | exact oz_4ea04c7201 | omega), show 8 + (8 + 11) + (120 * d + 320) ≤ (120 * d + 440) from (by first | exact oz_add2152f82 | omega)⟩ hl.1 rfl (Nat.le_of_ble_eq_true rfl) d_Mpg_makeDeclaration_61 ⟨Nat.le_of_ble_eq_true rfl, Nat.le_of_ble_eq_true rfl⟩) hw hA (fun p40 H locs hp40 hw => ?_)
            obtain ⟨ef38, ea39, rfl, e42, e43, e44, e45, e46, e47⟩ := hp40
            have e42 : (ef_7 60).toInt ≤ (ef38 60).toInt := e42
            have e43 : (ef38 60).toInt ≤ (ef_7 60).toInt + (wa4 - 6) := e43
            have e44 : (ef38 64).toInt = (ef_7 64).toInt := e44
            have e45 : (ef38 65).toInt = (ef_7 65).toInt := e45
            have e46 : CdK ea_7 ea39 (ef_7 60).toInt := e46
            have hcd := hcd.tr e46 (by omega)
            have e47 : SgQ X9 (ea39 61) (ef_7 60).toInt (ef38 60).toInt fi S9 (0 :: S9) lvq := e47
            have hsg := hsg.ap e46 e47 (by omega)
            have hw : pw D A s.heap H locs [wdP cs h r g tf ta pf na ma wa cf ca ef38 ea39 xf xa] := hw
            refine lv_aload_n S.x S.b d_Mpg_makeDeclaration_64 rfl (lv_at hl 1 rfl) ?_
            refine lv_iconst (v := 3) S.x S.b d_Mpg_makeDeclaration_65 (by decide) ?_
            refine lv_iload S.x S.b d_Mpg_makeDeclaration_66 (lv_at hl 0 rfl) ?_
            refine lv_iconst (v := 0) S.x S.b d_Mpg_makeDeclaration_68 (by decide) ?_
            refine px_calli (pr := []) (px_runV (As := [.int 3, .int z5, .int 0]) (rest := []) S (c_mp_emit l D cs h r g tf ta pf na ma wa cf ca xf xa ef38 ea39 3 z5 0  (show 0 ≤ (ef38 60).toInt from by first | exact oz_fe2fd2b0f6 e42 k7_0 g4 | omega) (show (ef38 60).toInt < 7000 from by first | exact oz_f23d348090 e43 k7_1 hm_md3.2.2.2.2.2 g5 | omega) _) hT (pr := []) (pcs := [wdP cs h r g tf ta pf na ma wa cf ca ef38 ea39 xf xa]) hw px_X.tt (px_recv hT hw 0 0 rfl rfl rfl) m13_86 m13_83 m13_85 ms_14_2 m1_21 q_Mpg_emit ⟨show 0 + 1 ≤ (2 * d + 12) from (by first | exact oz_141b3276af | omega), show 8 + (4 + 11) + 0 ≤ (120 * d + 440) from (by first | exact oz_8e2f644a0a | omega)⟩ hl.1 rfl (Nat.le_of_ble_eq_true rfl) d_Mpg_makeDeclaration_69 ⟨Nat.le_of_ble_eq_true rfl, Nat.le_of_ble_eq_true rfl⟩) hw hA (fun v53 p52 H locs hp52 hw => ?_)
            obtain ⟨ef50, ea51, rfl, e54, e55, e56, e57, e58⟩ := hp52
            have e54 : v53.toInt = (ef38 60).toInt := e54
            have e55 : (ef50 60).toInt = (ef38 60).toInt + 1 := e55
            have e56 : (ef50 64).toInt = (ef38 64).toInt := e56
            have e57 : (ef50 65).toInt = (ef38 65).toInt := e57
            have e58 : EmU ea39 ea51 (ef38 60) (3 : Int32) z5 (0 : Int32) := e58
            have hcd := hcd.tr e58.cd (by omega)
            have hsg := hsg.em e58 (by omega) rfl (by first | omega | (simp only [List.length_cons, List.length_append]; omega)) (hcx.save (by rw [hy_z5]; exact hsv) (Or.inl rfl))
            have hw : pw D A s.heap H locs [wdP cs h r g tf ta pf na ma wa cf ca ef50 ea51 xf xa] := hw
            have lv53 := Int32.le_toInt v53
            have uv53 := Int32.toInt_lt v53
            refine lv_pop S.x S.b d_Mpg_makeDeclaration_72 rfl ?_
            refine lv_aload_n S.x S.b d_Mpg_makeDeclaration_73 rfl (lv_at hl 1 rfl) ?_
            refine lv_bipush (v := 17) S.x S.b d_Mpg_makeDeclaration_74 (by decide) ?_
            refine lv_iconst (v := 0) S.x S.b d_Mpg_makeDeclaration_76 (by decide) ?_
            refine lv_iconst (v := 0) S.x S.b d_Mpg_makeDeclaration_77 (by decide) ?_
            refine px_calli (pr := []) (px_runV (As := [.int 17, .int 0, .int 0]) (rest := []) S (c_mp_emit l D cs h r g tf ta pf na ma wa cf ca xf xa ef50 ea51 17 0 0  (show 0 ≤ (ef50 60).toInt from by first | exact oz_c90ce7c01d e55 e42 k7_0 g4 | omega) (show (ef50 60).toInt < 7000 from by first | exact oz_3de084b5a4 e55 e43 k7_1 hm_md3.2.2.2.2.2 g5 | omega) _) hT (pr := []) (pcs := [wdP cs h r g tf ta pf na ma wa cf ca ef50 ea51 xf xa]) hw px_X.tt (px_recv hT hw 0 0 rfl rfl rfl) m13_86 m13_83 m13_85 ms_14_2 m1_21 q_Mpg_emit ⟨show 0 + 1 ≤ (2 * d + 12) from (by first | exact oz_141b3276af | omega), show 8 + (4 + 11) + 0 ≤ (120 * d + 440) from (by first | exact oz_8e2f644a0a | omega)⟩ hl.1 rfl (Nat.le_of_ble_eq_true rfl) d_Mpg_makeDeclaration_78 ⟨Nat.le_of_ble_eq_true rfl, Nat.le_of_ble_eq_true rfl⟩) hw hA (fun v64 p63 H locs hp63 hw => ?_)
            obtain ⟨ef61, ea62, rfl, e65, e66, e67, e68, e69⟩ := hp63
            have e65 : v64.toInt = (ef50 60).toInt := e65
            have e66 : (ef61 60).toInt = (ef50 60).toInt + 1 := e66
            have e67 : (ef61 64).toInt = (ef50 64).toInt := e67
            have e68 : (ef61 65).toInt = (ef50 65).toInt := e68
            have e69 : EmU ea51 ea62 (ef50 60) (17 : Int32) (0 : Int32) (0 : Int32) := e69
            have hcd := hcd.tr e69.cd (by omega)
            have hsg := hsg.em e69 (by omega) rfl (by first | omega | (simp only [List.length_cons, List.length_append]; omega)) (.pop S9 rfl)
            have hw : pw D A s.heap H locs [wdP cs h r g tf ta pf na ma wa cf ca ef61 ea62 xf xa] := hw
            have lv64 := Int32.le_toInt v64
            have uv64 := Int32.toInt_lt v64
            refine lv_pop S.x S.b d_Mpg_makeDeclaration_81 rfl ?_
            refine lv_goto (tgt := 102) S.x S.b d_Mpg_makeDeclaration_82 (by decide) ?_
            refine lv_aload_n S.x S.b d_Mpg_makeDeclaration_102 rfl (lv_at hl 1 rfl) ?_
            refine px_get S k_Mpg hT hw 0 0 21 (v := .ref (r 21)) rfl rfl rfl (by decide) m10_7 d_Mpg_makeDeclaration_103 ?_
            refine lv_iload_n S.x S.b d_Mpg_makeDeclaration_106 rfl (lv_at hl 4 rfl) ?_
            refine px_iald S hT hw 0 17 (n := 2100) (f := (na 21)) rfl gp_21 (x := x7_3) (vp_in_iff.mpr (by constructor <;> omega)) d_Mpg_makeDeclaration_107 ?_
            refine lv_topi (fun z70 ez70 => ?_)
            have lz70 := Int32.le_toInt z70
            have uz70 := Int32.toInt_lt z70
            refine lv_istore_n (lv' := [(3, .int z70), (4, .int z5), (0, .ref h), (1, .int p0), (2, .int p1)]) S.x S.b d_Mpg_makeDeclaration_108 rfl hl (by decide) rfl (fun ls hl => ?_)
            refine lv_goto (tgt := 7) S.x S.b d_Mpg_makeDeclaration_109 (by decide) ?_
            exact ih7 ef61 ea62 md3 (wr_7 - wa4) z70 _ _ ls (show (ef 60).toInt ≤ (ef61 60).toInt from by first | exact oz_2c45f33b6c k7_0 e66 e42 e55 | omega) (show (ef61 60).toInt + (wr_7 - wa4) ≤ (ef 60).toInt + wt from by first | exact oz_389d89356b k7_1 e43 e66 e55 | omega) (show lo ≤ md3 from by first | exact oz_8ecff1de6a k7_2 hm_md3.2.2.2.1 hm_md3.2.2.1 | omega) (show md3 ≤ hi from by first | exact hm_md3.2.1 | omega) (show (ef61 64).toInt = (ef 64).toInt from by first | exact oz_ff3084e3c1 k7_4 e67 e44 e56 | omega) (show (ef61 65).toInt = (ef 65).toInt from by first | exact oz_ff3084e3c1 k7_5 e68 e45 e57 | omega) (show CdK ea ea62 (ef 60).toInt from hcd) (show VkB ta (tf 6).toInt na ma0 mb ca V d (pf 13).toInt md3 hi (wr_7 - wa4) bh t9 z70 from (by rw [ez70]; exact hvk2)) (show SgQ X9 (ea62 61) (ef 60).toInt (ef61 60).toInt fi S9 S9 lvq from (hsg.tq (by omega) (by omega) rfl)) (show hi - md3 < (n_7 : Int) from by first | exact oz_2b66180fc4 hm hm_md3.2.2.2.1 hm_md3.2.2.1 | omega) hw (lv_sub hl [2, 3, 4, 0] rfl)
          · have nc33 : ¬ p1.toInt = (0 : Int) := mt (i_eq (x := p1) (y := 0)).mpr c33
            refine lv_aload_n S.x S.b d_Mpg_makeDeclaration_33 rfl (lv_at hl 1 rfl) ?_
            refine lv_iconst (v := 1) S.x S.b d_Mpg_makeDeclaration_34 (by decide) ?_
            refine lv_aload_n S.x S.b d_Mpg_makeDeclaration_35 rfl (lv_at hl 1 rfl) ?_
            refine px_get S k_Mpg hT hw 0 0 20 (v := .ref (r 20)) rfl rfl rfl (by decide) m10_6 d_Mpg_makeDeclaration_36 ?_
            refine lv_aload_n S.x S.b d_Mpg_makeDeclaration_39 rfl (lv_at hl 1 rfl) ?_
            refine px_get S k_Mpg hT hw 0 0 18 (v := .ref (r 18)) rfl rfl rfl (by decide) m10_3 d_Mpg_makeDeclaration_40 ?_
            refine lv_iload_n S.x S.b d_Mpg_makeDeclaration_43 rfl (lv_at hl 4 rfl) ?_
            refine px_iald S hT hw 0 14 (n := 2100) (f := (ma 18)) rfl gp_18 (x := x7_3) (vp_in_iff.mpr (by constructor <;> omega)) d_Mpg_makeDeclaration_44 ?_
            refine lv_topi (fun z71 ez71 => ?_)
            have lz71 := Int32.le_toInt z71
            have uz71 := Int32.toInt_lt z71
            have rrz71 : z71.toInt = (mb 18 x7_3.toNatClampNeg).toInt := (by rw [ez71, hkc.f (k := 18) (x := x7_3.toNatClampNeg) (by decide)])
            refine px_iald S hT hw 0 16 (n := 2100) (f := (ma 20)) rfl gp_20 (x := z71) (vp_in_iff.mpr (by constructor <;> omega)) d_Mpg_makeDeclaration_45 ?_
            refine lv_topi (fun z72 ez72 => ?_)
            have lz72 := Int32.le_toInt z72
            have uz72 := Int32.toInt_lt z72
            refine lv_iconst (v := 0) S.x S.b d_Mpg_makeDeclaration_46 (by decide) ?_
            refine px_calli (pr := []) (px_runV (As := [.int 1, .int z72, .int 0]) (rest := []) S (c_mp_emit l D cs h r g tf ta pf na ma wa cf ca xf xa ef_7 ea_7 1 z72 0  (show 0 ≤ (ef_7 60).toInt from by first | exact oz_16d7fa9f32 k7_0 g4 | omega) (show (ef_7 60).toInt < 7000 from by omega) _) hT (pr := []) (pcs := [wdP cs h r g tf ta pf na ma wa cf ca ef_7 ea_7 xf xa]) hw px_X.tt (px_recv hT hw 0 0 rfl rfl rfl) m13_86 m13_83 m13_85 ms_14_2 m1_21 q_Mpg_emit ⟨show 0 + 1 ≤ (2 * d + 12) from (by first | exact oz_141b3276af | omega), show 8 + (4 + 11) + 0 ≤ (120 * d + 440) from (by first | exact oz_8e2f644a0a | omega)⟩ hl.1 rfl (Nat.le_of_ble_eq_true rfl) d_Mpg_makeDeclaration_47 ⟨Nat.le_of_ble_eq_true rfl, Nat.le_of_ble_eq_true rfl⟩) hw hA (fun v78 p77 H locs hp77 hw => ?_)
            obtain ⟨ef75, ea76, rfl, e79, e80, e81, e82, e83⟩ := hp77
            have e79 : v78.toInt = (ef_7 60).toInt := e79
            have e80 : (ef75 60).toInt = (ef_7 60).toInt + 1 := e80
            have e81 : (ef75 64).toInt = (ef_7 64).toInt := e81
            have e82 : (ef75 65).toInt = (ef_7 65).toInt := e82
            have e83 : EmU ea_7 ea76 (ef_7 60) (1 : Int32) z72 (0 : Int32) := e83
            have hcd := hcd.tr e83.cd (by omega)
            have hsg := hsg.em e83 (by omega) rfl (by first | omega | (simp only [List.length_cons, List.length_append]; omega)) (.push S9 rfl)
            have hw : pw D A s.heap H locs [wdP cs h r g tf ta pf na ma wa cf ca ef75 ea76 xf xa] := hw
            have lv78 := Int32.le_toInt v78
            have uv78 := Int32.toInt_lt v78
            refine lv_pop S.x S.b d_Mpg_makeDeclaration_50 rfl ?_
            refine lv_goto (tgt := 64) S.x S.b d_Mpg_makeDeclaration_51 (by decide) ?_
            refine lv_aload_n S.x S.b d_Mpg_makeDeclaration_64 rfl (lv_at hl 1 rfl) ?_
            refine lv_iconst (v := 3) S.x S.b d_Mpg_makeDeclaration_65 (by decide) ?_
            refine lv_iload S.x S.b d_Mpg_makeDeclaration_66 (lv_at hl 0 rfl) ?_
            refine lv_iconst (v := 0) S.x S.b d_Mpg_makeDeclaration_68 (by decide) ?_
            refine px_calli (pr := []) (px_runV (As := [.int 3, .int z5, .int 0]) (rest := []) S (c_mp_emit l D cs h r g tf ta pf na ma wa cf ca xf xa ef75 ea76 3 z5 0  (show 0 ≤ (ef75 60).toInt from by first | exact oz_2188d1bf01 e80 k7_0 g4 | omega) (show (ef75 60).toInt < 7000 from by omega) _) hT (pr := []) (pcs := [wdP cs h r g tf ta pf na ma wa cf ca ef75 ea76 xf xa]) hw px_X.tt (px_recv hT hw 0 0 rfl rfl rfl) m13_86 m13_83 m13_85 ms_14_2 m1_21 q_Mpg_emit ⟨show 0 + 1 ≤ (2 * d + 12) from (by first | exact oz_141b3276af | omega), show 8 + (4 + 11) + 0 ≤ (120 * d + 440) from (by first | exact oz_8e2f644a0a | omega)⟩ hl.1 rfl (Nat.le_of_ble_eq_true rfl) d_Mpg_makeDeclaration_69 ⟨Nat.le_of_ble_eq_true rfl, Nat.le_of_ble_eq_true rfl⟩) hw hA (fun v89 p88 H locs hp88 hw => ?_)
            obtain ⟨ef86, ea87, rfl, e90, e91, e92, e93, e94⟩ := hp88
            have e90 : v89.toInt = (ef75 60).toInt := e90
            have e91 : (ef86 60).toInt = (ef75 60).toInt + 1 := e91
            have e92 : (ef86 64).toInt = (ef75 64).toInt := e92
            have e93 : (ef86 65).toInt = (ef75 65).toInt := e93
            have e94 : EmU ea76 ea87 (ef75 60) (3 : Int32) z5 (0 : Int32) := e94
            have hcd := hcd.tr e94.cd (by omega)
            have hsg := hsg.em e94 (by omega) rfl (by first | omega | (simp only [List.length_cons, List.length_append]; omega)) (hcx.save (by rw [hy_z5]; exact hsv) (Or.inl rfl))
            have hw : pw D A s.heap H locs [wdP cs h r g tf ta pf na ma wa cf ca ef86 ea87 xf xa] := hw
            have lv89 := Int32.le_toInt v89
            have uv89 := Int32.toInt_lt v89
            refine lv_pop S.x S.b d_Mpg_makeDeclaration_72 rfl ?_
            refine lv_aload_n S.x S.b d_Mpg_makeDeclaration_73 rfl (lv_at hl 1 rfl) ?_
            refine lv_bipush (v := 17) S.x S.b d_Mpg_makeDeclaration_74 (by decide) ?_
            refine lv_iconst (v := 0) S.x S.b d_Mpg_makeDeclaration_76 (by decide) ?_
            refine lv_iconst (v := 0) S.x S.b d_Mpg_makeDeclaration_77 (by decide) ?_
            refine px_calli (pr := []) (px_runV (As := [.int 17, .int 0, .int 0]) (rest := []) S (c_mp_emit l D cs h r g tf ta pf na ma wa cf ca xf xa ef86 ea87 17 0 0  (show 0 ≤ (ef86 60).toInt from by first | exact oz_18e4c16450 e91 e80 k7_0 g4 | omega) (show (ef86 60).toInt < 7000 from by omega) _) hT (pr := []) (pcs := [wdP cs h r g tf ta pf na ma wa cf ca ef86 ea87 xf xa]) hw px_X.tt (px_recv hT hw 0 0 rfl rfl rfl) m13_86 m13_83 m13_85 ms_14_2 m1_21 q_Mpg_emit ⟨show 0 + 1 ≤ (2 * d + 12) from (by first | exact oz_141b3276af | omega), show 8 + (4 + 11) + 0 ≤ (120 * d + 440) from (by first | exact oz_8e2f644a0a | omega)⟩ hl.1 rfl (Nat.le_of_ble_eq_true rfl) d_Mpg_makeDeclaration_78 ⟨Nat.le_of_ble_eq_true rfl, Nat.le_of_ble_eq_true rfl⟩) hw hA (fun v100 p99 H locs hp99 hw => ?_)
            obtain ⟨ef97, ea98, rfl, e101, e102, e103, e104, e105⟩ := hp99
            have e101 : v100.toInt = (ef86 60).toInt := e101
            have e102 : (ef97 60).toInt = (ef86 60).toInt + 1 := e102
            have e103 : (ef97 64).toInt = (ef86 64).toInt := e103
            have e104 : (ef97 65).toInt = (ef86 65).toInt := e104
            have e105 : EmU ea87 ea98 (ef86 60) (17 : Int32) (0 : Int32) (0 : Int32) := e105
            have hcd := hcd.tr e105.cd (by omega)
            have hsg := hsg.em e105 (by omega) rfl (by first | omega | (simp only [List.length_cons, List.length_append]; omega)) (.pop S9 rfl)
            have hw : pw D A s.heap H locs [wdP cs h r g tf ta pf na ma wa cf ca ef97 ea98 xf xa] := hw
            have lv100 := Int32.le_toInt v100
            have uv100 := Int32.toInt_lt v100
            refine lv_pop S.x S.b d_Mpg_makeDeclaration_81 rfl ?_
            refine lv_goto (tgt := 102) S.x S.b d_Mpg_makeDeclaration_82 (by decide) ?_
            refine lv_aload_n S.x S.b d_Mpg_makeDeclaration_102 rfl (lv_at hl 1 rfl) ?_
            refine px_get S k_Mpg hT hw 0 0 21 (v := .ref (r 21)) rfl rfl rfl (by decide) m10_7 d_Mpg_makeDeclaration_103 ?_
            refine lv_iload_n S.x S.b d_Mpg_makeDeclaration_106 rfl (lv_at hl 4 rfl) ?_
            refine px_iald S hT hw 0 17 (n := 2100) (f := (na 21)) rfl gp_21 (x := x7_3) (vp_in_iff.mpr (by constructor <;> omega)) d_Mpg_makeDeclaration_107 ?_
            refine lv_topi (fun z106 ez106 => ?_)
            have lz106 := Int32.le_toInt z106
            have uz106 := Int32.toInt_lt z106
            refine lv_istore_n (lv' := [(3, .int z106), (4, .int z5), (0, .ref h), (1, .int p0), (2, .int p1)]) S.x S.b d_Mpg_makeDeclaration_108 rfl hl (by decide) rfl (fun ls hl => ?_)
            refine lv_goto (tgt := 7) S.x S.b d_Mpg_makeDeclaration_109 (by decide) ?_
            exact ih7 ef97 ea98 md3 (wr_7 - wa4) z106 _ _ ls (show (ef 60).toInt ≤ (ef97 60).toInt from by first | exact oz_e5dfe0e4b2 k7_0 e102 e80 e91 | omega) (show (ef97 60).toInt + (wr_7 - wa4) ≤ (ef 60).toInt + wt from by omega) (show lo ≤ md3 from by first | exact oz_8ecff1de6a k7_2 hm_md3.2.2.2.1 hm_md3.2.2.1 | omega) (show md3 ≤ hi from by first | exact hm_md3.2.1 | omega) (show (ef97 64).toInt = (ef 64).toInt from by first | exact oz_ff3084e3c1 k7_4 e103 e81 e92 | omega) (show (ef97 65).toInt = (ef 65).toInt from by first | exact oz_ff3084e3c1 k7_5 e104 e82 e93 | omega) (show CdK ea ea98 (ef 60).toInt from hcd) (show VkB ta (tf 6).toInt na ma0 mb ca V d (pf 13).toInt md3 hi (wr_7 - wa4) bh t9 z106 from (by rw [ez106]; exact hvk2)) (show SgQ X9 (ea98 61) (ef 60).toInt (ef97 60).toInt fi S9 S9 lvq from (hsg.tq (by omega) (by omega) rfl)) (show hi - md3 < (n_7 : Int) from by first | exact oz_2b66180fc4 hm hm_md3.2.2.2.1 hm_md3.2.2.1 | omega) hw (lv_sub hl [2, 3, 4, 0] rfl)
  refine lv_aload_n S.x S.b d_Mpg_makeDeclaration_0 rfl (lv_at hl 0 rfl) ?_
  refine px_get S k_Mpg hT hw 0 0 17 (v := .ref (r 17)) rfl rfl rfl (by decide) m10_1 d_Mpg_makeDeclaration_1 ?_
  refine lv_iload_n S.x S.b d_Mpg_makeDeclaration_4 rfl (lv_at hl 1 rfl) ?_
  refine px_iald S hT hw 0 13 (n := 2100) (f := (na 17)) rfl gp_17 (x := p0) (vp_in_iff.mpr (by first | exact oz_2c9cd128cc g10 g11 g0 | (constructor <;> omega))) d_Mpg_makeDeclaration_5 ?_
  refine lv_topi (fun z107 ez107 => ?_)
  have lz107 := Int32.le_toInt z107
  have uz107 := Int32.toInt_lt z107
  refine lv_istore_n (lv' := [(3, .int z107), (0, .ref h), (1, .int p0), (2, .int p1)]) S.x S.b d_Mpg_makeDeclaration_6 rfl hl (by decide) rfl (fun ls hl => ?_)
  exact J7 ((hi - lo).toNat + 1) ef ea lo wt z107 _ _ ls (show (ef 60).toInt ≤ (ef 60).toInt from by first | exact oz_1cb5f934a5 | omega) (show (ef 60).toInt + wt ≤ (ef 60).toInt + wt from by first | exact oz_c42e39f93b | omega) (show lo ≤ lo from by first | exact oz_1cb5f934a5 | omega) (show lo ≤ hi from by first | exact g15 | omega) (show (ef 64).toInt = (ef 64).toInt from rfl) (show (ef 65).toInt = (ef 65).toInt from rfl) (show CdK ea ea (ef 60).toInt from hcd) (show VkB ta (tf 6).toInt na ma0 mb ca V d (pf 13).toInt lo hi wt bh t9 z107 from (by rw [ez107]; exact hvk)) (show SgQ X9 (ea 61) (ef 60).toInt (ef 60).toInt fi S9 S9 lvq from (hsg.tq (by omega) (by omega) rfl)) (show hi - lo < ((((hi - lo).toNat + 1 : Nat) : Int) : Int) from by first | exact oz_natlt | omega) hw (lv_sub hl [1, 2, 3, 0] rfl)
