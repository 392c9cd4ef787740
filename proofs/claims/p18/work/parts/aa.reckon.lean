theorem oz_dd267ac715 {n0 : Nat}  : (2 * n0 + 6) + 1 ≤ (2 * (n0 + 1) + 6) := by omega
theorem oz_c0ec3b0787 {n0 : Nat}  : 8 + (7 + 11) + (100 * n0 + 240) ≤ (100 * (n0 + 1) + 240) := by omega
theorem oz_be0dbcde0a {n0 : Nat}  : 4 + 1 ≤ (2 * (n0 + 1) + 6) := by omega
theorem oz_d4468bb619 {n0 : Nat}  : 8 + (6 + 11) + 170 ≤ (100 * (n0 + 1) + 240) := by omega
theorem oz_8d1dd37214 {a0 a1 a2 a3 : Int} (h0 : a2 ≤ a1) (h1 : a0 ≤ a3) (h2 : a3 < a2) : a0 ≤ a1 := by omega
theorem oz_e7688a0eb5 {a0 a1 a2 a3 a4 : Int} (h0 : 0 ≤ a0) (h1 : a0 < a1) (h2 : a1 ≤ a2) (h3 : a3 ≤ a4) (h4 : a2 < a3) (h5 : a4 ≤ 2100) : 0 ≤ a0 ∧ a0 < ((2100 : Nat) : Int) := by omega
theorem oz_0b545c74c0 {n0 : Nat}  : 1 + 1 ≤ (2 * (n0 + 1) + 6) := by omega
theorem oz_5e7cc24f9b {n0 : Nat}  : 8 + (4 + 11) + 40 ≤ (100 * (n0 + 1) + 240) := by omega
theorem oz_eacedfd6de {a0 a1 a2 a3 : Int} (h0 : a0 = a1) (h1 : 0 ≤ a1) (h2 : a1 + a2 ≤ a3) (h3 : 1 ≤ a2) (h4 : a3 ≤ 2048) : 0 ≤ a0 ∧ a0 < ((2048 : Nat) : Int) := by omega
theorem oz_fea0b1b447 {n0 : Nat}  : (4 * n0 + 16) + 1 ≤ (4 * n0 + 18) := by omega
theorem oz_09cd7a2070 {n0 : Nat}  : 8 + (3 + 11) + (200 * n0 + 560) ≤ (200 * n0 + 640) := by omega
theorem oz_d2ef3304a1 {n0 : Nat}  : 0 + 1 ≤ (4 * n0 + 18) := by omega
theorem oz_3f084196b6 {n0 : Nat}  : 8 + (2 + 11) + 0 ≤ (200 * n0 + 640) := by omega
theorem oz_04670674a7  : 1 ≤ (7 : Int) := by omega
theorem oz_0ea4eaa962 {n0 : Nat}  : 8 + (3 + 11) + 0 ≤ (200 * n0 + 640) := by omega
theorem oz_e1068b0b86 {n0 : Nat}  : (2 * n0 + 6) + 1 ≤ (4 * n0 + 18) := by omega
theorem oz_0b80dc0826 {n0 : Nat}  : 8 + (7 + 11) + (100 * n0 + 240) ≤ (200 * n0 + 640) := by omega
theorem m13_10 : Cond.methodLink "HomeSystemModel$Program" 609 ⟨"HomeSystemModel$Program", "reckon", "(I)I"⟩ ∈ AL := AL_13 (List.mem_of_getElem? (i := 10) rfl) rfl
theorem m13_13 : Cond.code ⟨"HomeSystemModel$Program", "reckon", "(I)I"⟩ prog_16_method_84_code 7 (Option.some FieldType.int) ∈ AL := AL_13 (List.mem_of_getElem? (i := 13) rfl) rfl
theorem ms_13_0 : Cond.selects "HomeSystemModel$Program" ⟨"HomeSystemModel$Program", "reckon", "(I)I"⟩ ⟨"HomeSystemModel$Program", "reckon", "(I)I"⟩ ∈ AL := AL_p (q := (⟨"HomeSystemModel$Program", "reckon", "(I)I"⟩, 69)) (by unfold lw_privs; exact List.mem_append_right _ (List.mem_append_right _ (List.mem_append_right _ (List.mem_append_right _ (List.mem_append_right _ (List.mem_append_right _ (List.mem_append_right _ (List.mem_append_right _ (List.mem_append_right _ (List.mem_append_right _ (List.mem_append_right _ (List.mem_append_right _ (List.mem_append_left _ (List.mem_of_getElem? (i := 0) rfl))))))))))))))
theorem m13_12 : Cond.instanceMethod ⟨"HomeSystemModel$Program", "reckon", "(I)I"⟩ ∈ AL := AL_13 (List.mem_of_getElem? (i := 12) rfl) rfl
theorem m13_14 : Cond.methodLink "HomeSystemModel$Program" 615 ⟨"HomeSystemModel$Program", "two", "(III)I"⟩ ∈ AL := AL_13 (List.mem_of_getElem? (i := 14) rfl) rfl
theorem m13_17 : Cond.code ⟨"HomeSystemModel$Program", "two", "(III)I"⟩ prog_16_method_85_code 6 (Option.some FieldType.int) ∈ AL := AL_13 (List.mem_of_getElem? (i := 17) rfl) rfl
theorem ms_13_1 : Cond.selects "HomeSystemModel$Program" ⟨"HomeSystemModel$Program", "two", "(III)I"⟩ ⟨"HomeSystemModel$Program", "two", "(III)I"⟩ ∈ AL := AL_p (q := (⟨"HomeSystemModel$Program", "two", "(III)I"⟩, 69)) (by unfold lw_privs; exact List.mem_append_right _ (List.mem_append_right _ (List.mem_append_right _ (List.mem_append_right _ (List.mem_append_right _ (List.mem_append_right _ (List.mem_append_right _ (List.mem_append_right _ (List.mem_append_right _ (List.mem_append_right _ (List.mem_append_right _ (List.mem_append_right _ (List.mem_append_left _ (List.mem_of_getElem? (i := 1) rfl))))))))))))))
theorem m13_16 : Cond.instanceMethod ⟨"HomeSystemModel$Program", "two", "(III)I"⟩ ∈ AL := AL_13 (List.mem_of_getElem? (i := 16) rfl) rfl
theorem m10_54 : Cond.fieldLink "HomeSystemModel$Program" 612 "HomeSystemModel$Program" "result" "I" ∈ AL := AL_10 (List.mem_of_getElem? (i := 54) rfl) rfl
theorem z_fit {v : Int32} (h : v.toInt = 0 ∨ v.toInt = 1) : fits .boolean (.int v) = true := by
  have : v = 0 ∨ v = 1 := h.imp (fun q => i_eq.mpr q) (fun q => i_eq.mpr q)
  rcases this with rfl | rfl <;> rfl
abbrev b_Mpg_reckon : ByteArray := prog_16_method_84_code
def y_Mpg_reckon : MethodName := ⟨"HomeSystemModel$Program", "reckon", "(I)I"⟩
theorem d_Mpg_reckon_0 : decode b_Mpg_reckon 0 = .ok (.aload_n 0, 1) := by decide +kernel
theorem d_Mpg_reckon_1 : decode b_Mpg_reckon 1 = .ok (.getfield 207, 3) := by decide +kernel
theorem d_Mpg_reckon_4 : decode b_Mpg_reckon 4 = .ok (.iload_n 1, 1) := by decide +kernel
theorem d_Mpg_reckon_5 : decode b_Mpg_reckon 5 = .ok (.baload, 1) := by decide +kernel
theorem d_Mpg_reckon_6 : decode b_Mpg_reckon 6 = .ok (.tableswitch 183 1 8 #[46, 58, 183, 183, 75, 183, 183, 146], 46) := by decide +kernel
theorem d_Mpg_reckon_52 : decode b_Mpg_reckon 52 = .ok (.aload_n 0, 1) := by decide +kernel
theorem d_Mpg_reckon_53 : decode b_Mpg_reckon 53 = .ok (.getfield 204, 3) := by decide +kernel
theorem d_Mpg_reckon_56 : decode b_Mpg_reckon 56 = .ok (.aload_n 0, 1) := by decide +kernel
theorem d_Mpg_reckon_57 : decode b_Mpg_reckon 57 = .ok (.getfield 210, 3) := by decide +kernel
theorem d_Mpg_reckon_60 : decode b_Mpg_reckon 60 = .ok (.iload_n 1, 1) := by decide +kernel
theorem d_Mpg_reckon_61 : decode b_Mpg_reckon 61 = .ok (.iaload, 1) := by decide +kernel
theorem d_Mpg_reckon_62 : decode b_Mpg_reckon 62 = .ok (.iaload, 1) := by decide +kernel
theorem d_Mpg_reckon_63 : decode b_Mpg_reckon 63 = .ok (.ireturn, 1) := by decide +kernel
theorem d_Mpg_reckon_64 : decode b_Mpg_reckon 64 = .ok (.aload_n 0, 1) := by decide +kernel
theorem d_Mpg_reckon_65 : decode b_Mpg_reckon 65 = .ok (.getfield 252, 3) := by decide +kernel
theorem d_Mpg_reckon_68 : decode b_Mpg_reckon 68 = .ok (.aload_n 0, 1) := by decide +kernel
theorem d_Mpg_reckon_69 : decode b_Mpg_reckon 69 = .ok (.aload_n 0, 1) := by decide +kernel
theorem d_Mpg_reckon_70 : decode b_Mpg_reckon 70 = .ok (.getfield 210, 3) := by decide +kernel
theorem d_Mpg_reckon_73 : decode b_Mpg_reckon 73 = .ok (.iload_n 1, 1) := by decide +kernel
theorem d_Mpg_reckon_74 : decode b_Mpg_reckon 74 = .ok (.iaload, 1) := by decide +kernel
theorem d_Mpg_reckon_75 : decode b_Mpg_reckon 75 = .ok (.iconst 0, 1) := by decide +kernel
theorem d_Mpg_reckon_76 : decode b_Mpg_reckon 76 = .ok (.invokevirtual 559, 3) := by decide +kernel
theorem d_Mpg_reckon_79 : decode b_Mpg_reckon 79 = .ok (.iaload, 1) := by decide +kernel
theorem d_Mpg_reckon_80 : decode b_Mpg_reckon 80 = .ok (.ireturn, 1) := by decide +kernel
theorem d_Mpg_reckon_81 : decode b_Mpg_reckon 81 = .ok (.aload_n 0, 1) := by decide +kernel
theorem d_Mpg_reckon_82 : decode b_Mpg_reckon 82 = .ok (.aload_n 0, 1) := by decide +kernel
theorem d_Mpg_reckon_83 : decode b_Mpg_reckon 83 = .ok (.getfield 216, 3) := by decide +kernel
theorem d_Mpg_reckon_86 : decode b_Mpg_reckon 86 = .ok (.iload_n 1, 1) := by decide +kernel
theorem d_Mpg_reckon_87 : decode b_Mpg_reckon 87 = .ok (.iaload, 1) := by decide +kernel
theorem d_Mpg_reckon_88 : decode b_Mpg_reckon 88 = .ok (.invokevirtual 609, 3) := by decide +kernel
theorem d_Mpg_reckon_91 : decode b_Mpg_reckon 91 = .ok (.istore_n 2, 1) := by decide +kernel
theorem d_Mpg_reckon_92 : decode b_Mpg_reckon 92 = .ok (.aload_n 0, 1) := by decide +kernel
theorem d_Mpg_reckon_93 : decode b_Mpg_reckon 93 = .ok (.getfield 190, 3) := by decide +kernel
theorem d_Mpg_reckon_96 : decode b_Mpg_reckon 96 = .ok (.aload_n 0, 1) := by decide +kernel
theorem d_Mpg_reckon_97 : decode b_Mpg_reckon 97 = .ok (.getfield 194, 3) := by decide +kernel
theorem d_Mpg_reckon_100 : decode b_Mpg_reckon 100 = .ok (.aload_n 0, 1) := by decide +kernel
theorem d_Mpg_reckon_101 : decode b_Mpg_reckon 101 = .ok (.getfield 210, 3) := by decide +kernel
theorem d_Mpg_reckon_104 : decode b_Mpg_reckon 104 = .ok (.iload_n 1, 1) := by decide +kernel
theorem d_Mpg_reckon_105 : decode b_Mpg_reckon 105 = .ok (.iaload, 1) := by decide +kernel
theorem d_Mpg_reckon_106 : decode b_Mpg_reckon 106 = .ok (.iaload, 1) := by decide +kernel
theorem d_Mpg_reckon_107 : decode b_Mpg_reckon 107 = .ok (.baload, 1) := by decide +kernel
theorem d_Mpg_reckon_108 : decode b_Mpg_reckon 108 = .ok (.istore_n 3, 1) := by decide +kernel
theorem d_Mpg_reckon_109 : decode b_Mpg_reckon 109 = .ok (.iload_n 3, 1) := by decide +kernel
theorem d_Mpg_reckon_110 : decode b_Mpg_reckon 110 = .ok (.bipush 45, 2) := by decide +kernel
theorem d_Mpg_reckon_112 : decode b_Mpg_reckon 112 = .ok (.if_icmp .ne 8, 3) := by decide +kernel
theorem d_Mpg_reckon_115 : decode b_Mpg_reckon 115 = .ok (.iload_n 2, 1) := by decide +kernel
theorem d_Mpg_reckon_116 : decode b_Mpg_reckon 116 = .ok (.ineg, 1) := by decide +kernel
theorem d_Mpg_reckon_117 : decode b_Mpg_reckon 117 = .ok (.goto 34, 3) := by decide +kernel
theorem d_Mpg_reckon_120 : decode b_Mpg_reckon 120 = .ok (.iload_n 3, 1) := by decide +kernel
theorem d_Mpg_reckon_121 : decode b_Mpg_reckon 121 = .ok (.bipush 33, 2) := by decide +kernel
theorem d_Mpg_reckon_123 : decode b_Mpg_reckon 123 = .ok (.if_icmp .ne 15, 3) := by decide +kernel
theorem d_Mpg_reckon_126 : decode b_Mpg_reckon 126 = .ok (.iload_n 2, 1) := by decide +kernel
theorem d_Mpg_reckon_127 : decode b_Mpg_reckon 127 = .ok (.ifCond .ne 7, 3) := by decide +kernel
theorem d_Mpg_reckon_130 : decode b_Mpg_reckon 130 = .ok (.iconst 1, 1) := by decide +kernel
theorem d_Mpg_reckon_131 : decode b_Mpg_reckon 131 = .ok (.goto 20, 3) := by decide +kernel
theorem d_Mpg_reckon_134 : decode b_Mpg_reckon 134 = .ok (.iconst 0, 1) := by decide +kernel
theorem d_Mpg_reckon_135 : decode b_Mpg_reckon 135 = .ok (.goto 16, 3) := by decide +kernel
theorem d_Mpg_reckon_138 : decode b_Mpg_reckon 138 = .ok (.iload_n 3, 1) := by decide +kernel
theorem d_Mpg_reckon_139 : decode b_Mpg_reckon 139 = .ok (.bipush 126, 2) := by decide +kernel
theorem d_Mpg_reckon_141 : decode b_Mpg_reckon 141 = .ok (.if_icmp .ne 9, 3) := by decide +kernel
theorem d_Mpg_reckon_144 : decode b_Mpg_reckon 144 = .ok (.iload_n 2, 1) := by decide +kernel
theorem d_Mpg_reckon_145 : decode b_Mpg_reckon 145 = .ok (.iconst (-1), 1) := by decide +kernel
theorem d_Mpg_reckon_146 : decode b_Mpg_reckon 146 = .ok (.ixor, 1) := by decide +kernel
theorem d_Mpg_reckon_147 : decode b_Mpg_reckon 147 = .ok (.goto 4, 3) := by decide +kernel
theorem d_Mpg_reckon_150 : decode b_Mpg_reckon 150 = .ok (.iload_n 2, 1) := by decide +kernel
theorem d_Mpg_reckon_151 : decode b_Mpg_reckon 151 = .ok (.ireturn, 1) := by decide +kernel
theorem d_Mpg_reckon_152 : decode b_Mpg_reckon 152 = .ok (.aload_n 0, 1) := by decide +kernel
theorem d_Mpg_reckon_153 : decode b_Mpg_reckon 153 = .ok (.aload_n 0, 1) := by decide +kernel
theorem d_Mpg_reckon_154 : decode b_Mpg_reckon 154 = .ok (.getfield 216, 3) := by decide +kernel
theorem d_Mpg_reckon_157 : decode b_Mpg_reckon 157 = .ok (.iload_n 1, 1) := by decide +kernel
theorem d_Mpg_reckon_158 : decode b_Mpg_reckon 158 = .ok (.iaload, 1) := by decide +kernel
theorem d_Mpg_reckon_159 : decode b_Mpg_reckon 159 = .ok (.invokevirtual 609, 3) := by decide +kernel
theorem d_Mpg_reckon_162 : decode b_Mpg_reckon 162 = .ok (.ifCond .eq 16, 3) := by decide +kernel
theorem d_Mpg_reckon_165 : decode b_Mpg_reckon 165 = .ok (.aload_n 0, 1) := by decide +kernel
theorem d_Mpg_reckon_166 : decode b_Mpg_reckon 166 = .ok (.aload_n 0, 1) := by decide +kernel
theorem d_Mpg_reckon_167 : decode b_Mpg_reckon 167 = .ok (.getfield 219, 3) := by decide +kernel
theorem d_Mpg_reckon_170 : decode b_Mpg_reckon 170 = .ok (.iload_n 1, 1) := by decide +kernel
theorem d_Mpg_reckon_171 : decode b_Mpg_reckon 171 = .ok (.iaload, 1) := by decide +kernel
theorem d_Mpg_reckon_172 : decode b_Mpg_reckon 172 = .ok (.invokevirtual 609, 3) := by decide +kernel
theorem d_Mpg_reckon_175 : decode b_Mpg_reckon 175 = .ok (.goto 13, 3) := by decide +kernel
theorem d_Mpg_reckon_178 : decode b_Mpg_reckon 178 = .ok (.aload_n 0, 1) := by decide +kernel
theorem d_Mpg_reckon_179 : decode b_Mpg_reckon 179 = .ok (.aload_n 0, 1) := by decide +kernel
theorem d_Mpg_reckon_180 : decode b_Mpg_reckon 180 = .ok (.getfield 222, 3) := by decide +kernel
theorem d_Mpg_reckon_183 : decode b_Mpg_reckon 183 = .ok (.iload_n 1, 1) := by decide +kernel
theorem d_Mpg_reckon_184 : decode b_Mpg_reckon 184 = .ok (.iaload, 1) := by decide +kernel
theorem d_Mpg_reckon_185 : decode b_Mpg_reckon 185 = .ok (.invokevirtual 609, 3) := by decide +kernel
theorem d_Mpg_reckon_188 : decode b_Mpg_reckon 188 = .ok (.ireturn, 1) := by decide +kernel
theorem d_Mpg_reckon_189 : decode b_Mpg_reckon 189 = .ok (.aload_n 0, 1) := by decide +kernel
theorem d_Mpg_reckon_190 : decode b_Mpg_reckon 190 = .ok (.getfield 231, 3) := by decide +kernel
theorem d_Mpg_reckon_193 : decode b_Mpg_reckon 193 = .ok (.iload_n 1, 1) := by decide +kernel
theorem d_Mpg_reckon_194 : decode b_Mpg_reckon 194 = .ok (.iaload, 1) := by decide +kernel
theorem d_Mpg_reckon_195 : decode b_Mpg_reckon 195 = .ok (.istore 4, 2) := by decide +kernel
theorem d_Mpg_reckon_197 : decode b_Mpg_reckon 197 = .ok (.aload_n 0, 1) := by decide +kernel
theorem d_Mpg_reckon_198 : decode b_Mpg_reckon 198 = .ok (.aload_n 0, 1) := by decide +kernel
theorem d_Mpg_reckon_199 : decode b_Mpg_reckon 199 = .ok (.getfield 216, 3) := by decide +kernel
theorem d_Mpg_reckon_202 : decode b_Mpg_reckon 202 = .ok (.iload_n 1, 1) := by decide +kernel
theorem d_Mpg_reckon_203 : decode b_Mpg_reckon 203 = .ok (.iaload, 1) := by decide +kernel
theorem d_Mpg_reckon_204 : decode b_Mpg_reckon 204 = .ok (.invokevirtual 609, 3) := by decide +kernel
theorem d_Mpg_reckon_207 : decode b_Mpg_reckon 207 = .ok (.istore 5, 2) := by decide +kernel
theorem d_Mpg_reckon_209 : decode b_Mpg_reckon 209 = .ok (.aload_n 0, 1) := by decide +kernel
theorem d_Mpg_reckon_210 : decode b_Mpg_reckon 210 = .ok (.getfield 228, 3) := by decide +kernel
theorem d_Mpg_reckon_213 : decode b_Mpg_reckon 213 = .ok (.aload_n 0, 1) := by decide +kernel
theorem d_Mpg_reckon_214 : decode b_Mpg_reckon 214 = .ok (.getfield 216, 3) := by decide +kernel
theorem d_Mpg_reckon_217 : decode b_Mpg_reckon 217 = .ok (.iload_n 1, 1) := by decide +kernel
theorem d_Mpg_reckon_218 : decode b_Mpg_reckon 218 = .ok (.iaload, 1) := by decide +kernel
theorem d_Mpg_reckon_219 : decode b_Mpg_reckon 219 = .ok (.iaload, 1) := by decide +kernel
theorem d_Mpg_reckon_220 : decode b_Mpg_reckon 220 = .ok (.istore 6, 2) := by decide +kernel
theorem d_Mpg_reckon_222 : decode b_Mpg_reckon 222 = .ok (.iload 6, 2) := by decide +kernel
theorem d_Mpg_reckon_224 : decode b_Mpg_reckon 224 = .ok (.ifCond .lt 96, 3) := by decide +kernel
theorem d_Mpg_reckon_227 : decode b_Mpg_reckon 227 = .ok (.iload 4, 2) := by decide +kernel
theorem d_Mpg_reckon_229 : decode b_Mpg_reckon 229 = .ok (.iconst 1, 1) := by decide +kernel
theorem d_Mpg_reckon_230 : decode b_Mpg_reckon 230 = .ok (.if_icmp .ne 27, 3) := by decide +kernel
theorem d_Mpg_reckon_233 : decode b_Mpg_reckon 233 = .ok (.iload 5, 2) := by decide +kernel
theorem d_Mpg_reckon_235 : decode b_Mpg_reckon 235 = .ok (.ifCond .ne 12, 3) := by decide +kernel
theorem d_Mpg_reckon_238 : decode b_Mpg_reckon 238 = .ok (.aload_n 0, 1) := by decide +kernel
theorem d_Mpg_reckon_239 : decode b_Mpg_reckon 239 = .ok (.iload 6, 2) := by decide +kernel
theorem d_Mpg_reckon_241 : decode b_Mpg_reckon 241 = .ok (.invokevirtual 609, 3) := by decide +kernel
theorem d_Mpg_reckon_244 : decode b_Mpg_reckon 244 = .ok (.ifCond .eq 7, 3) := by decide +kernel
theorem d_Mpg_reckon_247 : decode b_Mpg_reckon 247 = .ok (.iconst 1, 1) := by decide +kernel
theorem d_Mpg_reckon_248 : decode b_Mpg_reckon 248 = .ok (.goto 4, 3) := by decide +kernel
theorem d_Mpg_reckon_251 : decode b_Mpg_reckon 251 = .ok (.iconst 0, 1) := by decide +kernel
theorem d_Mpg_reckon_252 : decode b_Mpg_reckon 252 = .ok (.istore 5, 2) := by decide +kernel
theorem d_Mpg_reckon_254 : decode b_Mpg_reckon 254 = .ok (.goto 54, 3) := by decide +kernel
theorem d_Mpg_reckon_257 : decode b_Mpg_reckon 257 = .ok (.iload 4, 2) := by decide +kernel
theorem d_Mpg_reckon_259 : decode b_Mpg_reckon 259 = .ok (.iconst 2, 1) := by decide +kernel
theorem d_Mpg_reckon_260 : decode b_Mpg_reckon 260 = .ok (.if_icmp .ne 27, 3) := by decide +kernel
theorem d_Mpg_reckon_263 : decode b_Mpg_reckon 263 = .ok (.iload 5, 2) := by decide +kernel
theorem d_Mpg_reckon_265 : decode b_Mpg_reckon 265 = .ok (.ifCond .eq 16, 3) := by decide +kernel
theorem d_Mpg_reckon_268 : decode b_Mpg_reckon 268 = .ok (.aload_n 0, 1) := by decide +kernel
theorem d_Mpg_reckon_269 : decode b_Mpg_reckon 269 = .ok (.iload 6, 2) := by decide +kernel
theorem d_Mpg_reckon_271 : decode b_Mpg_reckon 271 = .ok (.invokevirtual 609, 3) := by decide +kernel
theorem d_Mpg_reckon_274 : decode b_Mpg_reckon 274 = .ok (.ifCond .eq 7, 3) := by decide +kernel
theorem d_Mpg_reckon_277 : decode b_Mpg_reckon 277 = .ok (.iconst 1, 1) := by decide +kernel
theorem d_Mpg_reckon_278 : decode b_Mpg_reckon 278 = .ok (.goto 4, 3) := by decide +kernel
theorem d_Mpg_reckon_281 : decode b_Mpg_reckon 281 = .ok (.iconst 0, 1) := by decide +kernel
theorem d_Mpg_reckon_282 : decode b_Mpg_reckon 282 = .ok (.istore 5, 2) := by decide +kernel
theorem d_Mpg_reckon_284 : decode b_Mpg_reckon 284 = .ok (.goto 24, 3) := by decide +kernel
theorem d_Mpg_reckon_287 : decode b_Mpg_reckon 287 = .ok (.aload_n 0, 1) := by decide +kernel
theorem d_Mpg_reckon_288 : decode b_Mpg_reckon 288 = .ok (.aload_n 0, 1) := by decide +kernel
theorem d_Mpg_reckon_289 : decode b_Mpg_reckon 289 = .ok (.getfield 225, 3) := by decide +kernel
theorem d_Mpg_reckon_292 : decode b_Mpg_reckon 292 = .ok (.iload 6, 2) := by decide +kernel
theorem d_Mpg_reckon_294 : decode b_Mpg_reckon 294 = .ok (.iaload, 1) := by decide +kernel
theorem d_Mpg_reckon_295 : decode b_Mpg_reckon 295 = .ok (.iload 5, 2) := by decide +kernel
theorem d_Mpg_reckon_297 : decode b_Mpg_reckon 297 = .ok (.aload_n 0, 1) := by decide +kernel
theorem d_Mpg_reckon_298 : decode b_Mpg_reckon 298 = .ok (.iload 6, 2) := by decide +kernel
theorem d_Mpg_reckon_300 : decode b_Mpg_reckon 300 = .ok (.invokevirtual 609, 3) := by decide +kernel
theorem d_Mpg_reckon_303 : decode b_Mpg_reckon 303 = .ok (.invokevirtual 615, 3) := by decide +kernel
theorem d_Mpg_reckon_306 : decode b_Mpg_reckon 306 = .ok (.istore 5, 2) := by decide +kernel
theorem d_Mpg_reckon_308 : decode b_Mpg_reckon 308 = .ok (.aload_n 0, 1) := by decide +kernel
theorem d_Mpg_reckon_309 : decode b_Mpg_reckon 309 = .ok (.getfield 228, 3) := by decide +kernel
theorem d_Mpg_reckon_312 : decode b_Mpg_reckon 312 = .ok (.iload 6, 2) := by decide +kernel
theorem d_Mpg_reckon_314 : decode b_Mpg_reckon 314 = .ok (.iaload, 1) := by decide +kernel
theorem d_Mpg_reckon_315 : decode b_Mpg_reckon 315 = .ok (.istore 6, 2) := by decide +kernel
theorem d_Mpg_reckon_317 : decode b_Mpg_reckon 317 = .ok (.goto (-95), 3) := by decide +kernel
theorem d_Mpg_reckon_320 : decode b_Mpg_reckon 320 = .ok (.iload 5, 2) := by decide +kernel
theorem d_Mpg_reckon_322 : decode b_Mpg_reckon 322 = .ok (.ireturn, 1) := by decide +kernel
theorem q_Mpg_reckon : px_y y_Mpg_reckon 1 := by unfold px_y; decide +kernel
def RkC (l : Launch) (D : va_G) (cs : Nat → ClassId) (d : Nat) : Prop := ∀ (ma0 : Nat → Nat → Int32) (ys : Int) (ns : Int) (nf : Int) (kn : Int) (lo : Int) (hi : Int) (h : Nat) (r : Nat → Nat) (g : Nat → Nat → Option Nat) (tf : Nat → Int32) (ta : Nat → Nat → Int32) (pf : Nat → Int32) (na : Nat → Nat → Int32) (ma : Nat → Nat → Int32) (wa : Nat → Nat → Int32) (ca : Nat → Nat → Int32) (ef : Nat → Int32) (ea : Nat → Nat → Int32) (xf : Nat → Int32) (xa : Nat → Nat → Int32) (cf : Nat → Int32) (p0 : Int32)  (g0 : 0 ≤ lo) (g1 : hi ≤ (pf 13).toInt) (g2 : (pf 13).toInt ≤ 2100) (g3 : (tf 6).toInt ≤ 2049) (g4 : (cf 33).toInt = kn) (g5 : 0 ≤ kn) (g6 : (cf 48).toInt = ns) (g7 : (cf 38).toInt = nf) (g8 : 0 ≤ nf) (htk : TkI tf ta) (hfs : FsI (tf 6).toInt (pf 13).toInt na) (hwr : WrV cf (tf 6).toInt) (hkt : KnT (tf 6).toInt ca (cf 33).toInt) (hft : FnT (tf 6).toInt na ca (cf 38).toInt) (han : Ann na ma0 ma) (hec : EcV ta (tf 6).toInt na ma0 d lo hi p0) (hrk : Rk ta ca na ma0 kn d p0), MetI l y_Mpg_reckon b_Mpg_reckon 7 (.int) D cs (2 * d + 6) (100 * d + 240) (0) (0) [.ref h, .int p0] [wdP cs h r g tf ta pf na ma wa cf ca ef ea xf xa] (oX (fun A U H => (oP A g U H)) [wdP cs h r g tf ta pf na ma wa cf ca ef ea xf xa]) (fun v ps => ∃ (cf' : Nat → Int32), (ps = [wdP cs h r g tf ta pf na ma wa cf' ca ef ea xf xa]) ∧ (KpE cf cf') ∧ (WrV cf' (tf 6).toInt) ∧ ((cf' 33).toInt = (cf 33).toInt) ∧ ((cf' 38).toInt = (cf 38).toInt) ∧ ((cf' 48).toInt = (cf 48).toInt) ∧ ((cf' 47).toInt = (cf 47).toInt) ∧ (RL_mp_reckon d ta na ma ca p0 cf cf' v))
set_option maxHeartbeats 4000000 in
set_option maxRecDepth 100000 in
theorem c_mp_reckon (l : Launch) (D : va_G) (cs : Nat → ClassId) (ma0 : Nat → Nat → Int32) (ys : Int) (ns : Int) (nf : Int) (kn : Int) (d : Nat) (lo : Int) (hi : Int) (h : Nat) (r : Nat → Nat) (g : Nat → Nat → Option Nat) (tf : Nat → Int32) (ta : Nat → Nat → Int32) (pf : Nat → Int32) (na : Nat → Nat → Int32) (ma : Nat → Nat → Int32) (wa : Nat → Nat → Int32) (ca : Nat → Nat → Int32) (ef : Nat → Int32) (ea : Nat → Nat → Int32) (xf : Nat → Int32) (xa : Nat → Nat → Int32) (cf : Nat → Int32) (p0 : Int32)  (g0 : 0 ≤ lo) (g1 : hi ≤ (pf 13).toInt) (g2 : (pf 13).toInt ≤ 2100) (g3 : (tf 6).toInt ≤ 2049) (g4 : (cf 33).toInt = kn) (g5 : 0 ≤ kn) (g6 : (cf 48).toInt = ns) (g7 : (cf 38).toInt = nf) (g8 : 0 ≤ nf) (htk : TkI tf ta) (hfs : FsI (tf 6).toInt (pf 13).toInt na) (hwr : WrV cf (tf 6).toInt) (hkt : KnT (tf 6).toInt ca (cf 33).toInt) (hft : FnT (tf 6).toInt na ca (cf 38).toInt) (han : Ann na ma0 ma) (hec : EcV ta (tf 6).toInt na ma0 (d + 1) lo hi p0) (hrk : Rk ta ca na ma0 kn (d + 1) p0) (hLR : RkC l D cs d) : MetI l y_Mpg_reckon b_Mpg_reckon 7 (.int) D cs (2 * (d + 1) + 6) (100 * (d + 1) + 240) (0) (0) [.ref h, .int p0] [wdP cs h r g tf ta pf na ma wa cf ca ef ea xf xa] (oX (fun A U H => (oP A g U H)) [wdP cs h r g tf ta pf na ma wa cf ca ef ea xf xa]) (fun v ps => ∃ (cf' : Nat → Int32), (ps = [wdP cs h r g tf ta pf na ma wa cf' ca ef ea xf xa]) ∧ (KpE cf cf') ∧ (WrV cf' (tf 6).toInt) ∧ ((cf' 33).toInt = (cf 33).toInt) ∧ ((cf' 38).toInt = (cf 38).toInt) ∧ ((cf' 48).toInt = (cf 48).toInt) ∧ ((cf' 47).toInt = (cf 47).toInt) ∧ (R_mp_reckon (RL_mp_reckon d) ta na ma ca p0 cf cf' v)) := by
  refine px_enter (by decide) (Nat.le_of_ble_eq_true rfl) ?_
  intro p e s m below meth c A ls hAe S hr hlk hnm hA hT hX hw hl
  have hl : lv_has ls 7 [(0, .ref h), (1, .int p0)] := hl
  have lp0 := Int32.le_toInt p0
  have up0 := Int32.toInt_lt p0
  have cstm1 : ((-1) : Int32).toInt = (-1) := rfl
  have cst0 : (0 : Int32).toInt = 0 := rfl
  have cst1 : (1 : Int32).toInt = 1 := rfl
  have cst2 : (2 : Int32).toInt = 2 := rfl
  have cst33 : (33 : Int32).toInt = 33 := rfl
  have cst45 : (45 : Int32).toInt = 45 := rfl
  have cst126 : (126 : Int32).toInt = 126 := rfl
  have hX : (fun A U H => (oP A g U H)) A s s.heap := by rw [hAe]; exact hX
  have hP := hX
  have hZ := hP.1
  have hF0 := hP.2.1
  have hke : KpE cf cf := KpE.rf
  have hfc : FrC lo hi ma ma := FrC.rf
  have hwr0 := hwr.1
  have hk11 := hkt.1
  have hf11 := hft.1
  have hec_p0 := hec
  have hrg := EcV.rng hec
  have hrk_p0 := hrk
  have J222 : ∀ (n_222 : Nat) (cf_222 : Nat → Int32) (mid_222 : Int) (x222_4 x222_5 x222_6 : Int32) (H : Heap) (locs : List Loc) (ls : Array Slot), (KpE cf cf_222) → (WrV cf_222 (tf 6).toInt) → ((cf_222 33).toInt = (cf 33).toInt) → ((cf_222 38).toInt = (cf 38).toInt) → ((cf_222 48).toInt = (cf 48).toInt) → ((cf_222 47).toInt = (cf 47).toInt) → (lo ≤ mid_222) → (mid_222 ≤ hi) → (RcM ta (tf 6).toInt na ma0 d p0 mid_222 hi x222_6) → (RwJ na (Rk ta ca na ma0 kn d) x222_6) → (K_mp_reckon_222 (RL_mp_reckon d) ta na ma ca p0 cf cf_222 x222_4 x222_5 x222_6) → hi - mid_222 < (n_222 : Int) → pw D A s.heap H locs [wdP cs h r g tf ta pf na ma wa cf_222 ca ef ea xf xa] → lv_has ls 7 [(0, .ref h), (1, .int p0), (4, .int x222_4), (5, .int x222_5), (6, .int x222_6)] → W p l e { frames := (2 * (d + 1) + 6), cells := 0, slots := 0, locals := (100 * (d + 1) + 240) } s m [.ref h, .int p0].toArray below meth c H locs 0 0 (MQ below (va_Qi (fun v ps => ∃ (cf' : Nat → Int32), (ps = [wdP cs h r g tf ta pf na ma wa cf' ca ef ea xf xa]) ∧ (KpE cf cf') ∧ (WrV cf' (tf 6).toInt) ∧ ((cf' 33).toInt = (cf 33).toInt) ∧ ((cf' 38).toInt = (cf 38).toInt) ∧ ((cf' 48).toInt = (cf 48).toInt) ∧ ((cf' 47).toInt = (cf 47).toInt) ∧ (R_mp_reckon (RL_mp_reckon d) ta na ma ca p0 cf cf' v)) (pc_B D (va_A ([wdP cs h r g tf ta pf na ma wa cf ca ef ea xf xa] : List va_W).flatten s.heap.size)) (va_A ([wdP cs h r g tf ta pf na ma wa cf ca ef ea xf xa] : List va_W).flatten s.heap.size)) [.ref h, .int p0].toArray s 0 0 A) (F0 m 222 ls []) := by
    intro  n_222
    induction n_222 with
    | zero =>
      intro cf_222 mid_222 x222_4 x222_5 x222_6 H locs ls k222_0 k222_1 k222_2 k222_3 k222_4 k222_5 k222_6 k222_7 k222_8 k222_9 k222_10 hm hw hl
      have lx222_4 := Int32.le_toInt x222_4
      have ux222_4 := Int32.toInt_lt x222_4
      have lx222_5 := Int32.le_toInt x222_5
      have ux222_5 := Int32.toInt_lt x222_5
      have lx222_6 := Int32.le_toInt x222_6
      have ux222_6 := Int32.toInt_lt x222_6
      have hke := k222_0
      have hwr := k222_1
      have hw0_k222_1 := hwr.1
      have hrm := k222_8
      have hrj := k222_9
      exact absurd hm (by omega)
    | succ n_222 ih222 =>
      intro cf_222 mid_222 x222_4 x222_5 x222_6 H locs ls k222_0 k222_1 k222_2 k222_3 k222_4 k222_5 k222_6 k222_7 k222_8 k222_9 k222_10 hm hw hl
      have lx222_4 := Int32.le_toInt x222_4
      have ux222_4 := Int32.toInt_lt x222_4
      have lx222_5 := Int32.le_toInt x222_5
      have ux222_5 := Int32.toInt_lt x222_5
      have lx222_6 := Int32.le_toInt x222_6
      have ux222_6 := Int32.toInt_lt x222_6
      have hke := k222_0
      have hwr := k222_1
      have hw0_k222_1 := hwr.1
      have hrm := k222_8
      have hrj := k222_9
      refine lv_iload S.x S.b d_Mpg_reckon_222 (lv_at hl 4 rfl) ?_
      refine lv_if_lt (tgt := 320) S.x S.b d_Mpg_reckon_224 (by decide) (fun c1 => ?_) (fun c1 => ?_)
      · have nc1 : x222_6.toInt < (0 : Int) := (i_lt (x := x222_6) (y := 0)).mp c1
        refine lv_iload S.x S.b d_Mpg_reckon_320 (lv_at hl 3 rfl) ?_
        first | exact px_iret (v := x222_5) S hr rfl hlk hAe hw (Nat.le_of_ble_eq_true rfl) (Nat.le_of_ble_eq_true rfl) (⟨cf_222, rfl, (show KpE cf cf_222 from hke), (show WrV cf_222 (tf 6).toInt from hwr), (show (cf_222 33).toInt = (cf 33).toInt from k222_2), (show (cf_222 38).toInt = (cf 38).toInt from k222_3), (show (cf_222 48).toInt = (cf 48).toInt from k222_4), (show (cf_222 47).toInt = (cf 47).toInt from k222_5), (show R_mp_reckon (RL_mp_reckon d) ta na ma ca p0 cf cf_222 x222_5 from (k222_10 _ _ 1 (Or.inr (Or.inl ⟨rfl, x222_4, x222_5, x222_6, rfl, rfl, rfl, rfl, rfl, Or.inl ⟨nc1, rfl, rfl⟩⟩))))⟩) d_Mpg_reckon_322 | (exact px_iret (v := x222_5) S hr rfl hlk hAe hw (Nat.le_of_ble_eq_true rfl) (Nat.le_of_ble_eq_true rfl) (⟨cf_222, rfl, (show KpE cf cf_222 from hke), (show WrV cf_222 (tf 6).toInt from hwr), (show (cf_222 33).toInt = (cf 33).toInt from by first | exact k222_2 | omega), (show (cf_222 38).toInt = (cf 38).toInt from by first | exact k222_3 | omega), (show (cf_222 48).toInt = (cf 48).toInt from by first | exact k222_4 | omega), (show (cf_222 47).toInt = (cf 47).toInt from by first | exact k222_5 | omega), (show R_mp_reckon (RL_mp_reckon d) ta na ma ca p0 cf cf_222 x222_5 from (k222_10 _ _ 1 (Or.inr (Or.inl ⟨rfl, x222_4, x222_5, x222_6, rfl, rfl, rfl, rfl, rfl, Or.inl ⟨nc1, rfl, rfl⟩⟩))))⟩) d_Mpg_reckon_322)
      · have nc1 : ¬ x222_6.toInt < (0 : Int) := mt (i_lt (x := x222_6) (y := 0)).mpr c1
        refine lv_iload S.x S.b d_Mpg_reckon_227 (lv_at hl 2 rfl) ?_
        obtain ⟨md3, hm1_md3, hm2_md3, ⟨hec_x222_6, hne_md3, hmk_md3⟩, hx3_md3, hrm2⟩ := RcE.step hrm (by omega); obtain ⟨hrk_x222_6, hrj2⟩ := RwJ.go hrj (by omega) rfl
        refine lv_iconst (v := 1) S.x S.b d_Mpg_reckon_229 (by decide) ?_
        refine lv_icmp_ne (tgt := 257) S.x S.b d_Mpg_reckon_230 (by decide) (fun c4 => ?_) (fun c4 => ?_)
        · have nc4 : ¬ x222_4.toInt = (1 : Int) := mt (i_eq (x := x222_4) (y := 1)).mpr c4
          refine lv_iload S.x S.b d_Mpg_reckon_257 (lv_at hl 2 rfl) ?_
          refine lv_iconst (v := 2) S.x S.b d_Mpg_reckon_259 (by decide) ?_
          refine lv_icmp_ne (tgt := 287) S.x S.b d_Mpg_reckon_260 (by decide) (fun c6 => ?_) (fun c6 => ?_)
          · have nc6 : ¬ x222_4.toInt = (2 : Int) := mt (i_eq (x := x222_4) (y := 2)).mpr c6
            refine lv_aload_n S.x S.b d_Mpg_reckon_287 rfl (lv_at hl 0 rfl) ?_
            refine lv_aload_n S.x S.b d_Mpg_reckon_288 rfl (lv_at hl 0 rfl) ?_
            refine gP_20 S hT hw 0 rfl m10_6 d_Mpg_reckon_289 ?_
            refine lv_iload S.x S.b d_Mpg_reckon_292 (lv_at hl 4 rfl) ?_
            refine px_iald S hT hw 0 16 (n := 2100) (f := (ma 20)) rfl gp_20 (x := x222_6) (vp_in_iff.mpr (by constructor <;> omega)) d_Mpg_reckon_294 ?_
            refine lv_topi (fun z8 ez8 => ?_)
            have lz8 := Int32.le_toInt z8
            have uz8 := Int32.toInt_lt z8
            have hkx := EcV.kind hec_x222_6; have hmd := MkD.at hmk_md3 han (by omega) ez8
            refine lv_iload S.x S.b d_Mpg_reckon_295 (lv_at hl 3 rfl) ?_
            refine lv_aload_n S.x S.b d_Mpg_reckon_297 rfl (lv_at hl 0 rfl) ?_
            refine lv_iload S.x S.b d_Mpg_reckon_298 (lv_at hl 4 rfl) ?_
            first | refine px_calli (pr := []) (px_runV (As := [.int x222_6]) (rest := [.int x222_5, .int z8, .ref h]) S (hLR ma0 ys ns nf kn mid_222 md3 h r g tf ta pf na ma wa ca ef ea xf xa cf_222 x222_6 (show 0 ≤ mid_222 from (oz_16d7fa9f32 k222_6 g0)) (show md3 ≤ (pf 13).toInt from (oz_bbb5b20c1a g1 hm2_md3)) (show (pf 13).toInt ≤ 2100 from g2) (show (tf 6).toInt ≤ 2049 from g3) (show (cf_222 33).toInt = kn from (oz_1687f4cc65 g4 k222_2)) (show 0 ≤ kn from g5) (show (cf_222 48).toInt = ns from (oz_1687f4cc65 g6 k222_4)) (show (cf_222 38).toInt = nf from (oz_1687f4cc65 g7 k222_3)) (show 0 ≤ nf from g8) htk (FsI.le (N' := (pf 13).toInt) hfs (by omega)) hwr (KnT.eq hkt (by omega)) (FnT.eq hft (by omega)) han hec_x222_6 hrk_x222_6 _) hT (pr := []) (pcs := [wdP cs h r g tf ta pf na ma wa cf_222 ca ef ea xf xa]) hw (oX_call (P := (fun A U H => (oP A g U H))) (pr := []) oG_P hw hA hP) (px_recv hT hw 0 0 rfl rfl rfl) m13_13 m13_10 m13_12 ms_13_0 m1_21 q_Mpg_reckon ⟨show (2 * d + 6) + 1 ≤ (2 * (d + 1) + 6) from (oz_dd267ac715), show 8 + (7 + 11) + (100 * d + 240) ≤ (100 * (d + 1) + 240) from (oz_c0ec3b0787)⟩ hl.1 rfl (Nat.le_of_ble_eq_true rfl) d_Mpg_reckon_300 ⟨Nat.le_of_ble_eq_true rfl, Nat.le_of_ble_eq_true rfl⟩) hw hA (fun v12 p11 H locs hp11 hw => ?_) | (refine px_calli (pr := []) (px_runV (As := [.int x222_6]) (rest := [.int x222_5, .int z8, .ref h]) S (hLR ma0 ys ns nf kn mid_222 md3 h r g tf ta pf na ma wa ca ef ea xf xa cf_222 x222_6 (show 0 ≤ mid_222 from by first | exact oz_16d7fa9f32 k222_6 g0 | omega) (show md3 ≤ (pf 13).toInt from by first | exact oz_bbb5b20c1a g1 hm2_md3 | omega) (show (pf 13).toInt ≤ 2100 from by first | exact g2 | omega) (show (tf 6).toInt ≤ 2049 from by first | exact g3 | omega) (show (cf_222 33).toInt = kn from by first | exact oz_1687f4cc65 g4 k222_2 | omega) (show 0 ≤ kn from by first | exact g5 | omega) (show (cf_222 48).toInt = ns from by first | exact oz_1687f4cc65 g6 k222_4 | omega) (show (cf_222 38).toInt = nf from by first | exact oz_1687f4cc65 g7 k222_3 | omega) (show 0 ≤ nf from by first | exact g8 | omega) htk (FsI.le (N' := (pf 13).toInt) hfs (by omega)) hwr (KnT.eq hkt (by omega)) (FnT.eq hft (by omega)) han hec_x222_6 hrk_x222_6 _) hT (pr := []) (pcs := [wdP cs h r g tf ta pf na ma wa cf_222 ca ef ea xf xa]) hw (oX_call (P := (fun A U H => (oP A g U H))) (pr := []) oG_P hw hA hP) (px_recv hT hw 0 0 rfl rfl rfl) m13_13 m13_10 m13_12 ms_13_0 m1_21 q_Mpg_reckon ⟨show (2 * d + 6) + 1 ≤ (2 * (d + 1) + 6) from (by first | exact oz_dd267ac715 | omega), show 8 + (7 + 11) + (100 * d + 240) ≤ (100 * (d + 1) + 240) from (by first | exact oz_c0ec3b0787 | omega)⟩ hl.1 rfl (Nat.le_of_ble_eq_true rfl) d_Mpg_reckon_300 ⟨Nat.le_of_ble_eq_true rfl, Nat.le_of_ble_eq_true rfl⟩) hw hA (fun v12 p11 H locs hp11 hw => ?_))
            obtain ⟨cf10, rfl, e13, e14, e15, e16, e17, e18, e19⟩ := hp11
            have e13 : KpE cf_222 cf10 := e13
            have hke := (hke).tr e13
            have hkz_e13 := e13.2
            have e14 : WrV cf10 (tf 6).toInt := e14
            have hwr := e14
            have hw0_e14 := hwr.1
            have e15 : (cf10 33).toInt = (cf_222 33).toInt := e15
            have e16 : (cf10 38).toInt = (cf_222 38).toInt := e16
            have e17 : (cf10 48).toInt = (cf_222 48).toInt := e17
            have e18 : (cf10 47).toInt = (cf_222 47).toInt := e18
            have e19 : RL_mp_reckon d ta na ma ca x222_6 cf_222 cf10 v12 := e19
            have lv12 := Int32.le_toInt v12
            have uv12 := Int32.toInt_lt v12
            first | refine px_calli (pr := []) (px_runV (As := [.int z8, .int x222_5, .int v12]) (rest := []) S (c_mp_two l D cs h r g tf ta pf na ma wa ca ef ea xf xa cf10 z8 x222_5 v12  (show 0 ≤ z8.toInt from hmd.1) (show z8.toInt < (tf 6).toInt from by omega) (show (tf 6).toInt ≤ 2049 from g3) (show so ta z8 = 5 from hmd.2.2) htk hwr _) hT (pr := []) (pcs := [wdP cs h r g tf ta pf na ma wa cf10 ca ef ea xf xa]) hw (oX_call (P := (fun A U H => (oP A g U H))) (pr := []) oG_P hw hA hP) (px_recv hT hw 0 0 rfl rfl rfl) m13_17 m13_14 m13_16 ms_13_1 m1_21 q_Mpg_two ⟨show 4 + 1 ≤ (2 * (d + 1) + 6) from (oz_be0dbcde0a), show 8 + (6 + 11) + 170 ≤ (100 * (d + 1) + 240) from (oz_d4468bb619)⟩ hl.1 rfl (Nat.le_of_ble_eq_true rfl) d_Mpg_reckon_303 ⟨Nat.le_of_ble_eq_true rfl, Nat.le_of_ble_eq_true rfl⟩) hw hA (fun v23 p22 H locs hp22 hw => ?_) | (refine px_calli (pr := []) (px_runV (As := [.int z8, .int x222_5, .int v12]) (rest := []) S (c_mp_two l D cs h r g tf ta pf na ma wa ca ef ea xf xa cf10 z8 x222_5 v12  (show 0 ≤ z8.toInt from by first | exact hmd.1 | omega) (show z8.toInt < (tf 6).toInt from by omega) (show (tf 6).toInt ≤ 2049 from by first | exact g3 | omega) (show so ta z8 = 5 from by first | exact hmd.2.2 | omega) htk hwr _) hT (pr := []) (pcs := [wdP cs h r g tf ta pf na ma wa cf10 ca ef ea xf xa]) hw (oX_call (P := (fun A U H => (oP A g U H))) (pr := []) oG_P hw hA hP) (px_recv hT hw 0 0 rfl rfl rfl) m13_17 m13_14 m13_16 ms_13_1 m1_21 q_Mpg_two ⟨show 4 + 1 ≤ (2 * (d + 1) + 6) from (by first | exact oz_be0dbcde0a | omega), show 8 + (6 + 11) + 170 ≤ (100 * (d + 1) + 240) from (by first | exact oz_d4468bb619 | omega)⟩ hl.1 rfl (Nat.le_of_ble_eq_true rfl) d_Mpg_reckon_303 ⟨Nat.le_of_ble_eq_true rfl, Nat.le_of_ble_eq_true rfl⟩) hw hA (fun v23 p22 H locs hp22 hw => ?_))
            obtain ⟨cf21, rfl, e24, e25, e26, e27, e28, e29, e30⟩ := hp22
            have e24 : KpE cf10 cf21 := e24
            have hke := (hke).tr e24
            have hkz_e24 := e24.2
            have e25 : WrV cf21 (tf 6).toInt := e25
            have hwr := e25
            have hw0_e25 := hwr.1
            have e26 : (cf21 33).toInt = (cf10 33).toInt := e26
            have e27 : (cf21 38).toInt = (cf10 38).toInt := e27
            have e28 : (cf21 48).toInt = (cf10 48).toInt := e28
            have e29 : (cf21 47).toInt = (cf10 47).toInt := e29
            have e30 : R_mp_two ta z8 x222_5 v12 cf10 cf21 v23 := e30
            have lv23 := Int32.le_toInt v23
            have uv23 := Int32.toInt_lt v23
            refine lv_istore (lv' := [(5, .int v23), (0, .ref h), (1, .int p0), (4, .int x222_4), (6, .int x222_6)]) S.x S.b d_Mpg_reckon_306 hl (by decide) rfl (fun ls hl => ?_)
            refine lv_aload_n S.x S.b d_Mpg_reckon_308 rfl (lv_at hl 1 rfl) ?_
            refine gP_21 S hT hw 0 rfl m10_7 d_Mpg_reckon_309 ?_
            refine lv_iload S.x S.b d_Mpg_reckon_312 (lv_at hl 4 rfl) ?_
            refine px_iald S hT hw 0 17 (n := 2100) (f := (na 21)) rfl gp_21 (x := x222_6) (vp_in_iff.mpr (by constructor <;> omega)) d_Mpg_reckon_314 ?_
            refine lv_topi (fun z31 ez31 => ?_)
            have lz31 := Int32.le_toInt z31
            have uz31 := Int32.toInt_lt z31
            refine lv_istore (lv' := [(6, .int z31), (5, .int v23), (0, .ref h), (1, .int p0), (4, .int x222_4)]) S.x S.b d_Mpg_reckon_315 hl (by decide) rfl (fun ls hl => ?_)
            refine lv_goto (tgt := 222) S.x S.b d_Mpg_reckon_317 (by decide) ?_
            first | exact ih222 cf21 md3 x222_4 v23 z31 _ _ ls (show KpE cf cf21 from hke) (show WrV cf21 (tf 6).toInt from hwr) (show (cf21 33).toInt = (cf 33).toInt from (oz_e13fc83238 k222_2 e26 e15)) (show (cf21 38).toInt = (cf 38).toInt from (oz_e13fc83238 k222_3 e27 e16)) (show (cf21 48).toInt = (cf 48).toInt from (oz_e13fc83238 k222_4 e28 e17)) (show (cf21 47).toInt = (cf 47).toInt from (oz_e13fc83238 k222_5 e29 e18)) (show lo ≤ md3 from hm1_md3) (show md3 ≤ hi from hm2_md3) (show RcM ta (tf 6).toInt na ma0 d p0 md3 hi z31 from (by rw [ez31]; exact hrm2)) (show RwJ na (Rk ta ca na ma0 kn d) z31 from (by rw [ez31]; exact hrj2)) (show K_mp_reckon_222 (RL_mp_reckon d) ta na ma ca p0 cf cf21 x222_4 v23 z31 from (fun y_f0 y_v k hE => k222_10 y_f0 y_v (k + 1) (Or.inr (Or.inl ⟨rfl, x222_4, x222_5, x222_6, rfl, rfl, rfl, rfl, rfl, Or.inr ⟨nc1, Or.inl ⟨nc4, Or.inl ⟨nc6, z8, ez8, cf10, v12, e19, cf21, v23, e30, z31, ez31, hE⟩⟩⟩⟩)))) (show hi - md3 < (n_222 : Int) from by omega) hw (lv_sub hl [2, 3, 4, 1, 0] rfl) | (exact ih222 cf21 md3 x222_4 v23 z31 _ _ ls (show KpE cf cf21 from hke) (show WrV cf21 (tf 6).toInt from hwr) (show (cf21 33).toInt = (cf 33).toInt from by first | exact oz_e13fc83238 k222_2 e26 e15 | omega) (show (cf21 38).toInt = (cf 38).toInt from by first | exact oz_e13fc83238 k222_3 e27 e16 | omega) (show (cf21 48).toInt = (cf 48).toInt from by first | exact oz_e13fc83238 k222_4 e28 e17 | omega) (show (cf21 47).toInt = (cf 47).toInt from by first | exact oz_e13fc83238 k222_5 e29 e18 | omega) (show lo ≤ md3 from by first | exact hm1_md3 | omega) (show md3 ≤ hi from by first | exact hm2_md3 | omega) (show RcM ta (tf 6).toInt na ma0 d p0 md3 hi z31 from (by rw [ez31]; exact hrm2)) (show RwJ na (Rk ta ca na ma0 kn d) z31 from (by rw [ez31]; exact hrj2)) (show K_mp_reckon_222 (RL_mp_reckon d) ta na ma ca p0 cf cf21 x222_4 v23 z31 from (fun y_f0 y_v k hE => k222_10 y_f0 y_v (k + 1) (Or.inr (Or.inl ⟨rfl, x222_4, x222_5, x222_6, rfl, rfl, rfl, rfl, rfl, Or.inr ⟨nc1, Or.inl ⟨nc4, Or.inl ⟨nc6, z8, ez8, cf10, v12, e19, cf21, v23, e30, z31, ez31, hE⟩⟩⟩⟩)))) (show hi - md3 < (n_222 : Int) from by omega) hw (lv_sub hl [2, 3, 4, 1, 0] rfl))
          · have nc6 : x222_4.toInt = (2 : Int) := (i_eq (x := x222_4) (y := 2)).mp c6
            refine lv_iload S.x S.b d_Mpg_reckon_263 (lv_at hl 3 rfl) ?_
            refine lv_if_eq (tgt := 281) S.x S.b d_Mpg_reckon_265 (by decide) (fun c32 => ?_) (fun c32 => ?_)
            · have nc32 : x222_5.toInt = (0 : Int) := (i_eq (x := x222_5) (y := 0)).mp c32
              refine lv_iconst (v := 0) S.x S.b d_Mpg_reckon_281 (by decide) ?_
              refine lv_istore (lv' := [(5, .int 0), (0, .ref h), (1, .int p0), (4, .int x222_4), (6, .int x222_6)]) S.x S.b d_Mpg_reckon_282 hl (by decide) rfl (fun ls hl => ?_)
              refine lv_goto (tgt := 308) S.x S.b d_Mpg_reckon_284 (by decide) ?_
              refine lv_aload_n S.x S.b d_Mpg_reckon_308 rfl (lv_at hl 1 rfl) ?_
              refine gP_21 S hT hw 0 rfl m10_7 d_Mpg_reckon_309 ?_
              refine lv_iload S.x S.b d_Mpg_reckon_312 (lv_at hl 4 rfl) ?_
              refine px_iald S hT hw 0 17 (n := 2100) (f := (na 21)) rfl gp_21 (x := x222_6) (vp_in_iff.mpr (by constructor <;> omega)) d_Mpg_reckon_314 ?_
              refine lv_topi (fun z34 ez34 => ?_)
              have lz34 := Int32.le_toInt z34
              have uz34 := Int32.toInt_lt z34
              refine lv_istore (lv' := [(6, .int z34), (5, .int 0), (0, .ref h), (1, .int p0), (4, .int x222_4)]) S.x S.b d_Mpg_reckon_315 hl (by decide) rfl (fun ls hl => ?_)
              refine lv_goto (tgt := 222) S.x S.b d_Mpg_reckon_317 (by decide) ?_
              first | exact ih222 cf_222 md3 x222_4 (0 : Int32) z34 _ _ ls (show KpE cf cf_222 from hke) (show WrV cf_222 (tf 6).toInt from hwr) (show (cf_222 33).toInt = (cf 33).toInt from k222_2) (show (cf_222 38).toInt = (cf 38).toInt from k222_3) (show (cf_222 48).toInt = (cf 48).toInt from k222_4) (show (cf_222 47).toInt = (cf 47).toInt from k222_5) (show lo ≤ md3 from hm1_md3) (show md3 ≤ hi from hm2_md3) (show RcM ta (tf 6).toInt na ma0 d p0 md3 hi z34 from (by rw [ez34]; exact hrm2)) (show RwJ na (Rk ta ca na ma0 kn d) z34 from (by rw [ez34]; exact hrj2)) (show K_mp_reckon_222 (RL_mp_reckon d) ta na ma ca p0 cf cf_222 x222_4 0 z34 from (fun y_f0 y_v k hE => k222_10 y_f0 y_v (k + 1) (Or.inr (Or.inl ⟨rfl, x222_4, x222_5, x222_6, rfl, rfl, rfl, rfl, rfl, Or.inr ⟨nc1, Or.inl ⟨nc4, Or.inr ⟨nc6, Or.inl ⟨nc32, z34, ez34, hE⟩⟩⟩⟩⟩)))) (show hi - md3 < (n_222 : Int) from by omega) hw (lv_sub hl [2, 3, 4, 1, 0] rfl) | (exact ih222 cf_222 md3 x222_4 (0 : Int32) z34 _ _ ls (show KpE cf cf_222 from hke) (show WrV cf_222 (tf 6).toInt from hwr) (show (cf_222 33).toInt = (cf 33).toInt from by first | exact k222_2 | omega) (show (cf_222 38).toInt = (cf 38).toInt from by first | exact k222_3 | omega) (show (cf_222 48).toInt = (cf 48).toInt from by first | exact k222_4 | omega) (show (cf_222 47).toInt = (cf 47).toInt from by first | exact k222_5 | omega) (show lo ≤ md3 from by first | exact hm1_md3 | omega) (show md3 ≤ hi from by first | exact hm2_md3 | omega) (show RcM ta (tf 6).toInt na ma0 d p0 md3 hi z34 from (by rw [ez34]; exact hrm2)) (show RwJ na (Rk ta ca na ma0 kn d) z34 from (by rw [ez34]; exact hrj2)) (show K_mp_reckon_222 (RL_mp_reckon d) ta na ma ca p0 cf cf_222 x222_4 0 z34 from (fun y_f0 y_v k hE => k222_10 y_f0 y_v (k + 1) (Or.inr (Or.inl ⟨rfl, x222_4, x222_5, x222_6, rfl, rfl, rfl, rfl, rfl, Or.inr ⟨nc1, Or.inl ⟨nc4, Or.inr ⟨nc6, Or.inl ⟨nc32, z34, ez34, hE⟩⟩⟩⟩⟩)))) (show hi - md3 < (n_222 : Int) from by omega) hw (lv_sub hl [2, 3, 4, 1, 0] rfl))
            · have nc32 : ¬ x222_5.toInt = (0 : Int) := mt (i_eq (x := x222_5) (y := 0)).mpr c32
              refine lv_aload_n S.x S.b d_Mpg_reckon_268 rfl (lv_at hl 0 rfl) ?_
              refine lv_iload S.x S.b d_Mpg_reckon_269 (lv_at hl 4 rfl) ?_
              first | refine px_calli (pr := []) (px_runV (As := [.int x222_6]) (rest := []) S (hLR ma0 ys ns nf kn mid_222 md3 h r g tf ta pf na ma wa ca ef ea xf xa cf_222 x222_6 (show 0 ≤ mid_222 from (oz_16d7fa9f32 k222_6 g0)) (show md3 ≤ (pf 13).toInt from (oz_bbb5b20c1a g1 hm2_md3)) (show (pf 13).toInt ≤ 2100 from g2) (show (tf 6).toInt ≤ 2049 from g3) (show (cf_222 33).toInt = kn from (oz_1687f4cc65 g4 k222_2)) (show 0 ≤ kn from g5) (show (cf_222 48).toInt = ns from (oz_1687f4cc65 g6 k222_4)) (show (cf_222 38).toInt = nf from (oz_1687f4cc65 g7 k222_3)) (show 0 ≤ nf from g8) htk (FsI.le (N' := (pf 13).toInt) hfs (by omega)) hwr (KnT.eq hkt (by omega)) (FnT.eq hft (by omega)) han hec_x222_6 hrk_x222_6 _) hT (pr := []) (pcs := [wdP cs h r g tf ta pf na ma wa cf_222 ca ef ea xf xa]) hw (oX_call (P := (fun A U H => (oP A g U H))) (pr := []) oG_P hw hA hP) (px_recv hT hw 0 0 rfl rfl rfl) m13_13 m13_10 m13_12 ms_13_0 m1_21 q_Mpg_reckon ⟨show (2 * d + 6) + 1 ≤ (2 * (d + 1) + 6) from (oz_dd267ac715), show 8 + (7 + 11) + (100 * d + 240) ≤ (100 * (d + 1) + 240) from (oz_c0ec3b0787)⟩ hl.1 rfl (Nat.le_of_ble_eq_true rfl) d_Mpg_reckon_271 ⟨Nat.le_of_ble_eq_true rfl, Nat.le_of_ble_eq_true rfl⟩) hw hA (fun v38 p37 H locs hp37 hw => ?_) | (refine px_calli (pr := []) (px_runV (As := [.int x222_6]) (rest := []) S (hLR ma0 ys ns nf kn mid_222 md3 h r g tf ta pf na ma wa ca ef ea xf xa cf_222 x222_6 (show 0 ≤ mid_222 from by first | exact oz_16d7fa9f32 k222_6 g0 | omega) (show md3 ≤ (pf 13).toInt from by first | exact oz_bbb5b20c1a g1 hm2_md3 | omega) (show (pf 13).toInt ≤ 2100 from by first | exact g2 | omega) (show (tf 6).toInt ≤ 2049 from by first | exact g3 | omega) (show (cf_222 33).toInt = kn from by first | exact oz_1687f4cc65 g4 k222_2 | omega) (show 0 ≤ kn from by first | exact g5 | omega) (show (cf_222 48).toInt = ns from by first | exact oz_1687f4cc65 g6 k222_4 | omega) (show (cf_222 38).toInt = nf from by first | exact oz_1687f4cc65 g7 k222_3 | omega) (show 0 ≤ nf from by first | exact g8 | omega) htk (FsI.le (N' := (pf 13).toInt) hfs (by omega)) hwr (KnT.eq hkt (by omega)) (FnT.eq hft (by omega)) han hec_x222_6 hrk_x222_6 _) hT (pr := []) (pcs := [wdP cs h r g tf ta pf na ma wa cf_222 ca ef ea xf xa]) hw (oX_call (P := (fun A U H => (oP A g U H))) (pr := []) oG_P hw hA hP) (px_recv hT hw 0 0 rfl rfl rfl) m13_13 m13_10 m13_12 ms_13_0 m1_21 q_Mpg_reckon ⟨show (2 * d + 6) + 1 ≤ (2 * (d + 1) + 6) from (by first | exact oz_dd267ac715 | omega), show 8 + (7 + 11) + (100 * d + 240) ≤ (100 * (d + 1) + 240) from (by first | exact oz_c0ec3b0787 | omega)⟩ hl.1 rfl (Nat.le_of_ble_eq_true rfl) d_Mpg_reckon_271 ⟨Nat.le_of_ble_eq_true rfl, Nat.le_of_ble_eq_true rfl⟩) hw hA (fun v38 p37 H locs hp37 hw => ?_))
              obtain ⟨cf36, rfl, e39, e40, e41, e42, e43, e44, e45⟩ := hp37
              have e39 : KpE cf_222 cf36 := e39
              have hke := (hke).tr e39
              have hkz_e39 := e39.2
              have e40 : WrV cf36 (tf 6).toInt := e40
              have hwr := e40
              have hw0_e40 := hwr.1
              have e41 : (cf36 33).toInt = (cf_222 33).toInt := e41
              have e42 : (cf36 38).toInt = (cf_222 38).toInt := e42
              have e43 : (cf36 48).toInt = (cf_222 48).toInt := e43
              have e44 : (cf36 47).toInt = (cf_222 47).toInt := e44
              have e45 : RL_mp_reckon d ta na ma ca x222_6 cf_222 cf36 v38 := e45
              have lv38 := Int32.le_toInt v38
              have uv38 := Int32.toInt_lt v38
              refine lv_if_eq (tgt := 281) S.x S.b d_Mpg_reckon_274 (by decide) (fun c46 => ?_) (fun c46 => ?_)
              · have nc46 : v38.toInt = (0 : Int) := (i_eq (x := v38) (y := 0)).mp c46
                refine lv_iconst (v := 0) S.x S.b d_Mpg_reckon_281 (by decide) ?_
                refine lv_istore (lv' := [(5, .int 0), (0, .ref h), (1, .int p0), (4, .int x222_4), (6, .int x222_6)]) S.x S.b d_Mpg_reckon_282 hl (by decide) rfl (fun ls hl => ?_)
                refine lv_goto (tgt := 308) S.x S.b d_Mpg_reckon_284 (by decide) ?_
                refine lv_aload_n S.x S.b d_Mpg_reckon_308 rfl (lv_at hl 1 rfl) ?_
                refine gP_21 S hT hw 0 rfl m10_7 d_Mpg_reckon_309 ?_
                refine lv_iload S.x S.b d_Mpg_reckon_312 (lv_at hl 4 rfl) ?_
                refine px_iald S hT hw 0 17 (n := 2100) (f := (na 21)) rfl gp_21 (x := x222_6) (vp_in_iff.mpr (by constructor <;> omega)) d_Mpg_reckon_314 ?_
                refine lv_topi (fun z48 ez48 => ?_)
                have lz48 := Int32.le_toInt z48
                have uz48 := Int32.toInt_lt z48
                refine lv_istore (lv' := [(6, .int z48), (5, .int 0), (0, .ref h), (1, .int p0), (4, .int x222_4)]) S.x S.b d_Mpg_reckon_315 hl (by decide) rfl (fun ls hl => ?_)
                refine lv_goto (tgt := 222) S.x S.b d_Mpg_reckon_317 (by decide) ?_
                first | exact ih222 cf36 md3 x222_4 (0 : Int32) z48 _ _ ls (show KpE cf cf36 from hke) (show WrV cf36 (tf 6).toInt from hwr) (show (cf36 33).toInt = (cf 33).toInt from (oz_1687f4cc65 k222_2 e41)) (show (cf36 38).toInt = (cf 38).toInt from (oz_1687f4cc65 k222_3 e42)) (show (cf36 48).toInt = (cf 48).toInt from (oz_1687f4cc65 k222_4 e43)) (show (cf36 47).toInt = (cf 47).toInt from (oz_1687f4cc65 k222_5 e44)) (show lo ≤ md3 from hm1_md3) (show md3 ≤ hi from hm2_md3) (show RcM ta (tf 6).toInt na ma0 d p0 md3 hi z48 from (by rw [ez48]; exact hrm2)) (show RwJ na (Rk ta ca na ma0 kn d) z48 from (by rw [ez48]; exact hrj2)) (show K_mp_reckon_222 (RL_mp_reckon d) ta na ma ca p0 cf cf36 x222_4 0 z48 from (fun y_f0 y_v k hE => k222_10 y_f0 y_v (k + 1) (Or.inr (Or.inl ⟨rfl, x222_4, x222_5, x222_6, rfl, rfl, rfl, rfl, rfl, Or.inr ⟨nc1, Or.inl ⟨nc4, Or.inr ⟨nc6, Or.inr ⟨nc32, cf36, v38, e45, Or.inl ⟨nc46, z48, ez48, hE⟩⟩⟩⟩⟩⟩)))) (show hi - md3 < (n_222 : Int) from by omega) hw (lv_sub hl [2, 3, 4, 1, 0] rfl) | (exact ih222 cf36 md3 x222_4 (0 : Int32) z48 _ _ ls (show KpE cf cf36 from hke) (show WrV cf36 (tf 6).toInt from hwr) (show (cf36 33).toInt = (cf 33).toInt from by first | exact oz_1687f4cc65 k222_2 e41 | omega) (show (cf36 38).toInt = (cf 38).toInt from by first | exact oz_1687f4cc65 k222_3 e42 | omega) (show (cf36 48).toInt = (cf 48).toInt from by first | exact oz_1687f4cc65 k222_4 e43 | omega) (show (cf36 47).toInt = (cf 47).toInt from by first | exact oz_1687f4cc65 k222_5 e44 | omega) (show lo ≤ md3 from by first | exact hm1_md3 | omega) (show md3 ≤ hi from by first | exact hm2_md3 | omega) (show RcM ta (tf 6).toInt na ma0 d p0 md3 hi z48 from (by rw [ez48]; exact hrm2)) (show RwJ na (Rk ta ca na ma0 kn d) z48 from (by rw [ez48]; exact hrj2)) (show K_mp_reckon_222 (RL_mp_reckon d) ta na ma ca p0 cf cf36 x222_4 0 z48 from (fun y_f0 y_v k hE => k222_10 y_f0 y_v (k + 1) (Or.inr (Or.inl ⟨rfl, x222_4, x222_5, x222_6, rfl, rfl, rfl, rfl, rfl, Or.inr ⟨nc1, Or.inl ⟨nc4, Or.inr ⟨nc6, Or.inr ⟨nc32, cf36, v38, e45, Or.inl ⟨nc46, z48, ez48, hE⟩⟩⟩⟩⟩⟩)))) (show hi - md3 < (n_222 : Int) from by omega) hw (lv_sub hl [2, 3, 4, 1, 0] rfl))
              · have nc46 : ¬ v38.toInt = (0 : Int) := mt (i_eq (x := v38) (y := 0)).mpr c46
                refine lv_iconst (v := 1) S.x S.b d_Mpg_reckon_277 (by decide) ?_
                refine lv_goto (tgt := 282) S.x S.b d_Mpg_reckon_278 (by decide) ?_
                refine lv_istore (lv' := [(5, .int 1), (0, .ref h), (1, .int p0), (4, .int x222_4), (6, .int x222_6)]) S.x S.b d_Mpg_reckon_282 hl (by decide) rfl (fun ls hl => ?_)
                refine lv_goto (tgt := 308) S.x S.b d_Mpg_reckon_284 (by decide) ?_
                refine lv_aload_n S.x S.b d_Mpg_reckon_308 rfl (lv_at hl 1 rfl) ?_
                refine gP_21 S hT hw 0 rfl m10_7 d_Mpg_reckon_309 ?_
                refine lv_iload S.x S.b d_Mpg_reckon_312 (lv_at hl 4 rfl) ?_
                refine px_iald S hT hw 0 17 (n := 2100) (f := (na 21)) rfl gp_21 (x := x222_6) (vp_in_iff.mpr (by constructor <;> omega)) d_Mpg_reckon_314 ?_
                refine lv_topi (fun z49 ez49 => ?_)
                have lz49 := Int32.le_toInt z49
                have uz49 := Int32.toInt_lt z49
                refine lv_istore (lv' := [(6, .int z49), (5, .int 1), (0, .ref h), (1, .int p0), (4, .int x222_4)]) S.x S.b d_Mpg_reckon_315 hl (by decide) rfl (fun ls hl => ?_)
                refine lv_goto (tgt := 222) S.x S.b d_Mpg_reckon_317 (by decide) ?_
                first | exact ih222 cf36 md3 x222_4 (1 : Int32) z49 _ _ ls (show KpE cf cf36 from hke) (show WrV cf36 (tf 6).toInt from hwr) (show (cf36 33).toInt = (cf 33).toInt from (oz_1687f4cc65 k222_2 e41)) (show (cf36 38).toInt = (cf 38).toInt from (oz_1687f4cc65 k222_3 e42)) (show (cf36 48).toInt = (cf 48).toInt from (oz_1687f4cc65 k222_4 e43)) (show (cf36 47).toInt = (cf 47).toInt from (oz_1687f4cc65 k222_5 e44)) (show lo ≤ md3 from hm1_md3) (show md3 ≤ hi from hm2_md3) (show RcM ta (tf 6).toInt na ma0 d p0 md3 hi z49 from (by rw [ez49]; exact hrm2)) (show RwJ na (Rk ta ca na ma0 kn d) z49 from (by rw [ez49]; exact hrj2)) (show K_mp_reckon_222 (RL_mp_reckon d) ta na ma ca p0 cf cf36 x222_4 1 z49 from (fun y_f0 y_v k hE => k222_10 y_f0 y_v (k + 1) (Or.inr (Or.inl ⟨rfl, x222_4, x222_5, x222_6, rfl, rfl, rfl, rfl, rfl, Or.inr ⟨nc1, Or.inl ⟨nc4, Or.inr ⟨nc6, Or.inr ⟨nc32, cf36, v38, e45, Or.inr ⟨nc46, z49, ez49, hE⟩⟩⟩⟩⟩⟩)))) (show hi - md3 < (n_222 : Int) from by omega) hw (lv_sub hl [2, 3, 4, 1, 0] rfl) | (exact ih222 cf36 md3 x222_4 (1 : Int32) z49 _ _ ls (show KpE cf cf36 from hke) (show WrV cf36 (tf 6).toInt from hwr) (show (cf36 33).toInt = (cf 33).toInt from by first | exact oz_1687f4cc65 k222_2 e41 | omega) (show (cf36 38).toInt = (cf 38).toInt from by first | exact oz_1687f4cc65 k222_3 e42 | omega) (show (cf36 48).toInt = (cf 48).toInt from by first | exact oz_1687f4cc65 k222_4 e43 | omega) (show (cf36 47).toInt = (cf 47).toInt from by first | exact oz_1687f4cc65 k222_5 e44 | omega) (show lo ≤ md3 from by first | exact hm1_md3 | omega) (show md3 ≤ hi from by first | exact hm2_md3 | omega) (show RcM ta (tf 6).toInt na ma0 d p0 md3 hi z49 from (by rw [ez49]; exact hrm2)) (show RwJ na (Rk ta ca na ma0 kn d) z49 from (by rw [ez49]; exact hrj2)) (show K_mp_reckon_222 (RL_mp_reckon d) ta na ma ca p0 cf cf36 x222_4 1 z49 from (fun y_f0 y_v k hE => k222_10 y_f0 y_v (k + 1) (Or.inr (Or.inl ⟨rfl, x222_4, x222_5, x222_6, rfl, rfl, rfl, rfl, rfl, Or.inr ⟨nc1, Or.inl ⟨nc4, Or.inr ⟨nc6, Or.inr ⟨nc32, cf36, v38, e45, Or.inr ⟨nc46, z49, ez49, hE⟩⟩⟩⟩⟩⟩)))) (show hi - md3 < (n_222 : Int) from by omega) hw (lv_sub hl [2, 3, 4, 1, 0] rfl))
        · have nc4 : x222_4.toInt = (1 : Int) := (i_eq (x := x222_4) (y := 1)).mp c4
          refine lv_iload S.x S.b d_Mpg_reckon_233 (lv_at hl 3 rfl) ?_
          refine lv_if_ne (tgt := 247) S.x S.b d_Mpg_reckon_235 (by decide) (fun c50 => ?_) (fun c50 => ?_)
          · have nc50 : ¬ x222_5.toInt = (0 : Int) := mt (i_eq (x := x222_5) (y := 0)).mpr c50
            refine lv_iconst (v := 1) S.x S.b d_Mpg_reckon_247 (by decide) ?_
            refine lv_goto (tgt := 252) S.x S.b d_Mpg_reckon_248 (by decide) ?_
            refine lv_istore (lv' := [(5, .int 1), (0, .ref h), (1, .int p0), (4, .int x222_4), (6, .int x222_6)]) S.x S.b d_Mpg_reckon_252 hl (by decide) rfl (fun ls hl => ?_)
            refine lv_goto (tgt := 308) S.x S.b d_Mpg_reckon_254 (by decide) ?_
            refine lv_aload_n S.x S.b d_Mpg_reckon_308 rfl (lv_at hl 1 rfl) ?_
            refine gP_21 S hT hw 0 rfl m10_7 d_Mpg_reckon_309 ?_
            refine lv_iload S.x S.b d_Mpg_reckon_312 (lv_at hl 4 rfl) ?_
            refine px_iald S hT hw 0 17 (n := 2100) (f := (na 21)) rfl gp_21 (x := x222_6) (vp_in_iff.mpr (by constructor <;> omega)) d_Mpg_reckon_314 ?_
            refine lv_topi (fun z52 ez52 => ?_)
            have lz52 := Int32.le_toInt z52
            have uz52 := Int32.toInt_lt z52
            refine lv_istore (lv' := [(6, .int z52), (5, .int 1), (0, .ref h), (1, .int p0), (4, .int x222_4)]) S.x S.b d_Mpg_reckon_315 hl (by decide) rfl (fun ls hl => ?_)
            refine lv_goto (tgt := 222) S.x S.b d_Mpg_reckon_317 (by decide) ?_
            first | exact ih222 cf_222 md3 x222_4 (1 : Int32) z52 _ _ ls (show KpE cf cf_222 from hke) (show WrV cf_222 (tf 6).toInt from hwr) (show (cf_222 33).toInt = (cf 33).toInt from k222_2) (show (cf_222 38).toInt = (cf 38).toInt from k222_3) (show (cf_222 48).toInt = (cf 48).toInt from k222_4) (show (cf_222 47).toInt = (cf 47).toInt from k222_5) (show lo ≤ md3 from hm1_md3) (show md3 ≤ hi from hm2_md3) (show RcM ta (tf 6).toInt na ma0 d p0 md3 hi z52 from (by rw [ez52]; exact hrm2)) (show RwJ na (Rk ta ca na ma0 kn d) z52 from (by rw [ez52]; exact hrj2)) (show K_mp_reckon_222 (RL_mp_reckon d) ta na ma ca p0 cf cf_222 x222_4 1 z52 from (fun y_f0 y_v k hE => k222_10 y_f0 y_v (k + 1) (Or.inr (Or.inl ⟨rfl, x222_4, x222_5, x222_6, rfl, rfl, rfl, rfl, rfl, Or.inr ⟨nc1, Or.inr ⟨nc4, Or.inl ⟨nc50, z52, ez52, hE⟩⟩⟩⟩)))) (show hi - md3 < (n_222 : Int) from by omega) hw (lv_sub hl [2, 3, 4, 1, 0] rfl) | (exact ih222 cf_222 md3 x222_4 (1 : Int32) z52 _ _ ls (show KpE cf cf_222 from hke) (show WrV cf_222 (tf 6).toInt from hwr) (show (cf_222 33).toInt = (cf 33).toInt from by first | exact k222_2 | omega) (show (cf_222 38).toInt = (cf 38).toInt from by first | exact k222_3 | omega) (show (cf_222 48).toInt = (cf 48).toInt from by first | exact k222_4 | omega) (show (cf_222 47).toInt = (cf 47).toInt from by first | exact k222_5 | omega) (show lo ≤ md3 from by first | exact hm1_md3 | omega) (show md3 ≤ hi from by first | exact hm2_md3 | omega) (show RcM ta (tf 6).toInt na ma0 d p0 md3 hi z52 from (by rw [ez52]; exact hrm2)) (show RwJ na (Rk ta ca na ma0 kn d) z52 from (by rw [ez52]; exact hrj2)) (show K_mp_reckon_222 (RL_mp_reckon d) ta na ma ca p0 cf cf_222 x222_4 1 z52 from (fun y_f0 y_v k hE => k222_10 y_f0 y_v (k + 1) (Or.inr (Or.inl ⟨rfl, x222_4, x222_5, x222_6, rfl, rfl, rfl, rfl, rfl, Or.inr ⟨nc1, Or.inr ⟨nc4, Or.inl ⟨nc50, z52, ez52, hE⟩⟩⟩⟩)))) (show hi - md3 < (n_222 : Int) from by omega) hw (lv_sub hl [2, 3, 4, 1, 0] rfl))
          · have nc50 : x222_5.toInt = (0 : Int) := (i_eq (x := x222_5) (y := 0)).mp c50
            refine lv_aload_n S.x S.b d_Mpg_reckon_238 rfl (lv_at hl 0 rfl) ?_
            refine lv_iload S.x S.b d_Mpg_reckon_239 (lv_at hl 4 rfl) ?_
            first | refine px_calli (pr := []) (px_runV (As := [.int x222_6]) (rest := []) S (hLR ma0 ys ns nf kn mid_222 md3 h r g tf ta pf na ma wa ca ef ea xf xa cf_222 x222_6 (show 0 ≤ mid_222 from (oz_16d7fa9f32 k222_6 g0)) (show md3 ≤ (pf 13).toInt from (oz_bbb5b20c1a g1 hm2_md3)) (show (pf 13).toInt ≤ 2100 from g2) (show (tf 6).toInt ≤ 2049 from g3) (show (cf_222 33).toInt = kn from (oz_1687f4cc65 g4 k222_2)) (show 0 ≤ kn from g5) (show (cf_222 48).toInt = ns from (oz_1687f4cc65 g6 k222_4)) (show (cf_222 38).toInt = nf from (oz_1687f4cc65 g7 k222_3)) (show 0 ≤ nf from g8) htk (FsI.le (N' := (pf 13).toInt) hfs (by omega)) hwr (KnT.eq hkt (by omega)) (FnT.eq hft (by omega)) han hec_x222_6 hrk_x222_6 _) hT (pr := []) (pcs := [wdP cs h r g tf ta pf na ma wa cf_222 ca ef ea xf xa]) hw (oX_call (P := (fun A U H => (oP A g U H))) (pr := []) oG_P hw hA hP) (px_recv hT hw 0 0 rfl rfl rfl) m13_13 m13_10 m13_12 ms_13_0 m1_21 q_Mpg_reckon ⟨show (2 * d + 6) + 1 ≤ (2 * (d + 1) + 6) from (oz_dd267ac715), show 8 + (7 + 11) + (100 * d + 240) ≤ (100 * (d + 1) + 240) from (oz_c0ec3b0787)⟩ hl.1 rfl (Nat.le_of_ble_eq_true rfl) d_Mpg_reckon_241 ⟨Nat.le_of_ble_eq_true rfl, Nat.le_of_ble_eq_true rfl⟩) hw hA (fun v56 p55 H locs hp55 hw => ?_) | (refine px_calli (pr := []) (px_runV (As := [.int x222_6]) (rest := []) S (hLR ma0 ys ns nf kn mid_222 md3 h r g tf ta pf na ma wa ca ef ea xf xa cf_222 x222_6 (show 0 ≤ mid_222 from by first | exact oz_16d7fa9f32 k222_6 g0 | omega) (show md3 ≤ (pf 13).toInt from by first | exact oz_bbb5b20c1a g1 hm2_md3 | omega) (show (pf 13).toInt ≤ 2100 from by first | exact g2 | omega) (show (tf 6).toInt ≤ 2049 from by first | exact g3 | omega) (show (cf_222 33).toInt = kn from by first | exact oz_1687f4cc65 g4 k222_2 | omega) (show 0 ≤ kn from by first | exact g5 | omega) (show (cf_222 48).toInt = ns from by first | exact oz_1687f4cc65 g6 k222_4 | omega) (show (cf_222 38).toInt = nf from by first | exact oz_1687f4cc65 g7 k222_3 | omega) (show 0 ≤ nf from by first | exact g8 | omega) htk (FsI.le (N' := (pf 13).toInt) hfs (by omega)) hwr (KnT.eq hkt (by omega)) (FnT.eq hft (by omega)) han hec_x222_6 hrk_x222_6 _) hT (pr := []) (pcs := [wdP cs h r g tf ta pf na ma wa cf_222 ca ef ea xf xa]) hw (oX_call (P := (fun A U H => (oP A g U H))) (pr := []) oG_P hw hA hP) (px_recv hT hw 0 0 rfl rfl rfl) m13_13 m13_10 m13_12 ms_13_0 m1_21 q_Mpg_reckon ⟨show (2 * d + 6) + 1 ≤ (2 * (d + 1) + 6) from (by first | exact oz_dd267ac715 | omega), show 8 + (7 + 11) + (100 * d + 240) ≤ (100 * (d + 1) + 240) from (by first | exact oz_c0ec3b0787 | omega)⟩ hl.1 rfl (Nat.le_of_ble_eq_true rfl) d_Mpg_reckon_241 ⟨Nat.le_of_ble_eq_true rfl, Nat.le_of_ble_eq_true rfl⟩) hw hA (fun v56 p55 H locs hp55 hw => ?_))
            obtain ⟨cf54, rfl, e57, e58, e59, e60, e61, e62, e63⟩ := hp55
            have e57 : KpE cf_222 cf54 := e57
            have hke := (hke).tr e57
            have hkz_e57 := e57.2
            have e58 : WrV cf54 (tf 6).toInt := e58
            have hwr := e58
            have hw0_e58 := hwr.1
            have e59 : (cf54 33).toInt = (cf_222 33).toInt := e59
            have e60 : (cf54 38).toInt = (cf_222 38).toInt := e60
            have e61 : (cf54 48).toInt = (cf_222 48).toInt := e61
            have e62 : (cf54 47).toInt = (cf_222 47).toInt := e62
            have e63 : RL_mp_reckon d ta na ma ca x222_6 cf_222 cf54 v56 := e63
            have lv56 := Int32.le_toInt v56
            have uv56 := Int32.toInt_lt v56
            refine lv_if_eq (tgt := 251) S.x S.b d_Mpg_reckon_244 (by decide) (fun c64 => ?_) (fun c64 => ?_)
            · have nc64 : v56.toInt = (0 : Int) := (i_eq (x := v56) (y := 0)).mp c64
              refine lv_iconst (v := 0) S.x S.b d_Mpg_reckon_251 (by decide) ?_
              refine lv_istore (lv' := [(5, .int 0), (0, .ref h), (1, .int p0), (4, .int x222_4), (6, .int x222_6)]) S.x S.b d_Mpg_reckon_252 hl (by decide) rfl (fun ls hl => ?_)
              refine lv_goto (tgt := 308) S.x S.b d_Mpg_reckon_254 (by decide) ?_
              refine lv_aload_n S.x S.b d_Mpg_reckon_308 rfl (lv_at hl 1 rfl) ?_
              refine gP_21 S hT hw 0 rfl m10_7 d_Mpg_reckon_309 ?_
              refine lv_iload S.x S.b d_Mpg_reckon_312 (lv_at hl 4 rfl) ?_
              refine px_iald S hT hw 0 17 (n := 2100) (f := (na 21)) rfl gp_21 (x := x222_6) (vp_in_iff.mpr (by constructor <;> omega)) d_Mpg_reckon_314 ?_
              refine lv_topi (fun z66 ez66 => ?_)
              have lz66 := Int32.le_toInt z66
              have uz66 := Int32.toInt_lt z66
              refine lv_istore (lv' := [(6, .int z66), (5, .int 0), (0, .ref h), (1, .int p0), (4, .int x222_4)]) S.x S.b d_Mpg_reckon_315 hl (by decide) rfl (fun ls hl => ?_)
              refine lv_goto (tgt := 222) S.x S.b d_Mpg_reckon_317 (by decide) ?_
              first | exact ih222 cf54 md3 x222_4 (0 : Int32) z66 _ _ ls (show KpE cf cf54 from hke) (show WrV cf54 (tf 6).toInt from hwr) (show (cf54 33).toInt = (cf 33).toInt from (oz_1687f4cc65 k222_2 e59)) (show (cf54 38).toInt = (cf 38).toInt from (oz_1687f4cc65 k222_3 e60)) (show (cf54 48).toInt = (cf 48).toInt from (oz_1687f4cc65 k222_4 e61)) (show (cf54 47).toInt = (cf 47).toInt from (oz_1687f4cc65 k222_5 e62)) (show lo ≤ md3 from hm1_md3) (show md3 ≤ hi from hm2_md3) (show RcM ta (tf 6).toInt na ma0 d p0 md3 hi z66 from (by rw [ez66]; exact hrm2)) (show RwJ na (Rk ta ca na ma0 kn d) z66 from (by rw [ez66]; exact hrj2)) (show K_mp_reckon_222 (RL_mp_reckon d) ta na ma ca p0 cf cf54 x222_4 0 z66 from (fun y_f0 y_v k hE => k222_10 y_f0 y_v (k + 1) (Or.inr (Or.inl ⟨rfl, x222_4, x222_5, x222_6, rfl, rfl, rfl, rfl, rfl, Or.inr ⟨nc1, Or.inr ⟨nc4, Or.inr ⟨nc50, cf54, v56, e63, Or.inl ⟨nc64, z66, ez66, hE⟩⟩⟩⟩⟩)))) (show hi - md3 < (n_222 : Int) from by omega) hw (lv_sub hl [2, 3, 4, 1, 0] rfl) | (exact ih222 cf54 md3 x222_4 (0 : Int32) z66 _ _ ls (show KpE cf cf54 from hke) (show WrV cf54 (tf 6).toInt from hwr) (show (cf54 33).toInt = (cf 33).toInt from by first | exact oz_1687f4cc65 k222_2 e59 | omega) (show (cf54 38).toInt = (cf 38).toInt from by first | exact oz_1687f4cc65 k222_3 e60 | omega) (show (cf54 48).toInt = (cf 48).toInt from by first | exact oz_1687f4cc65 k222_4 e61 | omega) (show (cf54 47).toInt = (cf 47).toInt from by first | exact oz_1687f4cc65 k222_5 e62 | omega) (show lo ≤ md3 from by first | exact hm1_md3 | omega) (show md3 ≤ hi from by first | exact hm2_md3 | omega) (show RcM ta (tf 6).toInt na ma0 d p0 md3 hi z66 from (by rw [ez66]; exact hrm2)) (show RwJ na (Rk ta ca na ma0 kn d) z66 from (by rw [ez66]; exact hrj2)) (show K_mp_reckon_222 (RL_mp_reckon d) ta na ma ca p0 cf cf54 x222_4 0 z66 from (fun y_f0 y_v k hE => k222_10 y_f0 y_v (k + 1) (Or.inr (Or.inl ⟨rfl, x222_4, x222_5, x222_6, rfl, rfl, rfl, rfl, rfl, Or.inr ⟨nc1, Or.inr ⟨nc4, Or.inr ⟨nc50, cf54, v56, e63, Or.inl ⟨nc64, z66, ez66, hE⟩⟩⟩⟩⟩)))) (show hi - md3 < (n_222 : Int) from by omega) hw (lv_sub hl [2, 3, 4, 1, 0] rfl))
            · have nc64 : ¬ v56.toInt = (0 : Int) := mt (i_eq (x := v56) (y := 0)).mpr c64
              refine lv_iconst (v := 1) S.x S.b d_Mpg_reckon_247 (by decide) ?_
              refine lv_goto (tgt := 252) S.x S.b d_Mpg_reckon_248 (by decide) ?_
              refine lv_istore (lv' := [(5, .int 1), (0, .ref h), (1, .int p0), (4, .int x222_4), (6, .int x222_6)]) S.x S.b d_Mpg_reckon_252 hl (by decide) rfl (fun ls hl => ?_)
              refine lv_goto (tgt := 308) S.x S.b d_Mpg_reckon_254 (by decide) ?_
              refine lv_aload_n S.x S.b d_Mpg_reckon_308 rfl (lv_at hl 1 rfl) ?_
              refine gP_21 S hT hw 0 rfl m10_7 d_Mpg_reckon_309 ?_
              refine lv_iload S.x S.b d_Mpg_reckon_312 (lv_at hl 4 rfl) ?_
              refine px_iald S hT hw 0 17 (n := 2100) (f := (na 21)) rfl gp_21 (x := x222_6) (vp_in_iff.mpr (by constructor <;> omega)) d_Mpg_reckon_314 ?_
              refine lv_topi (fun z67 ez67 => ?_)
              have lz67 := Int32.le_toInt z67
              have uz67 := Int32.toInt_lt z67
              refine lv_istore (lv' := [(6, .int z67), (5, .int 1), (0, .ref h), (1, .int p0), (4, .int x222_4)]) S.x S.b d_Mpg_reckon_315 hl (by decide) rfl (fun ls hl => ?_)
              refine lv_goto (tgt := 222) S.x S.b d_Mpg_reckon_317 (by decide) ?_
              first | exact ih222 cf54 md3 x222_4 (1 : Int32) z67 _ _ ls (show KpE cf cf54 from hke) (show WrV cf54 (tf 6).toInt from hwr) (show (cf54 33).toInt = (cf 33).toInt from (oz_1687f4cc65 k222_2 e59)) (show (cf54 38).toInt = (cf 38).toInt from (oz_1687f4cc65 k222_3 e60)) (show (cf54 48).toInt = (cf 48).toInt from (oz_1687f4cc65 k222_4 e61)) (show (cf54 47).toInt = (cf 47).toInt from (oz_1687f4cc65 k222_5 e62)) (show lo ≤ md3 from hm1_md3) (show md3 ≤ hi from hm2_md3) (show RcM ta (tf 6).toInt na ma0 d p0 md3 hi z67 from (by rw [ez67]; exact hrm2)) (show RwJ na (Rk ta ca na ma0 kn d) z67 from (by rw [ez67]; exact hrj2)) (show K_mp_reckon_222 (RL_mp_reckon d) ta na ma ca p0 cf cf54 x222_4 1 z67 from (fun y_f0 y_v k hE => k222_10 y_f0 y_v (k + 1) (Or.inr (Or.inl ⟨rfl, x222_4, x222_5, x222_6, rfl, rfl, rfl, rfl, rfl, Or.inr ⟨nc1, Or.inr ⟨nc4, Or.inr ⟨nc50, cf54, v56, e63, Or.inr ⟨nc64, z67, ez67, hE⟩⟩⟩⟩⟩)))) (show hi - md3 < (n_222 : Int) from by omega) hw (lv_sub hl [2, 3, 4, 1, 0] rfl) | (exact ih222 cf54 md3 x222_4 (1 : Int32) z67 _ _ ls (show KpE cf cf54 from hke) (show WrV cf54 (tf 6).toInt from hwr) (show (cf54 33).toInt = (cf 33).toInt from by first | exact oz_1687f4cc65 k222_2 e59 | omega) (show (cf54 38).toInt = (cf 38).toInt from by first | exact oz_1687f4cc65 k222_3 e60 | omega) (show (cf54 48).toInt = (cf 48).toInt from by first | exact oz_1687f4cc65 k222_4 e61 | omega) (show (cf54 47).toInt = (cf 47).toInt from by first | exact oz_1687f4cc65 k222_5 e62 | omega) (show lo ≤ md3 from by first | exact hm1_md3 | omega) (show md3 ≤ hi from by first | exact hm2_md3 | omega) (show RcM ta (tf 6).toInt na ma0 d p0 md3 hi z67 from (by rw [ez67]; exact hrm2)) (show RwJ na (Rk ta ca na ma0 kn d) z67 from (by rw [ez67]; exact hrj2)) (show K_mp_reckon_222 (RL_mp_reckon d) ta na ma ca p0 cf cf54 x222_4 1 z67 from (fun y_f0 y_v k hE => k222_10 y_f0 y_v (k + 1) (Or.inr (Or.inl ⟨rfl, x222_4, x222_5, x222_6, rfl, rfl, rfl, rfl, rfl, Or.inr ⟨nc1, Or.inr ⟨nc4, Or.inr ⟨nc50, cf54, v56, e63, Or.inr ⟨nc64, z67, ez67, hE⟩⟩⟩⟩⟩)))) (show hi - md3 < (n_222 : Int) from by omega) hw (lv_sub hl [2, 3, 4, 1, 0] rfl))
  refine lv_aload_n S.x S.b d_Mpg_reckon_0 rfl (lv_at hl 0 rfl) ?_
  refine gP_14 S hT hw 0 rfl m9_238 d_Mpg_reckon_1 ?_
  refine lv_iload_n S.x S.b d_Mpg_reckon_4 rfl (lv_at hl 1 rfl) ?_
  refine px_bald S hT hw 0 10 (n := 2100) (f := (na 14)) rfl gp_14 (x := p0) (vp_in_iff.mpr (by first | exact oz_a7e05de1cd hrg.2.2 hrg.2.1 g1 g2 | (constructor <;> omega))) d_Mpg_reckon_5 ?_
  refine lv_topi (fun z68 ez68 => ?_)
  have lz68 := Int32.le_toInt z68
  have uz68 := Int32.toInt_lt z68
  have rz68 := EcV.kd hec_p0 ez68
  refine px_tabD S (dt := 189) [(52, [1]), (64, [2]), (189, [3, 4, 6, 7]), (81, [5]), (152, [8])] d_Mpg_reckon_6 (by decide +kernel) (by decide) (by decide +kernel) ?_ ?_
  · intro hdf_6
    refine lv_aload_n S.x S.b d_Mpg_reckon_189 rfl (lv_at hl 0 rfl) ?_
    refine gP_22 S hT hw 0 rfl m10_9 d_Mpg_reckon_190 ?_
    obtain ⟨hk7, hrw7⟩ := Rk.f7 hrk_p0 ⟨by omega, by omega, by omega, by omega⟩
    refine lv_iload_n S.x S.b d_Mpg_reckon_193 rfl (lv_at hl 1 rfl) ?_
    refine px_iald S hT hw 0 18 (n := 2100) (f := (ma 22)) rfl gp_22 (x := p0) (vp_in_iff.mpr (by first | exact oz_a7e05de1cd hrg.2.2 hrg.2.1 g1 g2 | (constructor <;> omega))) d_Mpg_reckon_194 ?_
    refine lv_topi (fun z70 ez70 => ?_)
    have lz70 := Int32.le_toInt z70
    have uz70 := Int32.toInt_lt z70
    refine lv_istore (lv' := [(4, .int z70), (0, .ref h), (1, .int p0)]) S.x S.b d_Mpg_reckon_195 hl (by decide) rfl (fun ls hl => ?_)
    refine lv_aload_n S.x S.b d_Mpg_reckon_197 rfl (lv_at hl 1 rfl) ?_
    refine lv_aload_n S.x S.b d_Mpg_reckon_198 rfl (lv_at hl 1 rfl) ?_
    refine gP_17 S hT hw 0 rfl m10_1 d_Mpg_reckon_199 ?_
    refine lv_iload_n S.x S.b d_Mpg_reckon_202 rfl (lv_at hl 2 rfl) ?_
    refine px_iald S hT hw 0 13 (n := 2100) (f := (na 17)) rfl gp_17 (x := p0) (vp_in_iff.mpr (by first | exact oz_a7e05de1cd hrg.2.2 hrg.2.1 g1 g2 | (constructor <;> omega))) d_Mpg_reckon_203 ?_
    refine lv_topi (fun z71 ez71 => ?_)
    have lz71 := Int32.le_toInt z71
    have uz71 := Int32.toInt_lt z71
    obtain ⟨mc, hmc1, hmc2, hec_z71, hnc_z71, hrm⟩ := EcV.k7m hec_p0 hk7 ez71; have hrg_z71 := EcV.rng hec_z71; have hrj : RwJ na (Rk ta ca na ma0 kn d) z71 := (by rw [ez71]; exact hrw7); obtain ⟨hrk_z71, hrj2⟩ := RwJ.go hrj (by omega) rfl
    first | refine px_calli (pr := []) (px_runV (As := [.int z71]) (rest := []) S (hLR ma0 ys ns nf kn lo mc h r g tf ta pf na ma wa ca ef ea xf xa cf z71 (show 0 ≤ lo from g0) (show mc ≤ (pf 13).toInt from (oz_8d1dd37214 g1 hmc2 hrg.2.1)) (show (pf 13).toInt ≤ 2100 from g2) (show (tf 6).toInt ≤ 2049 from g3) (show (cf 33).toInt = kn from g4) (show 0 ≤ kn from g5) (show (cf 48).toInt = ns from g6) (show (cf 38).toInt = nf from g7) (show 0 ≤ nf from g8) htk (FsI.le (N' := (pf 13).toInt) hfs (by omega)) hwr (KnT.eq hkt (by omega)) (FnT.eq hft (by omega)) han hec_z71 hrk_z71 _) hT (pr := []) (pcs := [wdP cs h r g tf ta pf na ma wa cf ca ef ea xf xa]) hw (oX_call (P := (fun A U H => (oP A g U H))) (pr := []) oG_P hw hA hP) (px_recv hT hw 0 0 rfl rfl rfl) m13_13 m13_10 m13_12 ms_13_0 m1_21 q_Mpg_reckon ⟨show (2 * d + 6) + 1 ≤ (2 * (d + 1) + 6) from (oz_dd267ac715), show 8 + (7 + 11) + (100 * d + 240) ≤ (100 * (d + 1) + 240) from (oz_c0ec3b0787)⟩ hl.1 rfl (Nat.le_of_ble_eq_true rfl) d_Mpg_reckon_204 ⟨Nat.le_of_ble_eq_true rfl, Nat.le_of_ble_eq_true rfl⟩) hw hA (fun v75 p74 H locs hp74 hw => ?_) | (refine px_calli (pr := []) (px_runV (As := [.int z71]) (rest := []) S (hLR ma0 ys ns nf kn lo mc h r g tf ta pf na ma wa ca ef ea xf xa cf z71 (show 0 ≤ lo from by first | exact g0 | omega) (show mc ≤ (pf 13).toInt from by first | exact oz_8d1dd37214 g1 hmc2 hrg.2.1 | omega) (show (pf 13).toInt ≤ 2100 from by first | exact g2 | omega) (show (tf 6).toInt ≤ 2049 from by first | exact g3 | omega) (show (cf 33).toInt = kn from by first | exact g4 | omega) (show 0 ≤ kn from by first | exact g5 | omega) (show (cf 48).toInt = ns from by first | exact g6 | omega) (show (cf 38).toInt = nf from by first | exact g7 | omega) (show 0 ≤ nf from by first | exact g8 | omega) htk (FsI.le (N' := (pf 13).toInt) hfs (by omega)) hwr (KnT.eq hkt (by omega)) (FnT.eq hft (by omega)) han hec_z71 hrk_z71 _) hT (pr := []) (pcs := [wdP cs h r g tf ta pf na ma wa cf ca ef ea xf xa]) hw (oX_call (P := (fun A U H => (oP A g U H))) (pr := []) oG_P hw hA hP) (px_recv hT hw 0 0 rfl rfl rfl) m13_13 m13_10 m13_12 ms_13_0 m1_21 q_Mpg_reckon ⟨show (2 * d + 6) + 1 ≤ (2 * (d + 1) + 6) from (by first | exact oz_dd267ac715 | omega), show 8 + (7 + 11) + (100 * d + 240) ≤ (100 * (d + 1) + 240) from (by first | exact oz_c0ec3b0787 | omega)⟩ hl.1 rfl (Nat.le_of_ble_eq_true rfl) d_Mpg_reckon_204 ⟨Nat.le_of_ble_eq_true rfl, Nat.le_of_ble_eq_true rfl⟩) hw hA (fun v75 p74 H locs hp74 hw => ?_))
    obtain ⟨cf73, rfl, e76, e77, e78, e79, e80, e81, e82⟩ := hp74
    have e76 : KpE cf cf73 := e76
    have hke := (hke).tr e76
    have hkz_e76 := e76.2
    have e77 : WrV cf73 (tf 6).toInt := e77
    have hwr := e77
    have hw0_e77 := hwr.1
    have e78 : (cf73 33).toInt = (cf 33).toInt := e78
    have e79 : (cf73 38).toInt = (cf 38).toInt := e79
    have e80 : (cf73 48).toInt = (cf 48).toInt := e80
    have e81 : (cf73 47).toInt = (cf 47).toInt := e81
    have e82 : RL_mp_reckon d ta na ma ca z71 cf cf73 v75 := e82
    have lv75 := Int32.le_toInt v75
    have uv75 := Int32.toInt_lt v75
    refine lv_istore (lv' := [(5, .int v75), (4, .int z70), (0, .ref h), (1, .int p0)]) S.x S.b d_Mpg_reckon_207 hl (by decide) rfl (fun ls hl => ?_)
    refine lv_aload_n S.x S.b d_Mpg_reckon_209 rfl (lv_at hl 2 rfl) ?_
    refine gP_21 S hT hw 0 rfl m10_7 d_Mpg_reckon_210 ?_
    refine lv_aload_n S.x S.b d_Mpg_reckon_213 rfl (lv_at hl 2 rfl) ?_
    refine gP_17 S hT hw 0 rfl m10_1 d_Mpg_reckon_214 ?_
    refine lv_iload_n S.x S.b d_Mpg_reckon_217 rfl (lv_at hl 3 rfl) ?_
    refine px_iald S hT hw 0 13 (n := 2100) (f := (na 17)) rfl gp_17 (x := p0) (vp_in_iff.mpr (by first | exact oz_a7e05de1cd hrg.2.2 hrg.2.1 g1 g2 | (constructor <;> omega))) d_Mpg_reckon_218 ?_
    refine lv_topi (fun z83 ez83 => ?_)
    have lz83 := Int32.le_toInt z83
    have uz83 := Int32.toInt_lt z83
    have hsz83 : z71 = z83 := ez71.trans ez83.symm; subst hsz83
    refine px_iald S hT hw 0 17 (n := 2100) (f := (na 21)) rfl gp_21 (x := z71) (vp_in_iff.mpr (by first | exact oz_e7688a0eb5 hrg_z71.2.2 hrg_z71.2.1 hmc2 g1 hrg.2.1 g2 | (constructor <;> omega))) d_Mpg_reckon_219 ?_
    refine lv_topi (fun z84 ez84 => ?_)
    have lz84 := Int32.le_toInt z84
    have uz84 := Int32.toInt_lt z84
    refine lv_istore (lv' := [(6, .int z84), (5, .int v75), (4, .int z70), (0, .ref h), (1, .int p0)]) S.x S.b d_Mpg_reckon_220 hl (by decide) rfl (fun ls hl => ?_)
    first | exact J222 ((hi - mc).toNat + 1) cf73 mc z70 v75 z84 _ _ ls (show KpE cf cf73 from hke) (show WrV cf73 (tf 6).toInt from hwr) (show (cf73 33).toInt = (cf 33).toInt from e78) (show (cf73 38).toInt = (cf 38).toInt from e79) (show (cf73 48).toInt = (cf 48).toInt from e80) (show (cf73 47).toInt = (cf 47).toInt from e81) (show lo ≤ mc from (oz_dec8fc8b31 hrg_z71.1 hrg_z71.2.1)) (show mc ≤ hi from hmc1) (show RcM ta (tf 6).toInt na ma0 d p0 mc hi z84 from (by rw [ez84]; exact hrm)) (show RwJ na (Rk ta ca na ma0 kn d) z84 from (by rw [ez84]; exact hrj2)) (show K_mp_reckon_222 (RL_mp_reckon d) ta na ma ca p0 cf cf73 z70 v75 z84 from (fun y_f0 y_v k hE => Exists.intro (k + 1) (Or.inl ⟨rfl, z68, ez68, Or.inl ⟨hdf_6, z70, ez70, z71, ez71, cf73, v75, e82, z71, ez83, z84, ez84, hE⟩⟩))) (show hi - mc < ((((hi - mc).toNat + 1 : Nat) : Int) : Int) from oz_natlt) hw (lv_sub hl [3, 4, 2, 1, 0] rfl) | (exact J222 ((hi - mc).toNat + 1) cf73 mc z70 v75 z84 _ _ ls (show KpE cf cf73 from hke) (show WrV cf73 (tf 6).toInt from hwr) (show (cf73 33).toInt = (cf 33).toInt from by first | exact e78 | omega) (show (cf73 38).toInt = (cf 38).toInt from by first | exact e79 | omega) (show (cf73 48).toInt = (cf 48).toInt from by first | exact e80 | omega) (show (cf73 47).toInt = (cf 47).toInt from by first | exact e81 | omega) (show lo ≤ mc from by first | exact oz_dec8fc8b31 hrg_z71.1 hrg_z71.2.1 | omega) (show mc ≤ hi from by first | exact hmc1 | omega) (show RcM ta (tf 6).toInt na ma0 d p0 mc hi z84 from (by rw [ez84]; exact hrm)) (show RwJ na (Rk ta ca na ma0 kn d) z84 from (by rw [ez84]; exact hrj2)) (show K_mp_reckon_222 (RL_mp_reckon d) ta na ma ca p0 cf cf73 z70 v75 z84 from (fun y_f0 y_v k hE => Exists.intro (k + 1) (Or.inl ⟨rfl, z68, ez68, Or.inl ⟨hdf_6, z70, ez70, z71, ez71, cf73, v75, e82, z71, ez83, z84, ez84, hE⟩⟩))) (show hi - mc < ((((hi - mc).toNat + 1 : Nat) : Int) : Int) from by first | exact oz_natlt | omega) hw (lv_sub hl [3, 4, 2, 1, 0] rfl))
  · refine List.forall_mem_cons.mpr ⟨fun c85 => ?_, List.forall_mem_cons.mpr ⟨fun c85 => ?_, List.forall_mem_cons.mpr ⟨fun c85 => ?_, List.forall_mem_cons.mpr ⟨fun c85 => ?_, List.forall_mem_cons.mpr ⟨fun c85 => ?_, fun _ h => absurd h List.not_mem_nil⟩⟩⟩⟩⟩
    · simp only [List.mem_cons, List.not_mem_nil, or_false] at c85
      refine lv_aload_n S.x S.b d_Mpg_reckon_52 rfl (lv_at hl 0 rfl) ?_
      refine gP_10 S hT hw 0 rfl m9_234 d_Mpg_reckon_53 ?_
      refine lv_aload_n S.x S.b d_Mpg_reckon_56 rfl (lv_at hl 0 rfl) ?_
      refine gP_15 S hT hw 0 rfl m9_239 d_Mpg_reckon_57 ?_
      refine lv_iload_n S.x S.b d_Mpg_reckon_60 rfl (lv_at hl 1 rfl) ?_
      refine px_iald S hT hw 0 11 (n := 2100) (f := (na 15)) rfl gp_15 (x := p0) (vp_in_iff.mpr (by first | exact oz_a7e05de1cd hrg.2.2 hrg.2.1 g1 g2 | (constructor <;> omega))) d_Mpg_reckon_61 ?_
      refine lv_topi (fun z86 ez86 => ?_)
      have lz86 := Int32.le_toInt z86
      have uz86 := Int32.toInt_lt z86
      have rz86 := EcV.tok hec_p0 ez86
      refine px_iald S hT hw 0 9 (n := 2060) (f := (ta 10)) rfl gp_10 (x := z86) (vp_in_iff.mpr (by first | exact oz_b607b04d7a rz86.1 rz86.2 g3 | (constructor <;> omega))) d_Mpg_reckon_62 ?_
      refine lv_topi (fun z87 ez87 => ?_)
      have lz87 := Int32.le_toInt z87
      have uz87 := Int32.toInt_lt z87
      exact px_iret (v := z87) S hr rfl hlk hAe hw (Nat.le_of_ble_eq_true rfl) (Nat.le_of_ble_eq_true rfl) (⟨cf, rfl, (show KpE cf cf from hke), (show WrV cf (tf 6).toInt from hwr), (show (cf 33).toInt = (cf 33).toInt from rfl), (show (cf 38).toInt = (cf 38).toInt from rfl), (show (cf 48).toInt = (cf 48).toInt from rfl), (show (cf 47).toInt = (cf 47).toInt from rfl), (show R_mp_reckon (RL_mp_reckon d) ta na ma ca p0 cf cf z87 from (Exists.intro 1 (Or.inl ⟨rfl, z68, ez68, Or.inr (Or.inl ⟨c85, z86, ez86, z87, ez87, rfl, rfl⟩)⟩)))⟩) d_Mpg_reckon_63
    · simp only [List.mem_cons, List.not_mem_nil, or_false] at c85
      refine lv_aload_n S.x S.b d_Mpg_reckon_64 rfl (lv_at hl 0 rfl) ?_
      refine gP_36 S hT hw 0 rfl m10_25 d_Mpg_reckon_65 ?_
      refine lv_aload_n S.x S.b d_Mpg_reckon_68 rfl (lv_at hl 0 rfl) ?_
      refine lv_aload_n S.x S.b d_Mpg_reckon_69 rfl (lv_at hl 0 rfl) ?_
      refine gP_15 S hT hw 0 rfl m9_239 d_Mpg_reckon_70 ?_
      refine lv_iload_n S.x S.b d_Mpg_reckon_73 rfl (lv_at hl 1 rfl) ?_
      refine px_iald S hT hw 0 11 (n := 2100) (f := (na 15)) rfl gp_15 (x := p0) (vp_in_iff.mpr (by first | exact oz_a7e05de1cd hrg.2.2 hrg.2.1 g1 g2 | (constructor <;> omega))) d_Mpg_reckon_74 ?_
      refine lv_topi (fun z88 ez88 => ?_)
      have lz88 := Int32.le_toInt z88
      have uz88 := Int32.toInt_lt z88
      have rz88 := EcV.tok hec_p0 ez88
      refine lv_iconst (v := 0) S.x S.b d_Mpg_reckon_75 (by decide) ?_
      first | refine px_calli (pr := []) (px_runV (As := [.int z88, .int 0]) (rest := [.ref (r 36)]) S (c_mp_find l D cs h r g tf ta pf na ma wa cf ca ef ea xf xa z88 0  (show 0 ≤ z88.toInt from rz88.1) (show z88.toInt < (tf 6).toInt from (oz_7fe81129bf rz88.2)) (show (tf 6).toInt ≤ 2049 from g3) (show 0 ≤ (0 : Int) from oz_5a341f00aa) (show 0 ≤ (cf 33).toInt from (oz_f3ebed1ad0 g4 g5)) htk (KnT.eq hkt (by omega)) _) hT (pr := []) (pcs := [wdP cs h r g tf ta pf na ma wa cf ca ef ea xf xa]) hw px_X.tt (px_recv hT hw 0 0 rfl rfl rfl) m12_181 m12_178 m12_180 ms_11_14 m1_21 q_Mpg_find ⟨show 1 + 1 ≤ (2 * (d + 1) + 6) from (oz_0b545c74c0), show 8 + (4 + 11) + 40 ≤ (100 * (d + 1) + 240) from (oz_5e7cc24f9b)⟩ hl.1 rfl (Nat.le_of_ble_eq_true rfl) d_Mpg_reckon_76 ⟨Nat.le_of_ble_eq_true rfl, Nat.le_of_ble_eq_true rfl⟩) hw hA (fun v90 p89 H locs hp89 hw => ?_) | (refine px_calli (pr := []) (px_runV (As := [.int z88, .int 0]) (rest := [.ref (r 36)]) S (c_mp_find l D cs h r g tf ta pf na ma wa cf ca ef ea xf xa z88 0  (show 0 ≤ z88.toInt from by first | exact rz88.1 | omega) (show z88.toInt < (tf 6).toInt from by first | exact oz_7fe81129bf rz88.2 | omega) (show (tf 6).toInt ≤ 2049 from by first | exact g3 | omega) (show 0 ≤ (0 : Int) from by first | exact oz_5a341f00aa | omega) (show 0 ≤ (cf 33).toInt from by first | exact oz_f3ebed1ad0 g4 g5 | omega) htk (KnT.eq hkt (by omega)) _) hT (pr := []) (pcs := [wdP cs h r g tf ta pf na ma wa cf ca ef ea xf xa]) hw px_X.tt (px_recv hT hw 0 0 rfl rfl rfl) m12_181 m12_178 m12_180 ms_11_14 m1_21 q_Mpg_find ⟨show 1 + 1 ≤ (2 * (d + 1) + 6) from (by first | exact oz_0b545c74c0 | omega), show 8 + (4 + 11) + 40 ≤ (100 * (d + 1) + 240) from (by first | exact oz_5e7cc24f9b | omega)⟩ hl.1 rfl (Nat.le_of_ble_eq_true rfl) d_Mpg_reckon_76 ⟨Nat.le_of_ble_eq_true rfl, Nat.le_of_ble_eq_true rfl⟩) hw hA (fun v90 p89 H locs hp89 hw => ?_))
      obtain ⟨rfl, e91, e92, e93, e94, e95⟩ := hp89
      have e91 : -1 ≤ v90.toInt := e91
      have e92 : v90.toInt < (cf 33).toInt := e92
      have e93 : 0 ≤ v90.toInt → (0 : Int) ≤ v90.toInt := e93
      have e94 : FndV ta ca (cf 33).toInt z88 (0 : Int) v90.toInt := e94
      have hfd := e94
      have e95 : R_mp_find ta cf ca z88 (0 : Int32) v90 := e95
      have lv90 := Int32.le_toInt v90
      have uv90 := Int32.toInt_lt v90
      have hps := Rk.f2 hrk_p0 (by omega) ez88 hfd (by omega)
      refine px_iald S hT hw 0 25 (n := 1100) (f := (ca 36)) rfl gp_36 (x := v90) (vp_in_iff.mpr (by constructor <;> omega)) d_Mpg_reckon_79 ?_
      refine lv_topi (fun z96 ez96 => ?_)
      have lz96 := Int32.le_toInt z96
      have uz96 := Int32.toInt_lt z96
      exact px_iret (v := z96) S hr rfl hlk hAe hw (Nat.le_of_ble_eq_true rfl) (Nat.le_of_ble_eq_true rfl) (⟨cf, rfl, (show KpE cf cf from hke), (show WrV cf (tf 6).toInt from hwr), (show (cf 33).toInt = (cf 33).toInt from rfl), (show (cf 38).toInt = (cf 38).toInt from rfl), (show (cf 48).toInt = (cf 48).toInt from rfl), (show (cf 47).toInt = (cf 47).toInt from rfl), (show R_mp_reckon (RL_mp_reckon d) ta na ma ca p0 cf cf z96 from (Exists.intro 1 (Or.inl ⟨rfl, z68, ez68, Or.inr (Or.inr (Or.inl ⟨c85, z88, ez88, v90, e95, z96, ez96, rfl, rfl⟩))⟩)))⟩) d_Mpg_reckon_80
    · simp only [List.mem_cons, List.not_mem_nil, or_false] at c85
      refine lv_aload_n S.x S.b d_Mpg_reckon_189 rfl (lv_at hl 0 rfl) ?_
      refine gP_22 S hT hw 0 rfl m10_9 d_Mpg_reckon_190 ?_
      obtain ⟨hk7, hrw7⟩ := Rk.f7 hrk_p0 ⟨by omega, by omega, by omega, by omega⟩
      refine lv_iload_n S.x S.b d_Mpg_reckon_193 rfl (lv_at hl 1 rfl) ?_
      refine px_iald S hT hw 0 18 (n := 2100) (f := (ma 22)) rfl gp_22 (x := p0) (vp_in_iff.mpr (by first | exact oz_a7e05de1cd hrg.2.2 hrg.2.1 g1 g2 | (constructor <;> omega))) d_Mpg_reckon_194 ?_
      refine lv_topi (fun z97 ez97 => ?_)
      have lz97 := Int32.le_toInt z97
      have uz97 := Int32.toInt_lt z97
      refine lv_istore (lv' := [(4, .int z97), (0, .ref h), (1, .int p0)]) S.x S.b d_Mpg_reckon_195 hl (by decide) rfl (fun ls hl => ?_)
      refine lv_aload_n S.x S.b d_Mpg_reckon_197 rfl (lv_at hl 1 rfl) ?_
      refine lv_aload_n S.x S.b d_Mpg_reckon_198 rfl (lv_at hl 1 rfl) ?_
      refine gP_17 S hT hw 0 rfl m10_1 d_Mpg_reckon_199 ?_
      refine lv_iload_n S.x S.b d_Mpg_reckon_202 rfl (lv_at hl 2 rfl) ?_
      refine px_iald S hT hw 0 13 (n := 2100) (f := (na 17)) rfl gp_17 (x := p0) (vp_in_iff.mpr (by first | exact oz_a7e05de1cd hrg.2.2 hrg.2.1 g1 g2 | (constructor <;> omega))) d_Mpg_reckon_203 ?_
      refine lv_topi (fun z98 ez98 => ?_)
      have lz98 := Int32.le_toInt z98
      have uz98 := Int32.toInt_lt z98
      obtain ⟨mc, hmc1, hmc2, hec_z98, hnc_z98, hrm⟩ := EcV.k7m hec_p0 hk7 ez98; have hrg_z98 := EcV.rng hec_z98; have hrj : RwJ na (Rk ta ca na ma0 kn d) z98 := (by rw [ez98]; exact hrw7); obtain ⟨hrk_z98, hrj2⟩ := RwJ.go hrj (by omega) rfl
      first | refine px_calli (pr := []) (px_runV (As := [.int z98]) (rest := []) S (hLR ma0 ys ns nf kn lo mc h r g tf ta pf na ma wa ca ef ea xf xa cf z98 (show 0 ≤ lo from g0) (show mc ≤ (pf 13).toInt from (oz_8d1dd37214 g1 hmc2 hrg.2.1)) (show (pf 13).toInt ≤ 2100 from g2) (show (tf 6).toInt ≤ 2049 from g3) (show (cf 33).toInt = kn from g4) (show 0 ≤ kn from g5) (show (cf 48).toInt = ns from g6) (show (cf 38).toInt = nf from g7) (show 0 ≤ nf from g8) htk (FsI.le (N' := (pf 13).toInt) hfs (by omega)) hwr (KnT.eq hkt (by omega)) (FnT.eq hft (by omega)) han hec_z98 hrk_z98 _) hT (pr := []) (pcs := [wdP cs h r g tf ta pf na ma wa cf ca ef ea xf xa]) hw (oX_call (P := (fun A U H => (oP A g U H))) (pr := []) oG_P hw hA hP) (px_recv hT hw 0 0 rfl rfl rfl) m13_13 m13_10 m13_12 ms_13_0 m1_21 q_Mpg_reckon ⟨show (2 * d + 6) + 1 ≤ (2 * (d + 1) + 6) from (oz_dd267ac715), show 8 + (7 + 11) + (100 * d + 240) ≤ (100 * (d + 1) + 240) from (oz_c0ec3b0787)⟩ hl.1 rfl (Nat.le_of_ble_eq_true rfl) d_Mpg_reckon_204 ⟨Nat.le_of_ble_eq_true rfl, Nat.le_of_ble_eq_true rfl⟩) hw hA (fun v102 p101 H locs hp101 hw => ?_) | (refine px_calli (pr := []) (px_runV (As := [.int z98]) (rest := []) S (hLR ma0 ys ns nf kn lo mc h r g tf ta pf na ma wa ca ef ea xf xa cf z98 (show 0 ≤ lo from by first | exact g0 | omega) (show mc ≤ (pf 13).toInt from by first | exact oz_8d1dd37214 g1 hmc2 hrg.2.1 | omega) (show (pf 13).toInt ≤ 2100 from by first | exact g2 | omega) (show (tf 6).toInt ≤ 2049 from by first | exact g3 | omega) (show (cf 33).toInt = kn from by first | exact g4 | omega) (show 0 ≤ kn from by first | exact g5 | omega) (show (cf 48).toInt = ns from by first | exact g6 | omega) (show (cf 38).toInt = nf from by first | exact g7 | omega) (show 0 ≤ nf from by first | exact g8 | omega) htk (FsI.le (N' := (pf 13).toInt) hfs (by omega)) hwr (KnT.eq hkt (by omega)) (FnT.eq hft (by omega)) han hec_z98 hrk_z98 _) hT (pr := []) (pcs := [wdP cs h r g tf ta pf na ma wa cf ca ef ea xf xa]) hw (oX_call (P := (fun A U H => (oP A g U H))) (pr := []) oG_P hw hA hP) (px_recv hT hw 0 0 rfl rfl rfl) m13_13 m13_10 m13_12 ms_13_0 m1_21 q_Mpg_reckon ⟨show (2 * d + 6) + 1 ≤ (2 * (d + 1) + 6) from (by first | exact oz_dd267ac715 | omega), show 8 + (7 + 11) + (100 * d + 240) ≤ (100 * (d + 1) + 240) from (by first | exact oz_c0ec3b0787 | omega)⟩ hl.1 rfl (Nat.le_of_ble_eq_true rfl) d_Mpg_reckon_204 ⟨Nat.le_of_ble_eq_true rfl, Nat.le_of_ble_eq_true rfl⟩) hw hA (fun v102 p101 H locs hp101 hw => ?_))
      obtain ⟨cf100, rfl, e103, e104, e105, e106, e107, e108, e109⟩ := hp101
      have e103 : KpE cf cf100 := e103
      have hke := (hke).tr e103
      have hkz_e103 := e103.2
      have e104 : WrV cf100 (tf 6).toInt := e104
      have hwr := e104
      have hw0_e104 := hwr.1
      have e105 : (cf100 33).toInt = (cf 33).toInt := e105
      have e106 : (cf100 38).toInt = (cf 38).toInt := e106
      have e107 : (cf100 48).toInt = (cf 48).toInt := e107
      have e108 : (cf100 47).toInt = (cf 47).toInt := e108
      have e109 : RL_mp_reckon d ta na ma ca z98 cf cf100 v102 := e109
      have lv102 := Int32.le_toInt v102
      have uv102 := Int32.toInt_lt v102
      refine lv_istore (lv' := [(5, .int v102), (4, .int z97), (0, .ref h), (1, .int p0)]) S.x S.b d_Mpg_reckon_207 hl (by decide) rfl (fun ls hl => ?_)
      refine lv_aload_n S.x S.b d_Mpg_reckon_209 rfl (lv_at hl 2 rfl) ?_
      refine gP_21 S hT hw 0 rfl m10_7 d_Mpg_reckon_210 ?_
      refine lv_aload_n S.x S.b d_Mpg_reckon_213 rfl (lv_at hl 2 rfl) ?_
      refine gP_17 S hT hw 0 rfl m10_1 d_Mpg_reckon_214 ?_
      refine lv_iload_n S.x S.b d_Mpg_reckon_217 rfl (lv_at hl 3 rfl) ?_
      refine px_iald S hT hw 0 13 (n := 2100) (f := (na 17)) rfl gp_17 (x := p0) (vp_in_iff.mpr (by first | exact oz_a7e05de1cd hrg.2.2 hrg.2.1 g1 g2 | (constructor <;> omega))) d_Mpg_reckon_218 ?_
      refine lv_topi (fun z110 ez110 => ?_)
      have lz110 := Int32.le_toInt z110
      have uz110 := Int32.toInt_lt z110
      have hsz110 : z98 = z110 := ez98.trans ez110.symm; subst hsz110
      refine px_iald S hT hw 0 17 (n := 2100) (f := (na 21)) rfl gp_21 (x := z98) (vp_in_iff.mpr (by first | exact oz_e7688a0eb5 hrg_z98.2.2 hrg_z98.2.1 hmc2 g1 hrg.2.1 g2 | (constructor <;> omega))) d_Mpg_reckon_219 ?_
      refine lv_topi (fun z111 ez111 => ?_)
      have lz111 := Int32.le_toInt z111
      have uz111 := Int32.toInt_lt z111
      refine lv_istore (lv' := [(6, .int z111), (5, .int v102), (4, .int z97), (0, .ref h), (1, .int p0)]) S.x S.b d_Mpg_reckon_220 hl (by decide) rfl (fun ls hl => ?_)
      first | exact J222 ((hi - mc).toNat + 1) cf100 mc z97 v102 z111 _ _ ls (show KpE cf cf100 from hke) (show WrV cf100 (tf 6).toInt from hwr) (show (cf100 33).toInt = (cf 33).toInt from e105) (show (cf100 38).toInt = (cf 38).toInt from e106) (show (cf100 48).toInt = (cf 48).toInt from e107) (show (cf100 47).toInt = (cf 47).toInt from e108) (show lo ≤ mc from (oz_dec8fc8b31 hrg_z98.1 hrg_z98.2.1)) (show mc ≤ hi from hmc1) (show RcM ta (tf 6).toInt na ma0 d p0 mc hi z111 from (by rw [ez111]; exact hrm)) (show RwJ na (Rk ta ca na ma0 kn d) z111 from (by rw [ez111]; exact hrj2)) (show K_mp_reckon_222 (RL_mp_reckon d) ta na ma ca p0 cf cf100 z97 v102 z111 from (fun y_f0 y_v k hE => Exists.intro (k + 1) (Or.inl ⟨rfl, z68, ez68, Or.inr (Or.inr (Or.inr (Or.inl ⟨c85, z97, ez97, z98, ez98, cf100, v102, e109, z98, ez110, z111, ez111, hE⟩)))⟩))) (show hi - mc < ((((hi - mc).toNat + 1 : Nat) : Int) : Int) from oz_natlt) hw (lv_sub hl [3, 4, 2, 1, 0] rfl) | (exact J222 ((hi - mc).toNat + 1) cf100 mc z97 v102 z111 _ _ ls (show KpE cf cf100 from hke) (show WrV cf100 (tf 6).toInt from hwr) (show (cf100 33).toInt = (cf 33).toInt from by first | exact e105 | omega) (show (cf100 38).toInt = (cf 38).toInt from by first | exact e106 | omega) (show (cf100 48).toInt = (cf 48).toInt from by first | exact e107 | omega) (show (cf100 47).toInt = (cf 47).toInt from by first | exact e108 | omega) (show lo ≤ mc from by first | exact oz_dec8fc8b31 hrg_z98.1 hrg_z98.2.1 | omega) (show mc ≤ hi from by first | exact hmc1 | omega) (show RcM ta (tf 6).toInt na ma0 d p0 mc hi z111 from (by rw [ez111]; exact hrm)) (show RwJ na (Rk ta ca na ma0 kn d) z111 from (by rw [ez111]; exact hrj2)) (show K_mp_reckon_222 (RL_mp_reckon d) ta na ma ca p0 cf cf100 z97 v102 z111 from (fun y_f0 y_v k hE => Exists.intro (k + 1) (Or.inl ⟨rfl, z68, ez68, Or.inr (Or.inr (Or.inr (Or.inl ⟨c85, z97, ez97, z98, ez98, cf100, v102, e109, z98, ez110, z111, ez111, hE⟩)))⟩))) (show hi - mc < ((((hi - mc).toNat + 1 : Nat) : Int) : Int) from by first | exact oz_natlt | omega) hw (lv_sub hl [3, 4, 2, 1, 0] rfl))
    · simp only [List.mem_cons, List.not_mem_nil, or_false] at c85
      refine lv_aload_n S.x S.b d_Mpg_reckon_81 rfl (lv_at hl 0 rfl) ?_
      refine lv_aload_n S.x S.b d_Mpg_reckon_82 rfl (lv_at hl 0 rfl) ?_
      refine gP_17 S hT hw 0 rfl m10_1 d_Mpg_reckon_83 ?_
      refine lv_iload_n S.x S.b d_Mpg_reckon_86 rfl (lv_at hl 1 rfl) ?_
      refine px_iald S hT hw 0 13 (n := 2100) (f := (na 17)) rfl gp_17 (x := p0) (vp_in_iff.mpr (by first | exact oz_a7e05de1cd hrg.2.2 hrg.2.1 g1 g2 | (constructor <;> omega))) d_Mpg_reckon_87 ?_
      refine lv_topi (fun z112 ez112 => ?_)
      have lz112 := Int32.le_toInt z112
      have uz112 := Int32.toInt_lt z112
      have hec_z112 := EcV.k56 hec_p0 (by omega) ez112; have hrg_z112 := EcV.rng hec_z112
      have hrk_z112 := Rk.f5 hrk_p0 (by omega) ez112
      first | refine px_calli (pr := []) (px_runV (As := [.int z112]) (rest := []) S (hLR ma0 ys ns nf kn lo p0.toInt h r g tf ta pf na ma wa ca ef ea xf xa cf z112 (show 0 ≤ lo from g0) (show p0.toInt ≤ (pf 13).toInt from (oz_6996e0781a g1 hrg.2.1)) (show (pf 13).toInt ≤ 2100 from g2) (show (tf 6).toInt ≤ 2049 from g3) (show (cf 33).toInt = kn from g4) (show 0 ≤ kn from g5) (show (cf 48).toInt = ns from g6) (show (cf 38).toInt = nf from g7) (show 0 ≤ nf from g8) htk (FsI.le (N' := (pf 13).toInt) hfs (by omega)) hwr (KnT.eq hkt (by omega)) (FnT.eq hft (by omega)) han hec_z112 hrk_z112 _) hT (pr := []) (pcs := [wdP cs h r g tf ta pf na ma wa cf ca ef ea xf xa]) hw (oX_call (P := (fun A U H => (oP A g U H))) (pr := []) oG_P hw hA hP) (px_recv hT hw 0 0 rfl rfl rfl) m13_13 m13_10 m13_12 ms_13_0 m1_21 q_Mpg_reckon ⟨show (2 * d + 6) + 1 ≤ (2 * (d + 1) + 6) from (oz_dd267ac715), show 8 + (7 + 11) + (100 * d + 240) ≤ (100 * (d + 1) + 240) from (oz_c0ec3b0787)⟩ hl.1 rfl (Nat.le_of_ble_eq_true rfl) d_Mpg_reckon_88 ⟨Nat.le_of_ble_eq_true rfl, Nat.le_of_ble_eq_true rfl⟩) hw hA (fun v116 p115 H locs hp115 hw => ?_) | (refine px_calli (pr := []) (px_runV (As := [.int z112]) (rest := []) S (hLR ma0 ys ns nf kn lo p0.toInt h r g tf ta pf na ma wa ca ef ea xf xa cf z112 (show 0 ≤ lo from by first | exact g0 | omega) (show p0.toInt ≤ (pf 13).toInt from by first | exact oz_6996e0781a g1 hrg.2.1 | omega) (show (pf 13).toInt ≤ 2100 from by first | exact g2 | omega) (show (tf 6).toInt ≤ 2049 from by first | exact g3 | omega) (show (cf 33).toInt = kn from by first | exact g4 | omega) (show 0 ≤ kn from by first | exact g5 | omega) (show (cf 48).toInt = ns from by first | exact g6 | omega) (show (cf 38).toInt = nf from by first | exact g7 | omega) (show 0 ≤ nf from by first | exact g8 | omega) htk (FsI.le (N' := (pf 13).toInt) hfs (by omega)) hwr (KnT.eq hkt (by omega)) (FnT.eq hft (by omega)) han hec_z112 hrk_z112 _) hT (pr := []) (pcs := [wdP cs h r g tf ta pf na ma wa cf ca ef ea xf xa]) hw (oX_call (P := (fun A U H => (oP A g U H))) (pr := []) oG_P hw hA hP) (px_recv hT hw 0 0 rfl rfl rfl) m13_13 m13_10 m13_12 ms_13_0 m1_21 q_Mpg_reckon ⟨show (2 * d + 6) + 1 ≤ (2 * (d + 1) + 6) from (by first | exact oz_dd267ac715 | omega), show 8 + (7 + 11) + (100 * d + 240) ≤ (100 * (d + 1) + 240) from (by first | exact oz_c0ec3b0787 | omega)⟩ hl.1 rfl (Nat.le_of_ble_eq_true rfl) d_Mpg_reckon_88 ⟨Nat.le_of_ble_eq_true rfl, Nat.le_of_ble_eq_true rfl⟩) hw hA (fun v116 p115 H locs hp115 hw => ?_))
      obtain ⟨cf114, rfl, e117, e118, e119, e120, e121, e122, e123⟩ := hp115
      have e117 : KpE cf cf114 := e117
      have hke := (hke).tr e117
      have hkz_e117 := e117.2
      have e118 : WrV cf114 (tf 6).toInt := e118
      have hwr := e118
      have hw0_e118 := hwr.1
      have e119 : (cf114 33).toInt = (cf 33).toInt := e119
      have e120 : (cf114 38).toInt = (cf 38).toInt := e120
      have e121 : (cf114 48).toInt = (cf 48).toInt := e121
      have e122 : (cf114 47).toInt = (cf 47).toInt := e122
      have e123 : RL_mp_reckon d ta na ma ca z112 cf cf114 v116 := e123
      have lv116 := Int32.le_toInt v116
      have uv116 := Int32.toInt_lt v116
      refine lv_istore_n (lv' := [(2, .int v116), (0, .ref h), (1, .int p0)]) S.x S.b d_Mpg_reckon_91 rfl hl (by decide) rfl (fun ls hl => ?_)
      refine lv_aload_n S.x S.b d_Mpg_reckon_92 rfl (lv_at hl 1 rfl) ?_
      refine gP_4 S hT hw 0 rfl m9_228 d_Mpg_reckon_93 ?_
      refine lv_aload_n S.x S.b d_Mpg_reckon_96 rfl (lv_at hl 1 rfl) ?_
      refine gP_7 S hT hw 0 rfl m9_231 d_Mpg_reckon_97 ?_
      refine lv_aload_n S.x S.b d_Mpg_reckon_100 rfl (lv_at hl 1 rfl) ?_
      refine gP_15 S hT hw 0 rfl m9_239 d_Mpg_reckon_101 ?_
      refine lv_iload_n S.x S.b d_Mpg_reckon_104 rfl (lv_at hl 2 rfl) ?_
      refine px_iald S hT hw 0 11 (n := 2100) (f := (na 15)) rfl gp_15 (x := p0) (vp_in_iff.mpr (by first | exact oz_a7e05de1cd hrg.2.2 hrg.2.1 g1 g2 | (constructor <;> omega))) d_Mpg_reckon_105 ?_
      refine lv_topi (fun z124 ez124 => ?_)
      have lz124 := Int32.le_toInt z124
      have uz124 := Int32.toInt_lt z124
      have rz124 := EcV.tok hec_p0 ez124
      refine px_iald S hT hw 0 6 (n := 2060) (f := (ta 7)) rfl gp_7 (x := z124) (vp_in_iff.mpr (by first | exact oz_b607b04d7a rz124.1 rz124.2 g3 | (constructor <;> omega))) d_Mpg_reckon_106 ?_
      refine lv_topi (fun z125 ez125 => ?_)
      have lz125 := Int32.le_toInt z125
      have uz125 := Int32.toInt_lt z125
      have rz125 : z125.toInt = bp ta z124 := by rw [ez125]; rfl
      have hz5 := tk_z5 htk (x := z124) (by omega) (by omega) (EcV.n5 hec_p0 (by omega) ez124); have hb5 := tk_b htk (x := z124) (by omega) (by omega)
      refine px_bald S hT hw 0 5 (n := 2048) (f := (ta 4)) rfl gp_4 (x := z125) (vp_in_iff.mpr (by first | exact oz_eacedfd6de rz125 hb5.1 hb5.2.2.1 hz5 hb5.2.2.2 | (constructor <;> omega))) d_Mpg_reckon_107 ?_
      refine lv_topi (fun z126 ez126 => ?_)
      have lz126 := Int32.le_toInt z126
      have uz126 := Int32.toInt_lt z126
      refine lv_istore_n (lv' := [(3, .int z126), (2, .int v116), (0, .ref h), (1, .int p0)]) S.x S.b d_Mpg_reckon_108 rfl hl (by decide) rfl (fun ls hl => ?_)
      refine lv_iload_n S.x S.b d_Mpg_reckon_109 rfl (lv_at hl 0 rfl) ?_
      refine lv_bipush (v := 45) S.x S.b d_Mpg_reckon_110 (by decide) ?_
      refine lv_icmp_ne (tgt := 120) S.x S.b d_Mpg_reckon_112 (by decide) (fun c127 => ?_) (fun c127 => ?_)
      · have nc127 : ¬ z126.toInt = (45 : Int) := mt (i_eq (x := z126) (y := 45)).mpr c127
        refine lv_iload_n S.x S.b d_Mpg_reckon_120 rfl (lv_at hl 0 rfl) ?_
        refine lv_bipush (v := 33) S.x S.b d_Mpg_reckon_121 (by decide) ?_
        refine lv_icmp_ne (tgt := 138) S.x S.b d_Mpg_reckon_123 (by decide) (fun c129 => ?_) (fun c129 => ?_)
        · have nc129 : ¬ z126.toInt = (33 : Int) := mt (i_eq (x := z126) (y := 33)).mpr c129
          refine lv_iload_n S.x S.b d_Mpg_reckon_138 rfl (lv_at hl 0 rfl) ?_
          refine lv_bipush (v := 126) S.x S.b d_Mpg_reckon_139 (by decide) ?_
          refine lv_icmp_ne (tgt := 150) S.x S.b d_Mpg_reckon_141 (by decide) (fun c131 => ?_) (fun c131 => ?_)
          · have nc131 : ¬ z126.toInt = (126 : Int) := mt (i_eq (x := z126) (y := 126)).mpr c131
            refine lv_iload_n S.x S.b d_Mpg_reckon_150 rfl (lv_at hl 1 rfl) ?_
            first | exact px_iret (v := v116) S hr rfl hlk hAe hw (Nat.le_of_ble_eq_true rfl) (Nat.le_of_ble_eq_true rfl) (⟨cf114, rfl, (show KpE cf cf114 from hke), (show WrV cf114 (tf 6).toInt from hwr), (show (cf114 33).toInt = (cf 33).toInt from e119), (show (cf114 38).toInt = (cf 38).toInt from e120), (show (cf114 48).toInt = (cf 48).toInt from e121), (show (cf114 47).toInt = (cf 47).toInt from e122), (show R_mp_reckon (RL_mp_reckon d) ta na ma ca p0 cf cf114 v116 from (Exists.intro 1 (Or.inl ⟨rfl, z68, ez68, Or.inr (Or.inr (Or.inr (Or.inr (Or.inl ⟨c85, z112, ez112, cf114, v116, e123, z124, ez124, z125, ez125, z126, ez126, Or.inl ⟨nc127, Or.inl ⟨nc129, Or.inl ⟨nc131, rfl, rfl⟩⟩⟩⟩))))⟩)))⟩) d_Mpg_reckon_151 | (exact px_iret (v := v116) S hr rfl hlk hAe hw (Nat.le_of_ble_eq_true rfl) (Nat.le_of_ble_eq_true rfl) (⟨cf114, rfl, (show KpE cf cf114 from hke), (show WrV cf114 (tf 6).toInt from hwr), (show (cf114 33).toInt = (cf 33).toInt from by first | exact e119 | omega), (show (cf114 38).toInt = (cf 38).toInt from by first | exact e120 | omega), (show (cf114 48).toInt = (cf 48).toInt from by first | exact e121 | omega), (show (cf114 47).toInt = (cf 47).toInt from by first | exact e122 | omega), (show R_mp_reckon (RL_mp_reckon d) ta na ma ca p0 cf cf114 v116 from (Exists.intro 1 (Or.inl ⟨rfl, z68, ez68, Or.inr (Or.inr (Or.inr (Or.inr (Or.inl ⟨c85, z112, ez112, cf114, v116, e123, z124, ez124, z125, ez125, z126, ez126, Or.inl ⟨nc127, Or.inl ⟨nc129, Or.inl ⟨nc131, rfl, rfl⟩⟩⟩⟩))))⟩)))⟩) d_Mpg_reckon_151)
          · have nc131 : z126.toInt = (126 : Int) := (i_eq (x := z126) (y := 126)).mp c131
            refine lv_iload_n S.x S.b d_Mpg_reckon_144 rfl (lv_at hl 1 rfl) ?_
            refine lv_iconst (v := (-1)) S.x S.b d_Mpg_reckon_145 (by decide) ?_
            refine lv_ixor S.x S.b d_Mpg_reckon_146 ?_
            refine lv_topi (fun z133 ez133 => ?_)
            have lz133 := Int32.le_toInt z133
            have uz133 := Int32.toInt_lt z133
            refine lv_goto (tgt := 151) S.x S.b d_Mpg_reckon_147 (by decide) ?_
            first | exact px_iret (v := z133) S hr rfl hlk hAe hw (Nat.le_of_ble_eq_true rfl) (Nat.le_of_ble_eq_true rfl) (⟨cf114, rfl, (show KpE cf cf114 from hke), (show WrV cf114 (tf 6).toInt from hwr), (show (cf114 33).toInt = (cf 33).toInt from e119), (show (cf114 38).toInt = (cf 38).toInt from e120), (show (cf114 48).toInt = (cf 48).toInt from e121), (show (cf114 47).toInt = (cf 47).toInt from e122), (show R_mp_reckon (RL_mp_reckon d) ta na ma ca p0 cf cf114 z133 from (Exists.intro 1 (Or.inl ⟨rfl, z68, ez68, Or.inr (Or.inr (Or.inr (Or.inr (Or.inl ⟨c85, z112, ez112, cf114, v116, e123, z124, ez124, z125, ez125, z126, ez126, Or.inl ⟨nc127, Or.inl ⟨nc129, Or.inr ⟨nc131, z133, ez133, rfl, rfl⟩⟩⟩⟩))))⟩)))⟩) d_Mpg_reckon_151 | (exact px_iret (v := z133) S hr rfl hlk hAe hw (Nat.le_of_ble_eq_true rfl) (Nat.le_of_ble_eq_true rfl) (⟨cf114, rfl, (show KpE cf cf114 from hke), (show WrV cf114 (tf 6).toInt from hwr), (show (cf114 33).toInt = (cf 33).toInt from by first | exact e119 | omega), (show (cf114 38).toInt = (cf 38).toInt from by first | exact e120 | omega), (show (cf114 48).toInt = (cf 48).toInt from by first | exact e121 | omega), (show (cf114 47).toInt = (cf 47).toInt from by first | exact e122 | omega), (show R_mp_reckon (RL_mp_reckon d) ta na ma ca p0 cf cf114 z133 from (Exists.intro 1 (Or.inl ⟨rfl, z68, ez68, Or.inr (Or.inr (Or.inr (Or.inr (Or.inl ⟨c85, z112, ez112, cf114, v116, e123, z124, ez124, z125, ez125, z126, ez126, Or.inl ⟨nc127, Or.inl ⟨nc129, Or.inr ⟨nc131, z133, ez133, rfl, rfl⟩⟩⟩⟩))))⟩)))⟩) d_Mpg_reckon_151)
        · have nc129 : z126.toInt = (33 : Int) := (i_eq (x := z126) (y := 33)).mp c129
          refine lv_iload_n S.x S.b d_Mpg_reckon_126 rfl (lv_at hl 1 rfl) ?_
          refine lv_if_ne (tgt := 134) S.x S.b d_Mpg_reckon_127 (by decide) (fun c134 => ?_) (fun c134 => ?_)
          · have nc134 : ¬ v116.toInt = (0 : Int) := mt (i_eq (x := v116) (y := 0)).mpr c134
            refine lv_iconst (v := 0) S.x S.b d_Mpg_reckon_134 (by decide) ?_
            refine lv_goto (tgt := 151) S.x S.b d_Mpg_reckon_135 (by decide) ?_
            first | exact px_iret (v := 0) S hr rfl hlk hAe hw (Nat.le_of_ble_eq_true rfl) (Nat.le_of_ble_eq_true rfl) (⟨cf114, rfl, (show KpE cf cf114 from hke), (show WrV cf114 (tf 6).toInt from hwr), (show (cf114 33).toInt = (cf 33).toInt from e119), (show (cf114 38).toInt = (cf 38).toInt from e120), (show (cf114 48).toInt = (cf 48).toInt from e121), (show (cf114 47).toInt = (cf 47).toInt from e122), (show R_mp_reckon (RL_mp_reckon d) ta na ma ca p0 cf cf114 (0 : Int32) from (Exists.intro 1 (Or.inl ⟨rfl, z68, ez68, Or.inr (Or.inr (Or.inr (Or.inr (Or.inl ⟨c85, z112, ez112, cf114, v116, e123, z124, ez124, z125, ez125, z126, ez126, Or.inl ⟨nc127, Or.inr ⟨nc129, Or.inl ⟨nc134, rfl, rfl⟩⟩⟩⟩))))⟩)))⟩) d_Mpg_reckon_151 | (exact px_iret (v := 0) S hr rfl hlk hAe hw (Nat.le_of_ble_eq_true rfl) (Nat.le_of_ble_eq_true rfl) (⟨cf114, rfl, (show KpE cf cf114 from hke), (show WrV cf114 (tf 6).toInt from hwr), (show (cf114 33).toInt = (cf 33).toInt from by first | exact e119 | omega), (show (cf114 38).toInt = (cf 38).toInt from by first | exact e120 | omega), (show (cf114 48).toInt = (cf 48).toInt from by first | exact e121 | omega), (show (cf114 47).toInt = (cf 47).toInt from by first | exact e122 | omega), (show R_mp_reckon (RL_mp_reckon d) ta na ma ca p0 cf cf114 (0 : Int32) from (Exists.intro 1 (Or.inl ⟨rfl, z68, ez68, Or.inr (Or.inr (Or.inr (Or.inr (Or.inl ⟨c85, z112, ez112, cf114, v116, e123, z124, ez124, z125, ez125, z126, ez126, Or.inl ⟨nc127, Or.inr ⟨nc129, Or.inl ⟨nc134, rfl, rfl⟩⟩⟩⟩))))⟩)))⟩) d_Mpg_reckon_151)
          · have nc134 : v116.toInt = (0 : Int) := (i_eq (x := v116) (y := 0)).mp c134
            refine lv_iconst (v := 1) S.x S.b d_Mpg_reckon_130 (by decide) ?_
            refine lv_goto (tgt := 151) S.x S.b d_Mpg_reckon_131 (by decide) ?_
            first | exact px_iret (v := 1) S hr rfl hlk hAe hw (Nat.le_of_ble_eq_true rfl) (Nat.le_of_ble_eq_true rfl) (⟨cf114, rfl, (show KpE cf cf114 from hke), (show WrV cf114 (tf 6).toInt from hwr), (show (cf114 33).toInt = (cf 33).toInt from e119), (show (cf114 38).toInt = (cf 38).toInt from e120), (show (cf114 48).toInt = (cf 48).toInt from e121), (show (cf114 47).toInt = (cf 47).toInt from e122), (show R_mp_reckon (RL_mp_reckon d) ta na ma ca p0 cf cf114 (1 : Int32) from (Exists.intro 1 (Or.inl ⟨rfl, z68, ez68, Or.inr (Or.inr (Or.inr (Or.inr (Or.inl ⟨c85, z112, ez112, cf114, v116, e123, z124, ez124, z125, ez125, z126, ez126, Or.inl ⟨nc127, Or.inr ⟨nc129, Or.inr ⟨nc134, rfl, rfl⟩⟩⟩⟩))))⟩)))⟩) d_Mpg_reckon_151 | (exact px_iret (v := 1) S hr rfl hlk hAe hw (Nat.le_of_ble_eq_true rfl) (Nat.le_of_ble_eq_true rfl) (⟨cf114, rfl, (show KpE cf cf114 from hke), (show WrV cf114 (tf 6).toInt from hwr), (show (cf114 33).toInt = (cf 33).toInt from by first | exact e119 | omega), (show (cf114 38).toInt = (cf 38).toInt from by first | exact e120 | omega), (show (cf114 48).toInt = (cf 48).toInt from by first | exact e121 | omega), (show (cf114 47).toInt = (cf 47).toInt from by first | exact e122 | omega), (show R_mp_reckon (RL_mp_reckon d) ta na ma ca p0 cf cf114 (1 : Int32) from (Exists.intro 1 (Or.inl ⟨rfl, z68, ez68, Or.inr (Or.inr (Or.inr (Or.inr (Or.inl ⟨c85, z112, ez112, cf114, v116, e123, z124, ez124, z125, ez125, z126, ez126, Or.inl ⟨nc127, Or.inr ⟨nc129, Or.inr ⟨nc134, rfl, rfl⟩⟩⟩⟩))))⟩)))⟩) d_Mpg_reckon_151)
      · have nc127 : z126.toInt = (45 : Int) := (i_eq (x := z126) (y := 45)).mp c127
        refine lv_iload_n S.x S.b d_Mpg_reckon_115 rfl (lv_at hl 1 rfl) ?_
        refine lv_ineg S.x S.b d_Mpg_reckon_116 ?_
        refine lv_topi (fun z136 ez136 => ?_)
        have lz136 := Int32.le_toInt z136
        have uz136 := Int32.toInt_lt z136
        refine lv_goto (tgt := 151) S.x S.b d_Mpg_reckon_117 (by decide) ?_
        first | exact px_iret (v := z136) S hr rfl hlk hAe hw (Nat.le_of_ble_eq_true rfl) (Nat.le_of_ble_eq_true rfl) (⟨cf114, rfl, (show KpE cf cf114 from hke), (show WrV cf114 (tf 6).toInt from hwr), (show (cf114 33).toInt = (cf 33).toInt from e119), (show (cf114 38).toInt = (cf 38).toInt from e120), (show (cf114 48).toInt = (cf 48).toInt from e121), (show (cf114 47).toInt = (cf 47).toInt from e122), (show R_mp_reckon (RL_mp_reckon d) ta na ma ca p0 cf cf114 z136 from (Exists.intro 1 (Or.inl ⟨rfl, z68, ez68, Or.inr (Or.inr (Or.inr (Or.inr (Or.inl ⟨c85, z112, ez112, cf114, v116, e123, z124, ez124, z125, ez125, z126, ez126, Or.inr ⟨nc127, z136, ez136, rfl, rfl⟩⟩))))⟩)))⟩) d_Mpg_reckon_151 | (exact px_iret (v := z136) S hr rfl hlk hAe hw (Nat.le_of_ble_eq_true rfl) (Nat.le_of_ble_eq_true rfl) (⟨cf114, rfl, (show KpE cf cf114 from hke), (show WrV cf114 (tf 6).toInt from hwr), (show (cf114 33).toInt = (cf 33).toInt from by first | exact e119 | omega), (show (cf114 38).toInt = (cf 38).toInt from by first | exact e120 | omega), (show (cf114 48).toInt = (cf 48).toInt from by first | exact e121 | omega), (show (cf114 47).toInt = (cf 47).toInt from by first | exact e122 | omega), (show R_mp_reckon (RL_mp_reckon d) ta na ma ca p0 cf cf114 z136 from (Exists.intro 1 (Or.inl ⟨rfl, z68, ez68, Or.inr (Or.inr (Or.inr (Or.inr (Or.inl ⟨c85, z112, ez112, cf114, v116, e123, z124, ez124, z125, ez125, z126, ez126, Or.inr ⟨nc127, z136, ez136, rfl, rfl⟩⟩))))⟩)))⟩) d_Mpg_reckon_151)
    · simp only [List.mem_cons, List.not_mem_nil, or_false] at c85
      refine lv_aload_n S.x S.b d_Mpg_reckon_152 rfl (lv_at hl 0 rfl) ?_
      refine lv_aload_n S.x S.b d_Mpg_reckon_153 rfl (lv_at hl 0 rfl) ?_
      refine gP_17 S hT hw 0 rfl m10_1 d_Mpg_reckon_154 ?_
      refine lv_iload_n S.x S.b d_Mpg_reckon_157 rfl (lv_at hl 1 rfl) ?_
      refine px_iald S hT hw 0 13 (n := 2100) (f := (na 17)) rfl gp_17 (x := p0) (vp_in_iff.mpr (by first | exact oz_a7e05de1cd hrg.2.2 hrg.2.1 g1 g2 | (constructor <;> omega))) d_Mpg_reckon_158 ?_
      refine lv_topi (fun z137 ez137 => ?_)
      have lz137 := Int32.le_toInt z137
      have uz137 := Int32.toInt_lt z137
      obtain ⟨m1, m2, hm1, hm2, hec_z137, hec_y8, hec_x8⟩ := EcV.k8 hec_p0 (by omega) ez137 rfl rfl; have hrg_z137 := EcV.rng hec_z137; have hrg_y8 := EcV.rng hec_y8; have hrg_x8 := EcV.rng hec_x8
      obtain ⟨hrk_z137, hrk_y8, hrk_x8⟩ := Rk.f8 hrk_p0 (by omega) ez137
      first | refine px_calli (pr := []) (px_runV (As := [.int z137]) (rest := []) S (hLR ma0 ys ns nf kn lo m1 h r g tf ta pf na ma wa ca ef ea xf xa cf z137 (show 0 ≤ lo from g0) (show m1 ≤ (pf 13).toInt from (oz_f3248735d7 g1 hrg_y8.1 hrg.2.1 hrg_y8.2.1 hrg_x8.1 hrg_x8.2.1)) (show (pf 13).toInt ≤ 2100 from g2) (show (tf 6).toInt ≤ 2049 from g3) (show (cf 33).toInt = kn from g4) (show 0 ≤ kn from g5) (show (cf 48).toInt = ns from g6) (show (cf 38).toInt = nf from g7) (show 0 ≤ nf from g8) htk (FsI.le (N' := (pf 13).toInt) hfs (by omega)) hwr (KnT.eq hkt (by omega)) (FnT.eq hft (by omega)) han hec_z137 hrk_z137 _) hT (pr := []) (pcs := [wdP cs h r g tf ta pf na ma wa cf ca ef ea xf xa]) hw (oX_call (P := (fun A U H => (oP A g U H))) (pr := []) oG_P hw hA hP) (px_recv hT hw 0 0 rfl rfl rfl) m13_13 m13_10 m13_12 ms_13_0 m1_21 q_Mpg_reckon ⟨show (2 * d + 6) + 1 ≤ (2 * (d + 1) + 6) from (oz_dd267ac715), show 8 + (7 + 11) + (100 * d + 240) ≤ (100 * (d + 1) + 240) from (oz_c0ec3b0787)⟩ hl.1 rfl (Nat.le_of_ble_eq_true rfl) d_Mpg_reckon_159 ⟨Nat.le_of_ble_eq_true rfl, Nat.le_of_ble_eq_true rfl⟩) hw hA (fun v141 p140 H locs hp140 hw => ?_) | (refine px_calli (pr := []) (px_runV (As := [.int z137]) (rest := []) S (hLR ma0 ys ns nf kn lo m1 h r g tf ta pf na ma wa ca ef ea xf xa cf z137 (show 0 ≤ lo from by first | exact g0 | omega) (show m1 ≤ (pf 13).toInt from by first | exact oz_f3248735d7 g1 hrg_y8.1 hrg.2.1 hrg_y8.2.1 hrg_x8.1 hrg_x8.2.1 | omega) (show (pf 13).toInt ≤ 2100 from by first | exact g2 | omega) (show (tf 6).toInt ≤ 2049 from by first | exact g3 | omega) (show (cf 33).toInt = kn from by first | exact g4 | omega) (show 0 ≤ kn from by first | exact g5 | omega) (show (cf 48).toInt = ns from by first | exact g6 | omega) (show (cf 38).toInt = nf from by first | exact g7 | omega) (show 0 ≤ nf from by first | exact g8 | omega) htk (FsI.le (N' := (pf 13).toInt) hfs (by omega)) hwr (KnT.eq hkt (by omega)) (FnT.eq hft (by omega)) han hec_z137 hrk_z137 _) hT (pr := []) (pcs := [wdP cs h r g tf ta pf na ma wa cf ca ef ea xf xa]) hw (oX_call (P := (fun A U H => (oP A g U H))) (pr := []) oG_P hw hA hP) (px_recv hT hw 0 0 rfl rfl rfl) m13_13 m13_10 m13_12 ms_13_0 m1_21 q_Mpg_reckon ⟨show (2 * d + 6) + 1 ≤ (2 * (d + 1) + 6) from (by first | exact oz_dd267ac715 | omega), show 8 + (7 + 11) + (100 * d + 240) ≤ (100 * (d + 1) + 240) from (by first | exact oz_c0ec3b0787 | omega)⟩ hl.1 rfl (Nat.le_of_ble_eq_true rfl) d_Mpg_reckon_159 ⟨Nat.le_of_ble_eq_true rfl, Nat.le_of_ble_eq_true rfl⟩) hw hA (fun v141 p140 H locs hp140 hw => ?_))
      obtain ⟨cf139, rfl, e142, e143, e144, e145, e146, e147, e148⟩ := hp140
      have e142 : KpE cf cf139 := e142
      have hke := (hke).tr e142
      have hkz_e142 := e142.2
      have e143 : WrV cf139 (tf 6).toInt := e143
      have hwr := e143
      have hw0_e143 := hwr.1
      have e144 : (cf139 33).toInt = (cf 33).toInt := e144
      have e145 : (cf139 38).toInt = (cf 38).toInt := e145
      have e146 : (cf139 48).toInt = (cf 48).toInt := e146
      have e147 : (cf139 47).toInt = (cf 47).toInt := e147
      have e148 : RL_mp_reckon d ta na ma ca z137 cf cf139 v141 := e148
      have lv141 := Int32.le_toInt v141
      have uv141 := Int32.toInt_lt v141
      refine lv_if_eq (tgt := 178) S.x S.b d_Mpg_reckon_162 (by decide) (fun c149 => ?_) (fun c149 => ?_)
      · have nc149 : v141.toInt = (0 : Int) := (i_eq (x := v141) (y := 0)).mp c149
        refine lv_aload_n S.x S.b d_Mpg_reckon_178 rfl (lv_at hl 0 rfl) ?_
        refine lv_aload_n S.x S.b d_Mpg_reckon_179 rfl (lv_at hl 0 rfl) ?_
        refine gP_19 S hT hw 0 rfl m10_5 d_Mpg_reckon_180 ?_
        refine lv_iload_n S.x S.b d_Mpg_reckon_183 rfl (lv_at hl 1 rfl) ?_
        refine px_iald S hT hw 0 15 (n := 2100) (f := (ma 19)) rfl gp_19 (x := p0) (vp_in_iff.mpr (by first | exact oz_18f227bc52 hrg_x8.2.1 hrg_x8.2.2 hrg.2.1 g1 g2 | (constructor <;> omega))) d_Mpg_reckon_184 ?_
        refine lv_topi (fun z151 ez151 => ?_)
        have lz151 := Int32.le_toInt z151
        have uz151 := Int32.toInt_lt z151
        have ha_z151 : z151 = ma0 19 p0.toNatClampNeg := ez151.trans (Ann.b19 han (by omega)); have hec_z151 : EcV ta (tf 6).toInt na ma0 d m2 p0.toInt z151 := (by rw [ha_z151]; exact hec_x8)
        have hrk_z151 : Rk ta ca na ma0 kn d z151 := (by rw [ha_z151]; exact hrk_x8)
        first | refine px_calli (pr := []) (px_runV (As := [.int z151]) (rest := []) S (hLR ma0 ys ns nf kn m2 p0.toInt h r g tf ta pf na ma wa ca ef ea xf xa cf139 z151 (show 0 ≤ m2 from (oz_0a7da9c4d6 hrg_y8.2.1 hrg_y8.2.2)) (show p0.toInt ≤ (pf 13).toInt from (oz_6996e0781a g1 hrg.2.1)) (show (pf 13).toInt ≤ 2100 from g2) (show (tf 6).toInt ≤ 2049 from g3) (show (cf139 33).toInt = kn from (oz_1687f4cc65 g4 e144)) (show 0 ≤ kn from g5) (show (cf139 48).toInt = ns from (oz_1687f4cc65 g6 e146)) (show (cf139 38).toInt = nf from (oz_1687f4cc65 g7 e145)) (show 0 ≤ nf from g8) htk (FsI.le (N' := (pf 13).toInt) hfs (by omega)) hwr (KnT.eq hkt (by omega)) (FnT.eq hft (by omega)) han hec_z151 hrk_z151 _) hT (pr := []) (pcs := [wdP cs h r g tf ta pf na ma wa cf139 ca ef ea xf xa]) hw (oX_call (P := (fun A U H => (oP A g U H))) (pr := []) oG_P hw hA hP) (px_recv hT hw 0 0 rfl rfl rfl) m13_13 m13_10 m13_12 ms_13_0 m1_21 q_Mpg_reckon ⟨show (2 * d + 6) + 1 ≤ (2 * (d + 1) + 6) from (oz_dd267ac715), show 8 + (7 + 11) + (100 * d + 240) ≤ (100 * (d + 1) + 240) from (oz_c0ec3b0787)⟩ hl.1 rfl (Nat.le_of_ble_eq_true rfl) d_Mpg_reckon_185 ⟨Nat.le_of_ble_eq_true rfl, Nat.le_of_ble_eq_true rfl⟩) hw hA (fun v155 p154 H locs hp154 hw => ?_) | (refine px_calli (pr := []) (px_runV (As := [.int z151]) (rest := []) S (hLR ma0 ys ns nf kn m2 p0.toInt h r g tf ta pf na ma wa ca ef ea xf xa cf139 z151 (show 0 ≤ m2 from by first | exact oz_0a7da9c4d6 hrg_y8.2.1 hrg_y8.2.2 | omega) (show p0.toInt ≤ (pf 13).toInt from by first | exact oz_6996e0781a g1 hrg.2.1 | omega) (show (pf 13).toInt ≤ 2100 from by first | exact g2 | omega) (show (tf 6).toInt ≤ 2049 from by first | exact g3 | omega) (show (cf139 33).toInt = kn from by first | exact oz_1687f4cc65 g4 e144 | omega) (show 0 ≤ kn from by first | exact g5 | omega) (show (cf139 48).toInt = ns from by first | exact oz_1687f4cc65 g6 e146 | omega) (show (cf139 38).toInt = nf from by first | exact oz_1687f4cc65 g7 e145 | omega) (show 0 ≤ nf from by first | exact g8 | omega) htk (FsI.le (N' := (pf 13).toInt) hfs (by omega)) hwr (KnT.eq hkt (by omega)) (FnT.eq hft (by omega)) han hec_z151 hrk_z151 _) hT (pr := []) (pcs := [wdP cs h r g tf ta pf na ma wa cf139 ca ef ea xf xa]) hw (oX_call (P := (fun A U H => (oP A g U H))) (pr := []) oG_P hw hA hP) (px_recv hT hw 0 0 rfl rfl rfl) m13_13 m13_10 m13_12 ms_13_0 m1_21 q_Mpg_reckon ⟨show (2 * d + 6) + 1 ≤ (2 * (d + 1) + 6) from (by first | exact oz_dd267ac715 | omega), show 8 + (7 + 11) + (100 * d + 240) ≤ (100 * (d + 1) + 240) from (by first | exact oz_c0ec3b0787 | omega)⟩ hl.1 rfl (Nat.le_of_ble_eq_true rfl) d_Mpg_reckon_185 ⟨Nat.le_of_ble_eq_true rfl, Nat.le_of_ble_eq_true rfl⟩) hw hA (fun v155 p154 H locs hp154 hw => ?_))
        obtain ⟨cf153, rfl, e156, e157, e158, e159, e160, e161, e162⟩ := hp154
        have e156 : KpE cf139 cf153 := e156
        have hke := (hke).tr e156
        have hkz_e156 := e156.2
        have e157 : WrV cf153 (tf 6).toInt := e157
        have hwr := e157
        have hw0_e157 := hwr.1
        have e158 : (cf153 33).toInt = (cf139 33).toInt := e158
        have e159 : (cf153 38).toInt = (cf139 38).toInt := e159
        have e160 : (cf153 48).toInt = (cf139 48).toInt := e160
        have e161 : (cf153 47).toInt = (cf139 47).toInt := e161
        have e162 : RL_mp_reckon d ta na ma ca z151 cf139 cf153 v155 := e162
        have lv155 := Int32.le_toInt v155
        have uv155 := Int32.toInt_lt v155
        first | exact px_iret (v := v155) S hr rfl hlk hAe hw (Nat.le_of_ble_eq_true rfl) (Nat.le_of_ble_eq_true rfl) (⟨cf153, rfl, (show KpE cf cf153 from hke), (show WrV cf153 (tf 6).toInt from hwr), (show (cf153 33).toInt = (cf 33).toInt from (oz_1687f4cc65 e144 e158)), (show (cf153 38).toInt = (cf 38).toInt from (oz_1687f4cc65 e145 e159)), (show (cf153 48).toInt = (cf 48).toInt from (oz_1687f4cc65 e146 e160)), (show (cf153 47).toInt = (cf 47).toInt from (oz_1687f4cc65 e147 e161)), (show R_mp_reckon (RL_mp_reckon d) ta na ma ca p0 cf cf153 v155 from (Exists.intro 1 (Or.inl ⟨rfl, z68, ez68, Or.inr (Or.inr (Or.inr (Or.inr (Or.inr ⟨c85, z137, ez137, cf139, v141, e148, Or.inl ⟨nc149, z151, ez151, cf153, v155, e162, rfl, rfl⟩⟩))))⟩)))⟩) d_Mpg_reckon_188 | (exact px_iret (v := v155) S hr rfl hlk hAe hw (Nat.le_of_ble_eq_true rfl) (Nat.le_of_ble_eq_true rfl) (⟨cf153, rfl, (show KpE cf cf153 from hke), (show WrV cf153 (tf 6).toInt from hwr), (show (cf153 33).toInt = (cf 33).toInt from by first | exact oz_1687f4cc65 e144 e158 | omega), (show (cf153 38).toInt = (cf 38).toInt from by first | exact oz_1687f4cc65 e145 e159 | omega), (show (cf153 48).toInt = (cf 48).toInt from by first | exact oz_1687f4cc65 e146 e160 | omega), (show (cf153 47).toInt = (cf 47).toInt from by first | exact oz_1687f4cc65 e147 e161 | omega), (show R_mp_reckon (RL_mp_reckon d) ta na ma ca p0 cf cf153 v155 from (Exists.intro 1 (Or.inl ⟨rfl, z68, ez68, Or.inr (Or.inr (Or.inr (Or.inr (Or.inr ⟨c85, z137, ez137, cf139, v141, e148, Or.inl ⟨nc149, z151, ez151, cf153, v155, e162, rfl, rfl⟩⟩))))⟩)))⟩) d_Mpg_reckon_188)
      · have nc149 : ¬ v141.toInt = (0 : Int) := mt (i_eq (x := v141) (y := 0)).mpr c149
        refine lv_aload_n S.x S.b d_Mpg_reckon_165 rfl (lv_at hl 0 rfl) ?_
        refine lv_aload_n S.x S.b d_Mpg_reckon_166 rfl (lv_at hl 0 rfl) ?_
        refine gP_18 S hT hw 0 rfl m10_3 d_Mpg_reckon_167 ?_
        refine lv_iload_n S.x S.b d_Mpg_reckon_170 rfl (lv_at hl 1 rfl) ?_
        refine px_iald S hT hw 0 14 (n := 2100) (f := (ma 18)) rfl gp_18 (x := p0) (vp_in_iff.mpr (by first | exact oz_18f227bc52 hrg_x8.2.1 hrg_x8.2.2 hrg.2.1 g1 g2 | (constructor <;> omega))) d_Mpg_reckon_171 ?_
        refine lv_topi (fun z163 ez163 => ?_)
        have lz163 := Int32.le_toInt z163
        have uz163 := Int32.toInt_lt z163
        have ha_z163 : z163 = ma0 18 p0.toNatClampNeg := ez163.trans (Ann.b18 han (by omega)); have hec_z163 : EcV ta (tf 6).toInt na ma0 d m1 m2 z163 := (by rw [ha_z163]; exact hec_y8)
        have hrk_z163 : Rk ta ca na ma0 kn d z163 := (by rw [ha_z163]; exact hrk_y8)
        first | refine px_calli (pr := []) (px_runV (As := [.int z163]) (rest := []) S (hLR ma0 ys ns nf kn m1 m2 h r g tf ta pf na ma wa ca ef ea xf xa cf139 z163 (show 0 ≤ m1 from (oz_0a7da9c4d6 hrg_z137.2.1 hrg_z137.2.2)) (show m2 ≤ (pf 13).toInt from (oz_dc2da80b19 g1 hrg_x8.1 hrg.2.1 hrg_x8.2.1)) (show (pf 13).toInt ≤ 2100 from g2) (show (tf 6).toInt ≤ 2049 from g3) (show (cf139 33).toInt = kn from (oz_1687f4cc65 g4 e144)) (show 0 ≤ kn from g5) (show (cf139 48).toInt = ns from (oz_1687f4cc65 g6 e146)) (show (cf139 38).toInt = nf from (oz_1687f4cc65 g7 e145)) (show 0 ≤ nf from g8) htk (FsI.le (N' := (pf 13).toInt) hfs (by omega)) hwr (KnT.eq hkt (by omega)) (FnT.eq hft (by omega)) han hec_z163 hrk_z163 _) hT (pr := []) (pcs := [wdP cs h r g tf ta pf na ma wa cf139 ca ef ea xf xa]) hw (oX_call (P := (fun A U H => (oP A g U H))) (pr := []) oG_P hw hA hP) (px_recv hT hw 0 0 rfl rfl rfl) m13_13 m13_10 m13_12 ms_13_0 m1_21 q_Mpg_reckon ⟨show (2 * d + 6) + 1 ≤ (2 * (d + 1) + 6) from (oz_dd267ac715), show 8 + (7 + 11) + (100 * d + 240) ≤ (100 * (d + 1) + 240) from (oz_c0ec3b0787)⟩ hl.1 rfl (Nat.le_of_ble_eq_true rfl) d_Mpg_reckon_172 ⟨Nat.le_of_ble_eq_true rfl, Nat.le_of_ble_eq_true rfl⟩) hw hA (fun v167 p166 H locs hp166 hw => ?_) | (refine px_calli (pr := []) (px_runV (As := [.int z163]) (rest := []) S (hLR ma0 ys ns nf kn m1 m2 h r g tf ta pf na ma wa ca ef ea xf xa cf139 z163 (show 0 ≤ m1 from by first | exact oz_0a7da9c4d6 hrg_z137.2.1 hrg_z137.2.2 | omega) (show m2 ≤ (pf 13).toInt from by first | exact oz_dc2da80b19 g1 hrg_x8.1 hrg.2.1 hrg_x8.2.1 | omega) (show (pf 13).toInt ≤ 2100 from by first | exact g2 | omega) (show (tf 6).toInt ≤ 2049 from by first | exact g3 | omega) (show (cf139 33).toInt = kn from by first | exact oz_1687f4cc65 g4 e144 | omega) (show 0 ≤ kn from by first | exact g5 | omega) (show (cf139 48).toInt = ns from by first | exact oz_1687f4cc65 g6 e146 | omega) (show (cf139 38).toInt = nf from by first | exact oz_1687f4cc65 g7 e145 | omega) (show 0 ≤ nf from by first | exact g8 | omega) htk (FsI.le (N' := (pf 13).toInt) hfs (by omega)) hwr (KnT.eq hkt (by omega)) (FnT.eq hft (by omega)) han hec_z163 hrk_z163 _) hT (pr := []) (pcs := [wdP cs h r g tf ta pf na ma wa cf139 ca ef ea xf xa]) hw (oX_call (P := (fun A U H => (oP A g U H))) (pr := []) oG_P hw hA hP) (px_recv hT hw 0 0 rfl rfl rfl) m13_13 m13_10 m13_12 ms_13_0 m1_21 q_Mpg_reckon ⟨show (2 * d + 6) + 1 ≤ (2 * (d + 1) + 6) from (by first | exact oz_dd267ac715 | omega), show 8 + (7 + 11) + (100 * d + 240) ≤ (100 * (d + 1) + 240) from (by first | exact oz_c0ec3b0787 | omega)⟩ hl.1 rfl (Nat.le_of_ble_eq_true rfl) d_Mpg_reckon_172 ⟨Nat.le_of_ble_eq_true rfl, Nat.le_of_ble_eq_true rfl⟩) hw hA (fun v167 p166 H locs hp166 hw => ?_))
        obtain ⟨cf165, rfl, e168, e169, e170, e171, e172, e173, e174⟩ := hp166
        have e168 : KpE cf139 cf165 := e168
        have hke := (hke).tr e168
        have hkz_e168 := e168.2
        have e169 : WrV cf165 (tf 6).toInt := e169
        have hwr := e169
        have hw0_e169 := hwr.1
        have e170 : (cf165 33).toInt = (cf139 33).toInt := e170
        have e171 : (cf165 38).toInt = (cf139 38).toInt := e171
        have e172 : (cf165 48).toInt = (cf139 48).toInt := e172
        have e173 : (cf165 47).toInt = (cf139 47).toInt := e173
        have e174 : RL_mp_reckon d ta na ma ca z163 cf139 cf165 v167 := e174
        have lv167 := Int32.le_toInt v167
        have uv167 := Int32.toInt_lt v167
        refine lv_goto (tgt := 188) S.x S.b d_Mpg_reckon_175 (by decide) ?_
        first | exact px_iret (v := v167) S hr rfl hlk hAe hw (Nat.le_of_ble_eq_true rfl) (Nat.le_of_ble_eq_true rfl) (⟨cf165, rfl, (show KpE cf cf165 from hke), (show WrV cf165 (tf 6).toInt from hwr), (show (cf165 33).toInt = (cf 33).toInt from (oz_1687f4cc65 e144 e170)), (show (cf165 38).toInt = (cf 38).toInt from (oz_1687f4cc65 e145 e171)), (show (cf165 48).toInt = (cf 48).toInt from (oz_1687f4cc65 e146 e172)), (show (cf165 47).toInt = (cf 47).toInt from (oz_1687f4cc65 e147 e173)), (show R_mp_reckon (RL_mp_reckon d) ta na ma ca p0 cf cf165 v167 from (Exists.intro 1 (Or.inl ⟨rfl, z68, ez68, Or.inr (Or.inr (Or.inr (Or.inr (Or.inr ⟨c85, z137, ez137, cf139, v141, e148, Or.inr ⟨nc149, z163, ez163, cf165, v167, e174, rfl, rfl⟩⟩))))⟩)))⟩) d_Mpg_reckon_188 | (exact px_iret (v := v167) S hr rfl hlk hAe hw (Nat.le_of_ble_eq_true rfl) (Nat.le_of_ble_eq_true rfl) (⟨cf165, rfl, (show KpE cf cf165 from hke), (show WrV cf165 (tf 6).toInt from hwr), (show (cf165 33).toInt = (cf 33).toInt from by first | exact oz_1687f4cc65 e144 e170 | omega), (show (cf165 38).toInt = (cf 38).toInt from by first | exact oz_1687f4cc65 e145 e171 | omega), (show (cf165 48).toInt = (cf 48).toInt from by first | exact oz_1687f4cc65 e146 e172 | omega), (show (cf165 47).toInt = (cf 47).toInt from by first | exact oz_1687f4cc65 e147 e173 | omega), (show R_mp_reckon (RL_mp_reckon d) ta na ma ca p0 cf cf165 v167 from (Exists.intro 1 (Or.inl ⟨rfl, z68, ez68, Or.inr (Or.inr (Or.inr (Or.inr (Or.inr ⟨c85, z137, ez137, cf139, v141, e148, Or.inr ⟨nc149, z163, ez163, cf165, v167, e174, rfl, rfl⟩⟩))))⟩)))⟩) d_Mpg_reckon_188)
theorem rkc_all (l : Launch) (D : va_G) (cs : Nat → ClassId) : ∀ d : Nat, RkC l D cs d := by
  intro d
  induction d with
  | zero => intro ma0 ys ns nf kn lo hi h r g tf ta pf na ma wa ca ef ea xf xa cf p0 g0 g1 g2 g3 g4 g5 g6 g7 g8 htk hfs hwr hkt hft han hec hrk; exact (ec_0 hec).elim
  | succ d ih => intro ma0 ys ns nf kn lo hi h r g tf ta pf na ma wa ca ef ea xf xa cf p0 g0 g1 g2 g3 g4 g5 g6 g7 g8 htk hfs hwr hkt hft han hec hrk; exact c_mp_reckon l D cs ma0 ys ns nf kn d lo hi h r g tf ta pf na ma wa ca ef ea xf xa cf p0 g0 g1 g2 g3 g4 g5 g6 g7 g8 htk hfs hwr hkt hft han hec hrk ih
set_option maxHeartbeats 4000000 in
set_option maxRecDepth 100000 in
theorem c_S_reckon (l : Launch) (D : va_G) (cs : Nat → ClassId) (ma0 : Nat → Nat → Int32) (ys : Int) (ns : Int) (nf : Int) (kn : Int) (d : Nat) (lo : Int) (hi : Int) (h : Nat) (r : Nat → Nat) (g : Nat → Nat → Option Nat) (tf : Nat → Int32) (ta : Nat → Nat → Int32) (pf : Nat → Int32) (na : Nat → Nat → Int32) (ma : Nat → Nat → Int32) (wa : Nat → Nat → Int32) (ca : Nat → Nat → Int32) (ef : Nat → Int32) (ea : Nat → Nat → Int32) (xf : Nat → Int32) (xa : Nat → Nat → Int32) (cf : Nat → Int32) (p0 : Int32)  (g0 : 0 ≤ lo) (g1 : hi ≤ (pf 13).toInt) (g2 : (pf 13).toInt ≤ 2100) (g3 : (tf 6).toInt ≤ 2049) (g4 : (cf 33).toInt = kn) (g5 : 0 ≤ kn) (g6 : (cf 48).toInt = ns) (g7 : (cf 38).toInt = nf) (g8 : 0 ≤ nf) (htk : TkI tf ta) (hfs : FsI (tf 6).toInt (pf 13).toInt na) (hwr : WrV cf (tf 6).toInt) (hkt : KnT (tf 6).toInt ca (cf 33).toInt) (hft : FnT (tf 6).toInt na ca (cf 38).toInt) (han : Ann na ma0 ma) (hec : EcV ta (tf 6).toInt na ma0 d lo hi p0) (hrk : Rk ta ca na ma0 kn d p0) : MetI l y_Mpg_reckon b_Mpg_reckon 7 (.int) D cs (2 * d + 6) (100 * d + 240) (0) (0) [.ref h, .int p0] [wdP cs h r g tf ta pf na ma wa cf ca ef ea xf xa] (oX (fun A U H => (oP A g U H)) [wdP cs h r g tf ta pf na ma wa cf ca ef ea xf xa]) (fun v ps => ∃ (cf' : Nat → Int32), (ps = [wdP cs h r g tf ta pf na ma wa cf' ca ef ea xf xa]) ∧ (KpE cf cf') ∧ (WrV cf' (tf 6).toInt) ∧ ((cf' 33).toInt = (cf 33).toInt) ∧ ((cf' 38).toInt = (cf 38).toInt) ∧ ((cf' 48).toInt = (cf 48).toInt) ∧ ((cf' 47).toInt = (cf 47).toInt) ∧ (RL_mp_reckon d ta na ma ca p0 cf cf' v)) := by
  exact rkc_all l D cs d ma0 ys ns nf kn lo hi h r g tf ta pf na ma wa ca ef ea xf xa cf p0 g0 g1 g2 g3 g4 g5 g6 g7 g8 htk hfs hwr hkt hft han hec hrk
abbrev b_Mpg_checkConstant : ByteArray := prog_16_method_83_code
def y_Mpg_checkConstant : MethodName := ⟨"HomeSystemModel$Program", "checkConstant", "(I)Z"⟩
theorem d_Mpg_checkConstant_0 : decode b_Mpg_checkConstant 0 = .ok (.aload_n 0, 1) := by decide +kernel
theorem d_Mpg_checkConstant_1 : decode b_Mpg_checkConstant 1 = .ok (.getfield 602, 3) := by decide +kernel
theorem d_Mpg_checkConstant_4 : decode b_Mpg_checkConstant 4 = .ok (.istore_n 2, 1) := by decide +kernel
theorem d_Mpg_checkConstant_5 : decode b_Mpg_checkConstant 5 = .ok (.aload_n 0, 1) := by decide +kernel
theorem d_Mpg_checkConstant_6 : decode b_Mpg_checkConstant 6 = .ok (.getfield 606, 3) := by decide +kernel
theorem d_Mpg_checkConstant_9 : decode b_Mpg_checkConstant 9 = .ok (.istore_n 3, 1) := by decide +kernel
theorem d_Mpg_checkConstant_10 : decode b_Mpg_checkConstant 10 = .ok (.aload_n 0, 1) := by decide +kernel
theorem d_Mpg_checkConstant_11 : decode b_Mpg_checkConstant 11 = .ok (.iconst 0, 1) := by decide +kernel
theorem d_Mpg_checkConstant_12 : decode b_Mpg_checkConstant 12 = .ok (.putfield 602, 3) := by decide +kernel
theorem d_Mpg_checkConstant_15 : decode b_Mpg_checkConstant 15 = .ok (.aload_n 0, 1) := by decide +kernel
theorem d_Mpg_checkConstant_16 : decode b_Mpg_checkConstant 16 = .ok (.iconst 0, 1) := by decide +kernel
theorem d_Mpg_checkConstant_17 : decode b_Mpg_checkConstant 17 = .ok (.putfield 606, 3) := by decide +kernel
theorem d_Mpg_checkConstant_20 : decode b_Mpg_checkConstant 20 = .ok (.aload_n 0, 1) := by decide +kernel
theorem d_Mpg_checkConstant_21 : decode b_Mpg_checkConstant 21 = .ok (.iload_n 1, 1) := by decide +kernel
theorem d_Mpg_checkConstant_22 : decode b_Mpg_checkConstant 22 = .ok (.invokevirtual 599, 3) := by decide +kernel
theorem d_Mpg_checkConstant_25 : decode b_Mpg_checkConstant 25 = .ok (.aload_n 0, 1) := by decide +kernel
theorem d_Mpg_checkConstant_26 : decode b_Mpg_checkConstant 26 = .ok (.getfield 602, 3) := by decide +kernel
theorem d_Mpg_checkConstant_29 : decode b_Mpg_checkConstant 29 = .ok (.ifCond .ne 29, 3) := by decide +kernel
theorem d_Mpg_checkConstant_32 : decode b_Mpg_checkConstant 32 = .ok (.aload_n 0, 1) := by decide +kernel
theorem d_Mpg_checkConstant_33 : decode b_Mpg_checkConstant 33 = .ok (.getfield 606, 3) := by decide +kernel
theorem d_Mpg_checkConstant_36 : decode b_Mpg_checkConstant 36 = .ok (.ifCond .ne 22, 3) := by decide +kernel
theorem d_Mpg_checkConstant_39 : decode b_Mpg_checkConstant 39 = .ok (.aload_n 0, 1) := by decide +kernel
theorem d_Mpg_checkConstant_40 : decode b_Mpg_checkConstant 40 = .ok (.aload_n 0, 1) := by decide +kernel
theorem d_Mpg_checkConstant_41 : decode b_Mpg_checkConstant 41 = .ok (.iload_n 1, 1) := by decide +kernel
theorem d_Mpg_checkConstant_42 : decode b_Mpg_checkConstant 42 = .ok (.invokevirtual 609, 3) := by decide +kernel
theorem d_Mpg_checkConstant_45 : decode b_Mpg_checkConstant 45 = .ok (.putfield 612, 3) := by decide +kernel
theorem d_Mpg_checkConstant_48 : decode b_Mpg_checkConstant 48 = .ok (.aload_n 0, 1) := by decide +kernel
theorem d_Mpg_checkConstant_49 : decode b_Mpg_checkConstant 49 = .ok (.getfield 225, 3) := by decide +kernel
theorem d_Mpg_checkConstant_52 : decode b_Mpg_checkConstant 52 = .ok (.iload_n 1, 1) := by decide +kernel
theorem d_Mpg_checkConstant_53 : decode b_Mpg_checkConstant 53 = .ok (.aload_n 0, 1) := by decide +kernel
theorem d_Mpg_checkConstant_54 : decode b_Mpg_checkConstant 54 = .ok (.getfield 612, 3) := by decide +kernel
theorem d_Mpg_checkConstant_57 : decode b_Mpg_checkConstant 57 = .ok (.iastore, 1) := by decide +kernel
theorem d_Mpg_checkConstant_58 : decode b_Mpg_checkConstant 58 = .ok (.aload_n 0, 1) := by decide +kernel
theorem d_Mpg_checkConstant_59 : decode b_Mpg_checkConstant 59 = .ok (.getfield 602, 3) := by decide +kernel
theorem d_Mpg_checkConstant_62 : decode b_Mpg_checkConstant 62 = .ok (.ifCond .eq 14, 3) := by decide +kernel
theorem d_Mpg_checkConstant_65 : decode b_Mpg_checkConstant 65 = .ok (.aload_n 0, 1) := by decide +kernel
theorem d_Mpg_checkConstant_66 : decode b_Mpg_checkConstant 66 = .ok (.bipush 7, 2) := by decide +kernel
theorem d_Mpg_checkConstant_68 : decode b_Mpg_checkConstant 68 = .ok (.aload_n 0, 1) := by decide +kernel
theorem d_Mpg_checkConstant_69 : decode b_Mpg_checkConstant 69 = .ok (.iload_n 1, 1) := by decide +kernel
theorem d_Mpg_checkConstant_70 : decode b_Mpg_checkConstant 70 = .ok (.invokevirtual 584, 3) := by decide +kernel
theorem d_Mpg_checkConstant_73 : decode b_Mpg_checkConstant 73 = .ok (.invokevirtual 565, 3) := by decide +kernel
theorem d_Mpg_checkConstant_76 : decode b_Mpg_checkConstant 76 = .ok (.aload_n 0, 1) := by decide +kernel
theorem d_Mpg_checkConstant_77 : decode b_Mpg_checkConstant 77 = .ok (.getfield 602, 3) := by decide +kernel
theorem d_Mpg_checkConstant_80 : decode b_Mpg_checkConstant 80 = .ok (.ifCond .ne 14, 3) := by decide +kernel
theorem d_Mpg_checkConstant_83 : decode b_Mpg_checkConstant 83 = .ok (.aload_n 0, 1) := by decide +kernel
theorem d_Mpg_checkConstant_84 : decode b_Mpg_checkConstant 84 = .ok (.getfield 606, 3) := by decide +kernel
theorem d_Mpg_checkConstant_87 : decode b_Mpg_checkConstant 87 = .ok (.ifCond .ne 7, 3) := by decide +kernel
theorem d_Mpg_checkConstant_90 : decode b_Mpg_checkConstant 90 = .ok (.iconst 1, 1) := by decide +kernel
theorem d_Mpg_checkConstant_91 : decode b_Mpg_checkConstant 91 = .ok (.goto 4, 3) := by decide +kernel
theorem d_Mpg_checkConstant_94 : decode b_Mpg_checkConstant 94 = .ok (.iconst 0, 1) := by decide +kernel
theorem d_Mpg_checkConstant_95 : decode b_Mpg_checkConstant 95 = .ok (.istore 4, 2) := by decide +kernel
theorem d_Mpg_checkConstant_97 : decode b_Mpg_checkConstant 97 = .ok (.aload_n 0, 1) := by decide +kernel
theorem d_Mpg_checkConstant_98 : decode b_Mpg_checkConstant 98 = .ok (.iload_n 2, 1) := by decide +kernel
theorem d_Mpg_checkConstant_99 : decode b_Mpg_checkConstant 99 = .ok (.putfield 602, 3) := by decide +kernel
theorem d_Mpg_checkConstant_102 : decode b_Mpg_checkConstant 102 = .ok (.aload_n 0, 1) := by decide +kernel
theorem d_Mpg_checkConstant_103 : decode b_Mpg_checkConstant 103 = .ok (.iload_n 3, 1) := by decide +kernel
theorem d_Mpg_checkConstant_104 : decode b_Mpg_checkConstant 104 = .ok (.putfield 606, 3) := by decide +kernel
theorem d_Mpg_checkConstant_107 : decode b_Mpg_checkConstant 107 = .ok (.iload 4, 2) := by decide +kernel
theorem d_Mpg_checkConstant_109 : decode b_Mpg_checkConstant 109 = .ok (.ireturn, 1) := by decide +kernel
theorem q_Mpg_checkConstant : px_y y_Mpg_checkConstant 1 := by unfold px_y; decide +kernel
set_option maxHeartbeats 4000000 in
set_option maxRecDepth 100000 in
theorem c_mp_checkConstant (l : Launch) (D : va_G) (cs : Nat → ClassId) (ma0 : Nat → Nat → Int32) (ys : Int) (ns : Int) (nf : Int) (kn : Int) (d : Nat) (lo : Int) (hi : Int) (h : Nat) (r : Nat → Nat) (g : Nat → Nat → Option Nat) (tf : Nat → Int32) (ta : Nat → Nat → Int32) (pf : Nat → Int32) (na : Nat → Nat → Int32) (wa : Nat → Nat → Int32) (ca : Nat → Nat → Int32) (ef : Nat → Int32) (ea : Nat → Nat → Int32) (xf : Nat → Int32) (xa : Nat → Nat → Int32) (ma : Nat → Nat → Int32) (cf : Nat → Int32) (p0 : Int32)  (g0 : 0 ≤ lo) (g1 : hi ≤ (pf 13).toInt) (g2 : (pf 13).toInt ≤ 2100) (g3 : (tf 6).toInt ≤ 2049) (g4 : (cf 33).toInt = kn) (g5 : 0 ≤ kn) (g6 : (cf 48).toInt = ns) (g7 : (cf 38).toInt = nf) (g8 : 0 ≤ nf) (g9 : 0 ≤ (cf 46).toInt) (g10 : (cf 46).toInt ≤ 1) (g11 : 0 ≤ (cf 47).toInt) (g12 : (cf 47).toInt ≤ 1) (htk : TkI tf ta) (hfs : FsI (tf 6).toInt (pf 13).toInt na) (hwr : WrV cf (tf 6).toInt) (hkt : KnT (tf 6).toInt ca (cf 33).toInt) (hft : FnT (tf 6).toInt na ca (cf 38).toInt) (hks : KnS ca kn ns ys) (hfp : FnP na ca nf) (han : Ann na ma0 ma) (hec : EcV ta (tf 6).toInt na ma0 d lo hi p0) (h20 : (ma0 20 p0.toNatClampNeg).toInt < 0) : MetI l y_Mpg_checkConstant b_Mpg_checkConstant 5 (.boolean) D cs (4 * d + 18) (200 * d + 640) (0) (0) [.ref h, .int p0] [wdP cs h r g tf ta pf na ma wa cf ca ef ea xf xa] (oX (fun A U H => (oP A g U H)) [wdP cs h r g tf ta pf na ma wa cf ca ef ea xf xa]) (fun v ps => ∃ (ma' : Nat → Nat → Int32) (cf' : Nat → Int32), (ps = [wdP cs h r g tf ta pf na ma' wa cf' ca ef ea xf xa]) ∧ (KpE cf cf') ∧ (WrV cf' (tf 6).toInt) ∧ ((cf' 33).toInt = (cf 33).toInt) ∧ ((cf' 38).toInt = (cf 38).toInt) ∧ ((cf' 48).toInt = (cf 48).toInt) ∧ ((cf' 46).toInt = (cf 46).toInt) ∧ ((cf' 47).toInt = (cf 47).toInt) ∧ (Ann na ma0 ma') ∧ (FrC lo hi ma ma') ∧ (v = 0 ∨ v = 1) ∧ (v.toInt = 0 → 1 ≤ (cf' 30).toInt) ∧ (R_mp_checkConstant tf ta na ca p0 ma cf ma' cf' v)) := by
  refine px_enter (by decide) (Nat.le_of_ble_eq_true rfl) ?_
  intro p e s m below meth c A ls hAe S hr hlk hnm hA hT hX hw hl
  have hl : lv_has ls 5 [(0, .ref h), (1, .int p0)] := hl
  have lp0 := Int32.le_toInt p0
  have up0 := Int32.toInt_lt p0
  have cst0 : (0 : Int32).toInt = 0 := rfl
  have cst1 : (1 : Int32).toInt = 1 := rfl
  have cst7 : (7 : Int32).toInt = 7 := rfl
  have hX : (fun A U H => (oP A g U H)) A s s.heap := by rw [hAe]; exact hX
  have hP := hX
  have hZ := hP.1
  have hF0 := hP.2.1
  have hke : KpE cf cf := KpE.rf
  have hfc : FrC lo hi ma ma := FrC.rf
  have hwr0 := hwr.1
  have hk11 := hkt.1
  have hf11 := hft.1
  have hec_p0 := hec
  have hrg := EcV.rng hec
  refine lv_aload_n S.x S.b d_Mpg_checkConstant_0 rfl (lv_at hl 0 rfl) ?_
  refine gP_46 (v := (cf 46)) S hT hw 0 rfl rfl m10_37 d_Mpg_checkConstant_1 ?_
  refine lv_istore_n (lv' := [(2, .int (cf 46)), (0, .ref h), (1, .int p0)]) S.x S.b d_Mpg_checkConstant_4 rfl hl (by decide) rfl (fun ls hl => ?_)
  refine lv_aload_n S.x S.b d_Mpg_checkConstant_5 rfl (lv_at hl 1 rfl) ?_
  refine gP_47 (v := (cf 47)) S hT hw 0 rfl rfl m10_38 d_Mpg_checkConstant_6 ?_
  refine lv_istore_n (lv' := [(3, .int (cf 47)), (2, .int (cf 46)), (0, .ref h), (1, .int p0)]) S.x S.b d_Mpg_checkConstant_9 rfl hl (by decide) rfl (fun ls hl => ?_)
  refine lv_aload_n S.x S.b d_Mpg_checkConstant_10 rfl (lv_at hl 2 rfl) ?_
  refine lv_iconst (v := 0) S.x S.b d_Mpg_checkConstant_11 (by decide) ?_
  refine pP_46 S hT hw 0 rfl m10_37 rfl rfl rfl d_Mpg_checkConstant_12 (ps' := [wdP cs h r g tf ta pf na ma wa (upd cf 46 0) ca ef ea xf xa]) rfl (fun H locs hw => ?_)
  refine lv_aload_n S.x S.b d_Mpg_checkConstant_15 rfl (lv_at hl 2 rfl) ?_
  refine lv_iconst (v := 0) S.x S.b d_Mpg_checkConstant_16 (by decide) ?_
  refine pP_47 S hT hw 0 rfl m10_38 rfl rfl rfl d_Mpg_checkConstant_17 (ps' := [wdP cs h r g tf ta pf na ma wa (upd (upd cf 46 0) 47 0) ca ef ea xf xa]) rfl (fun H locs hw => ?_)
  refine lv_aload_n S.x S.b d_Mpg_checkConstant_20 rfl (lv_at hl 2 rfl) ?_
  refine lv_iload_n S.x S.b d_Mpg_checkConstant_21 rfl (lv_at hl 3 rfl) ?_
  first | refine px_callv (pr := []) (px_runV (As := [.int p0]) (rest := []) S (c_S_meet l D cs ma0 ys ns nf kn d lo hi h r g tf ta pf na wa ca ef ea xf xa ma (upd (upd cf 46 0) 47 0) p0  (show 0 ≤ lo from g0) (show hi ≤ (pf 13).toInt from g1) (show (pf 13).toInt ≤ 2100 from g2) (show (tf 6).toInt ≤ 2049 from g3) (show (cf 33).toInt = kn from g4) (show 0 ≤ kn from g5) (show (cf 48).toInt = ns from g6) (show (cf 38).toInt = nf from g7) (show 0 ≤ nf from g8) (show 0 ≤ (0 : Int) from oz_5a341f00aa) (show (0 : Int) ≤ 1 from oz_6e68cd0f48) (show 0 ≤ (0 : Int) from oz_5a341f00aa) (show (0 : Int) ≤ 1 from oz_6e68cd0f48) htk (FsI.le (N' := (pf 13).toInt) hfs (by omega)) (WrV.u (WrV.u hwr (by decide) (by decide)) (by decide) (by decide)) (KnT.eq hkt (show _ = (cf 33).toInt by omega)) (FnT.eq hft (show _ = (cf 38).toInt by omega)) hks hfp han hec_p0 _) hT (pr := []) (pcs := [wdP cs h r g tf ta pf na ma wa (upd (upd cf 46 0) 47 0) ca ef ea xf xa]) hw (oX_call (P := (fun A U H => (oP A g U H))) (pr := []) oG_P hw hA hP) (px_recv hT hw 0 0 rfl rfl rfl) m13_1 m12_238 m13_0 ms_12_13 m1_21 q_Mpg_meet ⟨show (4 * d + 16) + 1 ≤ (4 * d + 18) from (oz_fea0b1b447), show 8 + (3 + 11) + (200 * d + 560) ≤ (200 * d + 640) from (oz_09cd7a2070)⟩ hl.1 rfl (Nat.le_of_ble_eq_true rfl) d_Mpg_checkConstant_22 ⟨Nat.le_of_ble_eq_true rfl, Nat.le_of_ble_eq_true rfl⟩) hw hA (fun p5 H locs hp5 hw => ?_) | (refine px_callv (pr := []) (px_runV (As := [.int p0]) (rest := []) S (c_S_meet l D cs ma0 ys ns nf kn d lo hi h r g tf ta pf na wa ca ef ea xf xa ma (upd (upd cf 46 0) 47 0) p0  (show 0 ≤ lo from by first | exact g0 | omega) (show hi ≤ (pf 13).toInt from by first | exact g1 | omega) (show (pf 13).toInt ≤ 2100 from by first | exact g2 | omega) (show (tf 6).toInt ≤ 2049 from by first | exact g3 | omega) (show (cf 33).toInt = kn from by first | exact g4 | omega) (show 0 ≤ kn from by first | exact g5 | omega) (show (cf 48).toInt = ns from by first | exact g6 | omega) (show (cf 38).toInt = nf from by first | exact g7 | omega) (show 0 ≤ nf from by first | exact g8 | omega) (show 0 ≤ (0 : Int) from by first | exact oz_5a341f00aa | omega) (show (0 : Int) ≤ 1 from by first | exact oz_6e68cd0f48 | omega) (show 0 ≤ (0 : Int) from by first | exact oz_5a341f00aa | omega) (show (0 : Int) ≤ 1 from by first | exact oz_6e68cd0f48 | omega) htk (FsI.le (N' := (pf 13).toInt) hfs (by omega)) (WrV.u (WrV.u hwr (by decide) (by decide)) (by decide) (by decide)) (KnT.eq hkt (show _ = (cf 33).toInt by omega)) (FnT.eq hft (show _ = (cf 38).toInt by omega)) hks hfp han hec_p0 _) hT (pr := []) (pcs := [wdP cs h r g tf ta pf na ma wa (upd (upd cf 46 0) 47 0) ca ef ea xf xa]) hw (oX_call (P := (fun A U H => (oP A g U H))) (pr := []) oG_P hw hA hP) (px_recv hT hw 0 0 rfl rfl rfl) m13_1 m12_238 m13_0 ms_12_13 m1_21 q_Mpg_meet ⟨show (4 * d + 16) + 1 ≤ (4 * d + 18) from (by first | exact oz_fea0b1b447 | omega), show 8 + (3 + 11) + (200 * d + 560) ≤ (200 * d + 640) from (by first | exact oz_09cd7a2070 | omega)⟩ hl.1 rfl (Nat.le_of_ble_eq_true rfl) d_Mpg_checkConstant_22 ⟨Nat.le_of_ble_eq_true rfl, Nat.le_of_ble_eq_true rfl⟩) hw hA (fun p5 H locs hp5 hw => ?_))
  obtain ⟨ma3, cf4, rfl, e7, e8, e9, e10, e11, e12, e13, e14, e15, e16, e17, e18, e19, e20, e21, e22, e23⟩ := hp5
  have e7 : KpE (upd (upd cf 46 0) 47 0) cf4 := e7
  have hke := ((KpE.u47 (KpE.u46 hke))).tr e7
  have hkz_e7 := e7.2
  have e8 : WrV cf4 (tf 6).toInt := e8
  have hwr := e8
  have hw0_e8 := hwr.1
  have e9 : (cf4 33).toInt = (cf 33).toInt := e9
  have e10 : (cf4 38).toInt = (cf 38).toInt := e10
  have e11 : (cf4 48).toInt = (cf 48).toInt := e11
  have e12 : (cf4 57).toInt = (cf 57).toInt := e12
  have e13 : (cf4 47).toInt = 1 → (0 : Int) = 1 ∨ 1 ≤ (cf4 30).toInt := e13
  have e14 : 0 ≤ (cf4 46).toInt := e14
  have e15 : (cf4 46).toInt ≤ 1 := e15
  have e16 : 0 ≤ (cf4 47).toInt := e16
  have e17 : (cf4 47).toInt ≤ 1 := e17
  have e18 : (cf4 46).toInt = 0 → (0 : Int) = 0 := e18
  have e19 : (cf4 47).toInt = 0 → (0 : Int) = 0 := e19
  have e20 : Ann na ma0 ma3 := e20
  have han := e20
  have e21 : FrC lo hi ma ma3 := e21
  have hfc := hfc.tr e21 (by omega) (by omega)
  have e22 : MtR cf4 ta ca na ma0 kn d p0 := e22
  have hmt_p0 := e22
  have e23 : RL_mp_meet d tf ta na ca p0 ma (upd (upd cf 46 0) 47 0) ma3 cf4 := e23
  have e23X : RX_mp_meet tf ta na ca p0 ma (upd (upd cf 46 0) 47 0) ma3 cf4 := ⟨d, e23⟩
  refine lv_aload_n S.x S.b d_Mpg_checkConstant_25 rfl (lv_at hl 2 rfl) ?_
  refine gP_46 (v := (cf4 46)) S hT hw 0 rfl rfl m10_37 d_Mpg_checkConstant_26 ?_
  refine lv_if_ne (tgt := 58) S.x S.b d_Mpg_checkConstant_29 (by decide) (fun c24 => ?_) (fun c24 => ?_)
  · have nc24 : ¬ (cf4 46).toInt = (0 : Int) := mt (i_eq (x := (cf4 46)) (y := 0)).mpr c24
    refine lv_aload_n S.x S.b d_Mpg_checkConstant_58 rfl (lv_at hl 2 rfl) ?_
    refine gP_46 (v := (cf4 46)) S hT hw 0 rfl rfl m10_37 d_Mpg_checkConstant_59 ?_
    refine lv_if_eq (tgt := 76) S.x S.b d_Mpg_checkConstant_62 (by decide) (fun c26 => ?_) (fun c26 => ?_)
    · have nc26 : (cf4 46).toInt = (0 : Int) := (i_eq (x := (cf4 46)) (y := 0)).mp c26
      refine lv_aload_n S.x S.b d_Mpg_checkConstant_76 rfl (lv_at hl 2 rfl) ?_
      refine gP_46 (v := (cf4 46)) S hT hw 0 rfl rfl m10_37 d_Mpg_checkConstant_77 ?_
      refine lv_if_ne (tgt := 94) S.x S.b d_Mpg_checkConstant_80 (by decide) (fun c28 => ?_) (fun c28 => ?_)
      · have nc28 : ¬ (cf4 46).toInt = (0 : Int) := mt (i_eq (x := (cf4 46)) (y := 0)).mpr c28
        refine lv_iconst (v := 0) S.x S.b d_Mpg_checkConstant_94 (by decide) ?_
        refine lv_istore (lv' := [(4, .int 0), (3, .int (cf 47)), (2, .int (cf 46)), (0, .ref h), (1, .int p0)]) S.x S.b d_Mpg_checkConstant_95 hl (by decide) rfl (fun ls hl => ?_)
        refine lv_aload_n S.x S.b d_Mpg_checkConstant_97 rfl (lv_at hl 3 rfl) ?_
        refine lv_iload_n S.x S.b d_Mpg_checkConstant_98 rfl (lv_at hl 2 rfl) ?_
        refine pP_46 S hT hw 0 rfl m10_37 rfl (z_nar (by omega)) (z_fit (by omega)) d_Mpg_checkConstant_99 (ps' := [wdP cs h r g tf ta pf na ma3 wa (upd cf4 46 (cf 46)) ca ef ea xf xa]) rfl (fun H locs hw => ?_)
        refine lv_aload_n S.x S.b d_Mpg_checkConstant_102 rfl (lv_at hl 3 rfl) ?_
        refine lv_iload_n S.x S.b d_Mpg_checkConstant_103 rfl (lv_at hl 1 rfl) ?_
        refine pP_47 S hT hw 0 rfl m10_38 rfl (z_nar (by omega)) (z_fit (by omega)) d_Mpg_checkConstant_104 (ps' := [wdP cs h r g tf ta pf na ma3 wa (upd (upd cf4 46 (cf 46)) 47 (cf 47)) ca ef ea xf xa]) rfl (fun H locs hw => ?_)
        refine lv_iload S.x S.b d_Mpg_checkConstant_107 (lv_at hl 0 rfl) ?_
        first | exact px_iret (v := 0) S hr rfl hlk hAe hw (Nat.le_of_ble_eq_true rfl) (Nat.le_of_ble_eq_true rfl) (⟨ma3, (upd (upd cf4 46 (cf 46)) 47 (cf 47)), rfl, (show KpE cf (upd (upd cf4 46 (cf 46)) 47 (cf 47)) from (KpE.u47 (KpE.u46 hke))), (show WrV (upd (upd cf4 46 (cf 46)) 47 (cf 47)) (tf 6).toInt from (WrV.u (WrV.u hwr (by decide) (by decide)) (by decide) (by decide))), (show (cf4 33).toInt = (cf 33).toInt from e9), (show (cf4 38).toInt = (cf 38).toInt from e10), (show (cf4 48).toInt = (cf 48).toInt from e11), (show (cf 46).toInt = (cf 46).toInt from rfl), (show (cf 47).toInt = (cf 47).toInt from rfl), (show Ann na ma0 ma3 from han), (show FrC lo hi ma ma3 from hfc), (show (0 : Int32) = 0 ∨ (0 : Int32) = 1 from by first | exact Or.inl rfl | exact Or.inr rfl | exact z_or (by omega)), (show (0 : Int) = 0 → 1 ≤ (cf4 30).toInt from by omega), (show R_mp_checkConstant tf ta na ca p0 ma cf ma3 (upd (upd cf4 46 (cf 46)) 47 (cf 47)) (0 : Int32) from (Or.inl ⟨ma3, cf4, e23X, Or.inl ⟨nc24, Or.inl ⟨nc26, Or.inl ⟨nc28, rfl, rfl, rfl⟩⟩⟩⟩))⟩) d_Mpg_checkConstant_109 | (exact px_iret (v := 0) S hr rfl hlk hAe hw (Nat.le_of_ble_eq_true rfl) (Nat.le_of_ble_eq_true rfl) (⟨ma3, (upd (upd cf4 46 (cf 46)) 47 (cf 47)), rfl, (show KpE cf (upd (upd cf4 46 (cf 46)) 47 (cf 47)) from (KpE.u47 (KpE.u46 hke))), (show WrV (upd (upd cf4 46 (cf 46)) 47 (cf 47)) (tf 6).toInt from (WrV.u (WrV.u hwr (by decide) (by decide)) (by decide) (by decide))), (show (cf4 33).toInt = (cf 33).toInt from by first | exact e9 | omega), (show (cf4 38).toInt = (cf 38).toInt from by first | exact e10 | omega), (show (cf4 48).toInt = (cf 48).toInt from by first | exact e11 | omega), (show (cf 46).toInt = (cf 46).toInt from rfl), (show (cf 47).toInt = (cf 47).toInt from rfl), (show Ann na ma0 ma3 from han), (show FrC lo hi ma ma3 from hfc), (show (0 : Int32) = 0 ∨ (0 : Int32) = 1 from by first | exact Or.inl rfl | exact Or.inr rfl | exact z_or (by omega)), (show (0 : Int) = 0 → 1 ≤ (cf4 30).toInt from by omega), (show R_mp_checkConstant tf ta na ca p0 ma cf ma3 (upd (upd cf4 46 (cf 46)) 47 (cf 47)) (0 : Int32) from (Or.inl ⟨ma3, cf4, e23X, Or.inl ⟨nc24, Or.inl ⟨nc26, Or.inl ⟨nc28, rfl, rfl, rfl⟩⟩⟩⟩))⟩) d_Mpg_checkConstant_109)
      · have nc28 : (cf4 46).toInt = (0 : Int) := (i_eq (x := (cf4 46)) (y := 0)).mp c28
        refine lv_aload_n S.x S.b d_Mpg_checkConstant_83 rfl (lv_at hl 2 rfl) ?_
        refine gP_47 (v := (cf4 47)) S hT hw 0 rfl rfl m10_38 d_Mpg_checkConstant_84 ?_
        refine lv_if_ne (tgt := 94) S.x S.b d_Mpg_checkConstant_87 (by decide) (fun c30 => ?_) (fun c30 => ?_)
        · have nc30 : ¬ (cf4 47).toInt = (0 : Int) := mt (i_eq (x := (cf4 47)) (y := 0)).mpr c30
          refine lv_iconst (v := 0) S.x S.b d_Mpg_checkConstant_94 (by decide) ?_
          refine lv_istore (lv' := [(4, .int 0), (3, .int (cf 47)), (2, .int (cf 46)), (0, .ref h), (1, .int p0)]) S.x S.b d_Mpg_checkConstant_95 hl (by decide) rfl (fun ls hl => ?_)
          refine lv_aload_n S.x S.b d_Mpg_checkConstant_97 rfl (lv_at hl 3 rfl) ?_
          refine lv_iload_n S.x S.b d_Mpg_checkConstant_98 rfl (lv_at hl 2 rfl) ?_
          refine pP_46 S hT hw 0 rfl m10_37 rfl (z_nar (by omega)) (z_fit (by omega)) d_Mpg_checkConstant_99 (ps' := [wdP cs h r g tf ta pf na ma3 wa (upd cf4 46 (cf 46)) ca ef ea xf xa]) rfl (fun H locs hw => ?_)
          refine lv_aload_n S.x S.b d_Mpg_checkConstant_102 rfl (lv_at hl 3 rfl) ?_
          refine lv_iload_n S.x S.b d_Mpg_checkConstant_103 rfl (lv_at hl 1 rfl) ?_
          refine pP_47 S hT hw 0 rfl m10_38 rfl (z_nar (by omega)) (z_fit (by omega)) d_Mpg_checkConstant_104 (ps' := [wdP cs h r g tf ta pf na ma3 wa (upd (upd cf4 46 (cf 46)) 47 (cf 47)) ca ef ea xf xa]) rfl (fun H locs hw => ?_)
          refine lv_iload S.x S.b d_Mpg_checkConstant_107 (lv_at hl 0 rfl) ?_
          first | exact px_iret (v := 0) S hr rfl hlk hAe hw (Nat.le_of_ble_eq_true rfl) (Nat.le_of_ble_eq_true rfl) (⟨ma3, (upd (upd cf4 46 (cf 46)) 47 (cf 47)), rfl, (show KpE cf (upd (upd cf4 46 (cf 46)) 47 (cf 47)) from (KpE.u47 (KpE.u46 hke))), (show WrV (upd (upd cf4 46 (cf 46)) 47 (cf 47)) (tf 6).toInt from (WrV.u (WrV.u hwr (by decide) (by decide)) (by decide) (by decide))), (show (cf4 33).toInt = (cf 33).toInt from e9), (show (cf4 38).toInt = (cf 38).toInt from e10), (show (cf4 48).toInt = (cf 48).toInt from e11), (show (cf 46).toInt = (cf 46).toInt from rfl), (show (cf 47).toInt = (cf 47).toInt from rfl), (show Ann na ma0 ma3 from han), (show FrC lo hi ma ma3 from hfc), (show (0 : Int32) = 0 ∨ (0 : Int32) = 1 from by first | exact Or.inl rfl | exact Or.inr rfl | exact z_or (by omega)), (show (0 : Int) = 0 → 1 ≤ (cf4 30).toInt from by omega), (show R_mp_checkConstant tf ta na ca p0 ma cf ma3 (upd (upd cf4 46 (cf 46)) 47 (cf 47)) (0 : Int32) from (Or.inl ⟨ma3, cf4, e23X, Or.inl ⟨nc24, Or.inl ⟨nc26, Or.inr ⟨nc28, Or.inl ⟨nc30, rfl, rfl, rfl⟩⟩⟩⟩⟩))⟩) d_Mpg_checkConstant_109 | (exact px_iret (v := 0) S hr rfl hlk hAe hw (Nat.le_of_ble_eq_true rfl) (Nat.le_of_ble_eq_true rfl) (⟨ma3, (upd (upd cf4 46 (cf 46)) 47 (cf 47)), rfl, (show KpE cf (upd (upd cf4 46 (cf 46)) 47 (cf 47)) from (KpE.u47 (KpE.u46 hke))), (show WrV (upd (upd cf4 46 (cf 46)) 47 (cf 47)) (tf 6).toInt from (WrV.u (WrV.u hwr (by decide) (by decide)) (by decide) (by decide))), (show (cf4 33).toInt = (cf 33).toInt from by first | exact e9 | omega), (show (cf4 38).toInt = (cf 38).toInt from by first | exact e10 | omega), (show (cf4 48).toInt = (cf 48).toInt from by first | exact e11 | omega), (show (cf 46).toInt = (cf 46).toInt from rfl), (show (cf 47).toInt = (cf 47).toInt from rfl), (show Ann na ma0 ma3 from han), (show FrC lo hi ma ma3 from hfc), (show (0 : Int32) = 0 ∨ (0 : Int32) = 1 from by first | exact Or.inl rfl | exact Or.inr rfl | exact z_or (by omega)), (show (0 : Int) = 0 → 1 ≤ (cf4 30).toInt from by omega), (show R_mp_checkConstant tf ta na ca p0 ma cf ma3 (upd (upd cf4 46 (cf 46)) 47 (cf 47)) (0 : Int32) from (Or.inl ⟨ma3, cf4, e23X, Or.inl ⟨nc24, Or.inl ⟨nc26, Or.inr ⟨nc28, Or.inl ⟨nc30, rfl, rfl, rfl⟩⟩⟩⟩⟩))⟩) d_Mpg_checkConstant_109)
        · have nc30 : (cf4 47).toInt = (0 : Int) := (i_eq (x := (cf4 47)) (y := 0)).mp c30
          refine lv_iconst (v := 1) S.x S.b d_Mpg_checkConstant_90 (by decide) ?_
          refine lv_goto (tgt := 95) S.x S.b d_Mpg_checkConstant_91 (by decide) ?_
          refine lv_istore (lv' := [(4, .int 1), (3, .int (cf 47)), (2, .int (cf 46)), (0, .ref h), (1, .int p0)]) S.x S.b d_Mpg_checkConstant_95 hl (by decide) rfl (fun ls hl => ?_)
          refine lv_aload_n S.x S.b d_Mpg_checkConstant_97 rfl (lv_at hl 3 rfl) ?_
          refine lv_iload_n S.x S.b d_Mpg_checkConstant_98 rfl (lv_at hl 2 rfl) ?_
          refine pP_46 S hT hw 0 rfl m10_37 rfl (z_nar (by omega)) (z_fit (by omega)) d_Mpg_checkConstant_99 (ps' := [wdP cs h r g tf ta pf na ma3 wa (upd cf4 46 (cf 46)) ca ef ea xf xa]) rfl (fun H locs hw => ?_)
          refine lv_aload_n S.x S.b d_Mpg_checkConstant_102 rfl (lv_at hl 3 rfl) ?_
          refine lv_iload_n S.x S.b d_Mpg_checkConstant_103 rfl (lv_at hl 1 rfl) ?_
          refine pP_47 S hT hw 0 rfl m10_38 rfl (z_nar (by omega)) (z_fit (by omega)) d_Mpg_checkConstant_104 (ps' := [wdP cs h r g tf ta pf na ma3 wa (upd (upd cf4 46 (cf 46)) 47 (cf 47)) ca ef ea xf xa]) rfl (fun H locs hw => ?_)
          refine lv_iload S.x S.b d_Mpg_checkConstant_107 (lv_at hl 0 rfl) ?_
          first | exact px_iret (v := 1) S hr rfl hlk hAe hw (Nat.le_of_ble_eq_true rfl) (Nat.le_of_ble_eq_true rfl) (⟨ma3, (upd (upd cf4 46 (cf 46)) 47 (cf 47)), rfl, (show KpE cf (upd (upd cf4 46 (cf 46)) 47 (cf 47)) from (KpE.u47 (KpE.u46 hke))), (show WrV (upd (upd cf4 46 (cf 46)) 47 (cf 47)) (tf 6).toInt from (WrV.u (WrV.u hwr (by decide) (by decide)) (by decide) (by decide))), (show (cf4 33).toInt = (cf 33).toInt from e9), (show (cf4 38).toInt = (cf 38).toInt from e10), (show (cf4 48).toInt = (cf 48).toInt from e11), (show (cf 46).toInt = (cf 46).toInt from rfl), (show (cf 47).toInt = (cf 47).toInt from rfl), (show Ann na ma0 ma3 from han), (show FrC lo hi ma ma3 from hfc), (show (1 : Int32) = 0 ∨ (1 : Int32) = 1 from by first | exact Or.inl rfl | exact Or.inr rfl | exact z_or (by omega)), (show (1 : Int) = 0 → 1 ≤ (cf4 30).toInt from by omega), (show R_mp_checkConstant tf ta na ca p0 ma cf ma3 (upd (upd cf4 46 (cf 46)) 47 (cf 47)) (1 : Int32) from (Or.inl ⟨ma3, cf4, e23X, Or.inl ⟨nc24, Or.inl ⟨nc26, Or.inr ⟨nc28, Or.inr ⟨nc30, rfl, rfl, rfl⟩⟩⟩⟩⟩))⟩) d_Mpg_checkConstant_109 | (exact px_iret (v := 1) S hr rfl hlk hAe hw (Nat.le_of_ble_eq_true rfl) (Nat.le_of_ble_eq_true rfl) (⟨ma3, (upd (upd cf4 46 (cf 46)) 47 (cf 47)), rfl, (show KpE cf (upd (upd cf4 46 (cf 46)) 47 (cf 47)) from (KpE.u47 (KpE.u46 hke))), (show WrV (upd (upd cf4 46 (cf 46)) 47 (cf 47)) (tf 6).toInt from (WrV.u (WrV.u hwr (by decide) (by decide)) (by decide) (by decide))), (show (cf4 33).toInt = (cf 33).toInt from by first | exact e9 | omega), (show (cf4 38).toInt = (cf 38).toInt from by first | exact e10 | omega), (show (cf4 48).toInt = (cf 48).toInt from by first | exact e11 | omega), (show (cf 46).toInt = (cf 46).toInt from rfl), (show (cf 47).toInt = (cf 47).toInt from rfl), (show Ann na ma0 ma3 from han), (show FrC lo hi ma ma3 from hfc), (show (1 : Int32) = 0 ∨ (1 : Int32) = 1 from by first | exact Or.inl rfl | exact Or.inr rfl | exact z_or (by omega)), (show (1 : Int) = 0 → 1 ≤ (cf4 30).toInt from by omega), (show R_mp_checkConstant tf ta na ca p0 ma cf ma3 (upd (upd cf4 46 (cf 46)) 47 (cf 47)) (1 : Int32) from (Or.inl ⟨ma3, cf4, e23X, Or.inl ⟨nc24, Or.inl ⟨nc26, Or.inr ⟨nc28, Or.inr ⟨nc30, rfl, rfl, rfl⟩⟩⟩⟩⟩))⟩) d_Mpg_checkConstant_109)
    · have nc26 : ¬ (cf4 46).toInt = (0 : Int) := mt (i_eq (x := (cf4 46)) (y := 0)).mpr c26
      refine lv_aload_n S.x S.b d_Mpg_checkConstant_65 rfl (lv_at hl 2 rfl) ?_
      refine lv_bipush (v := 7) S.x S.b d_Mpg_checkConstant_66 (by decide) ?_
      refine lv_aload_n S.x S.b d_Mpg_checkConstant_68 rfl (lv_at hl 2 rfl) ?_
      refine lv_iload_n S.x S.b d_Mpg_checkConstant_69 rfl (lv_at hl 3 rfl) ?_
      first | refine px_calli (pr := []) (px_runV (As := [.int p0]) (rest := [.int 7, .ref h]) S (c_mp_first l D cs h r g tf ta pf na ma3 wa cf4 ca ef ea xf xa p0  (show 0 ≤ p0.toInt from hrg.2.2) (show p0.toInt < (pf 13).toInt from (oz_7319c2f99d g1 hrg.2.1)) (show (pf 13).toInt ≤ 2100 from g2) htk (FsI.le (N' := (pf 13).toInt) hfs (by omega)) _) hT (pr := []) (pcs := [wdP cs h r g tf ta pf na ma3 wa cf4 ca ef ea xf xa]) hw px_X.tt (px_recv hT hw 0 0 rfl rfl rfl) m13_9 m13_6 m13_8 ms_12_15 m1_21 q_Mpg_first ⟨show 0 + 1 ≤ (4 * d + 18) from (oz_d2ef3304a1), show 8 + (2 + 11) + 0 ≤ (200 * d + 640) from (oz_3f084196b6)⟩ hl.1 rfl (Nat.le_of_ble_eq_true rfl) d_Mpg_checkConstant_70 ⟨Nat.le_of_ble_eq_true rfl, Nat.le_of_ble_eq_true rfl⟩) hw hA (fun v33 p32 H locs hp32 hw => ?_) | (refine px_calli (pr := []) (px_runV (As := [.int p0]) (rest := [.int 7, .ref h]) S (c_mp_first l D cs h r g tf ta pf na ma3 wa cf4 ca ef ea xf xa p0  (show 0 ≤ p0.toInt from by first | exact hrg.2.2 | omega) (show p0.toInt < (pf 13).toInt from by first | exact oz_7319c2f99d g1 hrg.2.1 | omega) (show (pf 13).toInt ≤ 2100 from by first | exact g2 | omega) htk (FsI.le (N' := (pf 13).toInt) hfs (by omega)) _) hT (pr := []) (pcs := [wdP cs h r g tf ta pf na ma3 wa cf4 ca ef ea xf xa]) hw px_X.tt (px_recv hT hw 0 0 rfl rfl rfl) m13_9 m13_6 m13_8 ms_12_15 m1_21 q_Mpg_first ⟨show 0 + 1 ≤ (4 * d + 18) from (by first | exact oz_d2ef3304a1 | omega), show 8 + (2 + 11) + 0 ≤ (200 * d + 640) from (by first | exact oz_3f084196b6 | omega)⟩ hl.1 rfl (Nat.le_of_ble_eq_true rfl) d_Mpg_checkConstant_70 ⟨Nat.le_of_ble_eq_true rfl, Nat.le_of_ble_eq_true rfl⟩) hw hA (fun v33 p32 H locs hp32 hw => ?_))
      obtain ⟨rfl, e34, e35, e36⟩ := hp32
      have e34 : 0 ≤ v33.toInt := e34
      have e35 : v33.toInt < (tf 6).toInt := e35
      have e36 : R_mp_first na p0 v33 := e36
      have lv33 := Int32.le_toInt v33
      have uv33 := Int32.toInt_lt v33
      first | refine px_callv (pr := []) (px_runV (As := [.int 7, .int v33]) (rest := []) S (c_mp_bad l D cs h r g tf ta pf na ma3 wa ca ef ea xf xa cf4 7 v33  (show 1 ≤ (7 : Int) from oz_04670674a7) (show 0 ≤ v33.toInt from e34) (show v33.toInt < (tf 6).toInt from e35) htk hwr _) hT (pr := []) (pcs := [wdP cs h r g tf ta pf na ma3 wa cf4 ca ef ea xf xa]) hw px_X.tt (px_recv hT hw 0 0 rfl rfl rfl) m12_173 m12_170 m12_172 ms_11_12 m1_21 q_Mpg_bad ⟨show 0 + 1 ≤ (4 * d + 18) from (oz_d2ef3304a1), show 8 + (3 + 11) + 0 ≤ (200 * d + 640) from (oz_0ea4eaa962)⟩ hl.1 rfl (Nat.le_of_ble_eq_true rfl) d_Mpg_checkConstant_73 ⟨Nat.le_of_ble_eq_true rfl, Nat.le_of_ble_eq_true rfl⟩) hw hA (fun p39 H locs hp39 hw => ?_) | (refine px_callv (pr := []) (px_runV (As := [.int 7, .int v33]) (rest := []) S (c_mp_bad l D cs h r g tf ta pf na ma3 wa ca ef ea xf xa cf4 7 v33  (show 1 ≤ (7 : Int) from by first | exact oz_04670674a7 | omega) (show 0 ≤ v33.toInt from by first | exact e34 | omega) (show v33.toInt < (tf 6).toInt from by first | exact e35 | omega) htk hwr _) hT (pr := []) (pcs := [wdP cs h r g tf ta pf na ma3 wa cf4 ca ef ea xf xa]) hw px_X.tt (px_recv hT hw 0 0 rfl rfl rfl) m12_173 m12_170 m12_172 ms_11_12 m1_21 q_Mpg_bad ⟨show 0 + 1 ≤ (4 * d + 18) from (by first | exact oz_d2ef3304a1 | omega), show 8 + (3 + 11) + 0 ≤ (200 * d + 640) from (by first | exact oz_0ea4eaa962 | omega)⟩ hl.1 rfl (Nat.le_of_ble_eq_true rfl) d_Mpg_checkConstant_73 ⟨Nat.le_of_ble_eq_true rfl, Nat.le_of_ble_eq_true rfl⟩) hw hA (fun p39 H locs hp39 hw => ?_))
      obtain ⟨cf38, rfl, e41, e42, e43, e44, e45, e46, e47, e48, e49, e50, e51, e52, e53, e54, e55, e56, e57, e58, e59, e60⟩ := hp39
      have e41 : KpE cf4 cf38 := e41
      have hke := (hke).tr e41
      have hkz_e41 := e41.2
      have e42 : WrV cf38 (tf 6).toInt := e42
      have hwr := e42
      have hw0_e42 := hwr.1
      have e43 : 1 ≤ (cf38 30).toInt := e43
      have e44 : (cf38 33).toInt = (cf4 33).toInt := e44
      have e45 : (cf38 38).toInt = (cf4 38).toInt := e45
      have e46 : (cf38 48).toInt = (cf4 48).toInt := e46
      have e47 : (cf38 46).toInt = (cf4 46).toInt := e47
      have e48 : (cf38 47).toInt = (cf4 47).toInt := e48
      have e49 : (cf38 57).toInt = (cf4 57).toInt := e49
      have e50 : (cf38 37).toInt = (cf4 37).toInt := e50
      have e51 : (cf38 42).toInt = (cf4 42).toInt := e51
      have e52 : (cf38 43).toInt = (cf4 43).toInt := e52
      have e53 : (cf38 44).toInt = (cf4 44).toInt := e53
      have e54 : (cf38 45).toInt = (cf4 45).toInt := e54
      have e55 : (cf38 54).toInt = (cf4 54).toInt := e55
      have e56 : (cf38 55).toInt = (cf4 55).toInt := e56
      have e57 : (cf38 58).toInt = (cf4 58).toInt := e57
      have e58 : (cf38 59).toInt = (cf4 59).toInt := e58
      have e59 : (cf38 41).toInt = (cf4 41).toInt := e59
      have e60 : R_mp_bad (7 : Int32) v33 cf4 cf38 := e60
      refine lv_aload_n S.x S.b d_Mpg_checkConstant_76 rfl (lv_at hl 2 rfl) ?_
      refine gP_46 (v := (cf38 46)) S hT hw 0 rfl rfl m10_37 d_Mpg_checkConstant_77 ?_
      refine lv_if_ne (tgt := 94) S.x S.b d_Mpg_checkConstant_80 (by decide) (fun c61 => ?_) (fun c61 => ?_)
      · have nc61 : ¬ (cf38 46).toInt = (0 : Int) := mt (i_eq (x := (cf38 46)) (y := 0)).mpr c61
        refine lv_iconst (v := 0) S.x S.b d_Mpg_checkConstant_94 (by decide) ?_
        refine lv_istore (lv' := [(4, .int 0), (3, .int (cf 47)), (2, .int (cf 46)), (0, .ref h), (1, .int p0)]) S.x S.b d_Mpg_checkConstant_95 hl (by decide) rfl (fun ls hl => ?_)
        refine lv_aload_n S.x S.b d_Mpg_checkConstant_97 rfl (lv_at hl 3 rfl) ?_
        refine lv_iload_n S.x S.b d_Mpg_checkConstant_98 rfl (lv_at hl 2 rfl) ?_
        refine pP_46 S hT hw 0 rfl m10_37 rfl (z_nar (by omega)) (z_fit (by omega)) d_Mpg_checkConstant_99 (ps' := [wdP cs h r g tf ta pf na ma3 wa (upd cf38 46 (cf 46)) ca ef ea xf xa]) rfl (fun H locs hw => ?_)
        refine lv_aload_n S.x S.b d_Mpg_checkConstant_102 rfl (lv_at hl 3 rfl) ?_
        refine lv_iload_n S.x S.b d_Mpg_checkConstant_103 rfl (lv_at hl 1 rfl) ?_
        refine pP_47 S hT hw 0 rfl m10_38 rfl (z_nar (by omega)) (z_fit (by omega)) d_Mpg_checkConstant_104 (ps' := [wdP cs h r g tf ta pf na ma3 wa (upd (upd cf38 46 (cf 46)) 47 (cf 47)) ca ef ea xf xa]) rfl (fun H locs hw => ?_)
        refine lv_iload S.x S.b d_Mpg_checkConstant_107 (lv_at hl 0 rfl) ?_
        first | exact px_iret (v := 0) S hr rfl hlk hAe hw (Nat.le_of_ble_eq_true rfl) (Nat.le_of_ble_eq_true rfl) (⟨ma3, (upd (upd cf38 46 (cf 46)) 47 (cf 47)), rfl, (show KpE cf (upd (upd cf38 46 (cf 46)) 47 (cf 47)) from (KpE.u47 (KpE.u46 hke))), (show WrV (upd (upd cf38 46 (cf 46)) 47 (cf 47)) (tf 6).toInt from (WrV.u (WrV.u hwr (by decide) (by decide)) (by decide) (by decide))), (show (cf38 33).toInt = (cf 33).toInt from (oz_1687f4cc65 e9 e44)), (show (cf38 38).toInt = (cf 38).toInt from (oz_1687f4cc65 e10 e45)), (show (cf38 48).toInt = (cf 48).toInt from (oz_1687f4cc65 e11 e46)), (show (cf 46).toInt = (cf 46).toInt from rfl), (show (cf 47).toInt = (cf 47).toInt from rfl), (show Ann na ma0 ma3 from han), (show FrC lo hi ma ma3 from hfc), (show (0 : Int32) = 0 ∨ (0 : Int32) = 1 from by first | exact Or.inl rfl | exact Or.inr rfl | exact z_or (by omega)), (show (0 : Int) = 0 → 1 ≤ (cf38 30).toInt from by omega), (show R_mp_checkConstant tf ta na ca p0 ma cf ma3 (upd (upd cf38 46 (cf 46)) 47 (cf 47)) (0 : Int32) from (Or.inl ⟨ma3, cf4, e23X, Or.inl ⟨nc24, Or.inr ⟨nc26, v33, e36, cf38, e60, Or.inl ⟨nc61, rfl, rfl, rfl⟩⟩⟩⟩))⟩) d_Mpg_checkConstant_109 | (exact px_iret (v := 0) S hr rfl hlk hAe hw (Nat.le_of_ble_eq_true rfl) (Nat.le_of_ble_eq_true rfl) (⟨ma3, (upd (upd cf38 46 (cf 46)) 47 (cf 47)), rfl, (show KpE cf (upd (upd cf38 46 (cf 46)) 47 (cf 47)) from (KpE.u47 (KpE.u46 hke))), (show WrV (upd (upd cf38 46 (cf 46)) 47 (cf 47)) (tf 6).toInt from (WrV.u (WrV.u hwr (by decide) (by decide)) (by decide) (by decide))), (show (cf38 33).toInt = (cf 33).toInt from by first | exact oz_1687f4cc65 e9 e44 | omega), (show (cf38 38).toInt = (cf 38).toInt from by first | exact oz_1687f4cc65 e10 e45 | omega), (show (cf38 48).toInt = (cf 48).toInt from by first | exact oz_1687f4cc65 e11 e46 | omega), (show (cf 46).toInt = (cf 46).toInt from rfl), (show (cf 47).toInt = (cf 47).toInt from rfl), (show Ann na ma0 ma3 from han), (show FrC lo hi ma ma3 from hfc), (show (0 : Int32) = 0 ∨ (0 : Int32) = 1 from by first | exact Or.inl rfl | exact Or.inr rfl | exact z_or (by omega)), (show (0 : Int) = 0 → 1 ≤ (cf38 30).toInt from by omega), (show R_mp_checkConstant tf ta na ca p0 ma cf ma3 (upd (upd cf38 46 (cf 46)) 47 (cf 47)) (0 : Int32) from (Or.inl ⟨ma3, cf4, e23X, Or.inl ⟨nc24, Or.inr ⟨nc26, v33, e36, cf38, e60, Or.inl ⟨nc61, rfl, rfl, rfl⟩⟩⟩⟩))⟩) d_Mpg_checkConstant_109)
      · have nc61 : (cf38 46).toInt = (0 : Int) := (i_eq (x := (cf38 46)) (y := 0)).mp c61
        refine lv_aload_n S.x S.b d_Mpg_checkConstant_83 rfl (lv_at hl 2 rfl) ?_
        refine gP_47 (v := (cf38 47)) S hT hw 0 rfl rfl m10_38 d_Mpg_checkConstant_84 ?_
        refine lv_if_ne (tgt := 94) S.x S.b d_Mpg_checkConstant_87 (by decide) (fun c63 => ?_) (fun c63 => ?_)
        · have nc63 : ¬ (cf38 47).toInt = (0 : Int) := mt (i_eq (x := (cf38 47)) (y := 0)).mpr c63
          refine lv_iconst (v := 0) S.x S.b d_Mpg_checkConstant_94 (by decide) ?_
          refine lv_istore (lv' := [(4, .int 0), (3, .int (cf 47)), (2, .int (cf 46)), (0, .ref h), (1, .int p0)]) S.x S.b d_Mpg_checkConstant_95 hl (by decide) rfl (fun ls hl => ?_)
          refine lv_aload_n S.x S.b d_Mpg_checkConstant_97 rfl (lv_at hl 3 rfl) ?_
          refine lv_iload_n S.x S.b d_Mpg_checkConstant_98 rfl (lv_at hl 2 rfl) ?_
          refine pP_46 S hT hw 0 rfl m10_37 rfl (z_nar (by omega)) (z_fit (by omega)) d_Mpg_checkConstant_99 (ps' := [wdP cs h r g tf ta pf na ma3 wa (upd cf38 46 (cf 46)) ca ef ea xf xa]) rfl (fun H locs hw => ?_)
          refine lv_aload_n S.x S.b d_Mpg_checkConstant_102 rfl (lv_at hl 3 rfl) ?_
          refine lv_iload_n S.x S.b d_Mpg_checkConstant_103 rfl (lv_at hl 1 rfl) ?_
          refine pP_47 S hT hw 0 rfl m10_38 rfl (z_nar (by omega)) (z_fit (by omega)) d_Mpg_checkConstant_104 (ps' := [wdP cs h r g tf ta pf na ma3 wa (upd (upd cf38 46 (cf 46)) 47 (cf 47)) ca ef ea xf xa]) rfl (fun H locs hw => ?_)
          refine lv_iload S.x S.b d_Mpg_checkConstant_107 (lv_at hl 0 rfl) ?_
          first | exact px_iret (v := 0) S hr rfl hlk hAe hw (Nat.le_of_ble_eq_true rfl) (Nat.le_of_ble_eq_true rfl) (⟨ma3, (upd (upd cf38 46 (cf 46)) 47 (cf 47)), rfl, (show KpE cf (upd (upd cf38 46 (cf 46)) 47 (cf 47)) from (KpE.u47 (KpE.u46 hke))), (show WrV (upd (upd cf38 46 (cf 46)) 47 (cf 47)) (tf 6).toInt from (WrV.u (WrV.u hwr (by decide) (by decide)) (by decide) (by decide))), (show (cf38 33).toInt = (cf 33).toInt from (oz_1687f4cc65 e9 e44)), (show (cf38 38).toInt = (cf 38).toInt from (oz_1687f4cc65 e10 e45)), (show (cf38 48).toInt = (cf 48).toInt from (oz_1687f4cc65 e11 e46)), (show (cf 46).toInt = (cf 46).toInt from rfl), (show (cf 47).toInt = (cf 47).toInt from rfl), (show Ann na ma0 ma3 from han), (show FrC lo hi ma ma3 from hfc), (show (0 : Int32) = 0 ∨ (0 : Int32) = 1 from by first | exact Or.inl rfl | exact Or.inr rfl | exact z_or (by omega)), (show (0 : Int) = 0 → 1 ≤ (cf38 30).toInt from by omega), (show R_mp_checkConstant tf ta na ca p0 ma cf ma3 (upd (upd cf38 46 (cf 46)) 47 (cf 47)) (0 : Int32) from (Or.inl ⟨ma3, cf4, e23X, Or.inl ⟨nc24, Or.inr ⟨nc26, v33, e36, cf38, e60, Or.inr ⟨nc61, Or.inl ⟨nc63, rfl, rfl, rfl⟩⟩⟩⟩⟩))⟩) d_Mpg_checkConstant_109 | (exact px_iret (v := 0) S hr rfl hlk hAe hw (Nat.le_of_ble_eq_true rfl) (Nat.le_of_ble_eq_true rfl) (⟨ma3, (upd (upd cf38 46 (cf 46)) 47 (cf 47)), rfl, (show KpE cf (upd (upd cf38 46 (cf 46)) 47 (cf 47)) from (KpE.u47 (KpE.u46 hke))), (show WrV (upd (upd cf38 46 (cf 46)) 47 (cf 47)) (tf 6).toInt from (WrV.u (WrV.u hwr (by decide) (by decide)) (by decide) (by decide))), (show (cf38 33).toInt = (cf 33).toInt from by first | exact oz_1687f4cc65 e9 e44 | omega), (show (cf38 38).toInt = (cf 38).toInt from by first | exact oz_1687f4cc65 e10 e45 | omega), (show (cf38 48).toInt = (cf 48).toInt from by first | exact oz_1687f4cc65 e11 e46 | omega), (show (cf 46).toInt = (cf 46).toInt from rfl), (show (cf 47).toInt = (cf 47).toInt from rfl), (show Ann na ma0 ma3 from han), (show FrC lo hi ma ma3 from hfc), (show (0 : Int32) = 0 ∨ (0 : Int32) = 1 from by first | exact Or.inl rfl | exact Or.inr rfl | exact z_or (by omega)), (show (0 : Int) = 0 → 1 ≤ (cf38 30).toInt from by omega), (show R_mp_checkConstant tf ta na ca p0 ma cf ma3 (upd (upd cf38 46 (cf 46)) 47 (cf 47)) (0 : Int32) from (Or.inl ⟨ma3, cf4, e23X, Or.inl ⟨nc24, Or.inr ⟨nc26, v33, e36, cf38, e60, Or.inr ⟨nc61, Or.inl ⟨nc63, rfl, rfl, rfl⟩⟩⟩⟩⟩))⟩) d_Mpg_checkConstant_109)
        · have nc63 : (cf38 47).toInt = (0 : Int) := (i_eq (x := (cf38 47)) (y := 0)).mp c63
          refine lv_iconst (v := 1) S.x S.b d_Mpg_checkConstant_90 (by decide) ?_
          refine lv_goto (tgt := 95) S.x S.b d_Mpg_checkConstant_91 (by decide) ?_
          refine lv_istore (lv' := [(4, .int 1), (3, .int (cf 47)), (2, .int (cf 46)), (0, .ref h), (1, .int p0)]) S.x S.b d_Mpg_checkConstant_95 hl (by decide) rfl (fun ls hl => ?_)
          refine lv_aload_n S.x S.b d_Mpg_checkConstant_97 rfl (lv_at hl 3 rfl) ?_
          refine lv_iload_n S.x S.b d_Mpg_checkConstant_98 rfl (lv_at hl 2 rfl) ?_
          refine pP_46 S hT hw 0 rfl m10_37 rfl (z_nar (by omega)) (z_fit (by omega)) d_Mpg_checkConstant_99 (ps' := [wdP cs h r g tf ta pf na ma3 wa (upd cf38 46 (cf 46)) ca ef ea xf xa]) rfl (fun H locs hw => ?_)
          refine lv_aload_n S.x S.b d_Mpg_checkConstant_102 rfl (lv_at hl 3 rfl) ?_
          refine lv_iload_n S.x S.b d_Mpg_checkConstant_103 rfl (lv_at hl 1 rfl) ?_
          refine pP_47 S hT hw 0 rfl m10_38 rfl (z_nar (by omega)) (z_fit (by omega)) d_Mpg_checkConstant_104 (ps' := [wdP cs h r g tf ta pf na ma3 wa (upd (upd cf38 46 (cf 46)) 47 (cf 47)) ca ef ea xf xa]) rfl (fun H locs hw => ?_)
          refine lv_iload S.x S.b d_Mpg_checkConstant_107 (lv_at hl 0 rfl) ?_
          first | exact px_iret (v := 1) S hr rfl hlk hAe hw (Nat.le_of_ble_eq_true rfl) (Nat.le_of_ble_eq_true rfl) (⟨ma3, (upd (upd cf38 46 (cf 46)) 47 (cf 47)), rfl, (show KpE cf (upd (upd cf38 46 (cf 46)) 47 (cf 47)) from (KpE.u47 (KpE.u46 hke))), (show WrV (upd (upd cf38 46 (cf 46)) 47 (cf 47)) (tf 6).toInt from (WrV.u (WrV.u hwr (by decide) (by decide)) (by decide) (by decide))), (show (cf38 33).toInt = (cf 33).toInt from (oz_1687f4cc65 e9 e44)), (show (cf38 38).toInt = (cf 38).toInt from (oz_1687f4cc65 e10 e45)), (show (cf38 48).toInt = (cf 48).toInt from (oz_1687f4cc65 e11 e46)), (show (cf 46).toInt = (cf 46).toInt from rfl), (show (cf 47).toInt = (cf 47).toInt from rfl), (show Ann na ma0 ma3 from han), (show FrC lo hi ma ma3 from hfc), (show (1 : Int32) = 0 ∨ (1 : Int32) = 1 from by first | exact Or.inl rfl | exact Or.inr rfl | exact z_or (by omega)), (show (1 : Int) = 0 → 1 ≤ (cf38 30).toInt from by omega), (show R_mp_checkConstant tf ta na ca p0 ma cf ma3 (upd (upd cf38 46 (cf 46)) 47 (cf 47)) (1 : Int32) from (Or.inl ⟨ma3, cf4, e23X, Or.inl ⟨nc24, Or.inr ⟨nc26, v33, e36, cf38, e60, Or.inr ⟨nc61, Or.inr ⟨nc63, rfl, rfl, rfl⟩⟩⟩⟩⟩))⟩) d_Mpg_checkConstant_109 | (exact px_iret (v := 1) S hr rfl hlk hAe hw (Nat.le_of_ble_eq_true rfl) (Nat.le_of_ble_eq_true rfl) (⟨ma3, (upd (upd cf38 46 (cf 46)) 47 (cf 47)), rfl, (show KpE cf (upd (upd cf38 46 (cf 46)) 47 (cf 47)) from (KpE.u47 (KpE.u46 hke))), (show WrV (upd (upd cf38 46 (cf 46)) 47 (cf 47)) (tf 6).toInt from (WrV.u (WrV.u hwr (by decide) (by decide)) (by decide) (by decide))), (show (cf38 33).toInt = (cf 33).toInt from by first | exact oz_1687f4cc65 e9 e44 | omega), (show (cf38 38).toInt = (cf 38).toInt from by first | exact oz_1687f4cc65 e10 e45 | omega), (show (cf38 48).toInt = (cf 48).toInt from by first | exact oz_1687f4cc65 e11 e46 | omega), (show (cf 46).toInt = (cf 46).toInt from rfl), (show (cf 47).toInt = (cf 47).toInt from rfl), (show Ann na ma0 ma3 from han), (show FrC lo hi ma ma3 from hfc), (show (1 : Int32) = 0 ∨ (1 : Int32) = 1 from by first | exact Or.inl rfl | exact Or.inr rfl | exact z_or (by omega)), (show (1 : Int) = 0 → 1 ≤ (cf38 30).toInt from by omega), (show R_mp_checkConstant tf ta na ca p0 ma cf ma3 (upd (upd cf38 46 (cf 46)) 47 (cf 47)) (1 : Int32) from (Or.inl ⟨ma3, cf4, e23X, Or.inl ⟨nc24, Or.inr ⟨nc26, v33, e36, cf38, e60, Or.inr ⟨nc61, Or.inr ⟨nc63, rfl, rfl, rfl⟩⟩⟩⟩⟩))⟩) d_Mpg_checkConstant_109)
  · have nc24 : (cf4 46).toInt = (0 : Int) := (i_eq (x := (cf4 46)) (y := 0)).mp c24
    refine lv_aload_n S.x S.b d_Mpg_checkConstant_32 rfl (lv_at hl 2 rfl) ?_
    refine gP_47 (v := (cf4 47)) S hT hw 0 rfl rfl m10_38 d_Mpg_checkConstant_33 ?_
    refine lv_if_ne (tgt := 58) S.x S.b d_Mpg_checkConstant_36 (by decide) (fun c65 => ?_) (fun c65 => ?_)
    · have nc65 : ¬ (cf4 47).toInt = (0 : Int) := mt (i_eq (x := (cf4 47)) (y := 0)).mpr c65
      refine lv_aload_n S.x S.b d_Mpg_checkConstant_58 rfl (lv_at hl 2 rfl) ?_
      refine gP_46 (v := (cf4 46)) S hT hw 0 rfl rfl m10_37 d_Mpg_checkConstant_59 ?_
      refine lv_if_eq (tgt := 76) S.x S.b d_Mpg_checkConstant_62 (by decide) (fun c67 => ?_) (fun c67 => ?_)
      · have nc67 : (cf4 46).toInt = (0 : Int) := (i_eq (x := (cf4 46)) (y := 0)).mp c67
        refine lv_aload_n S.x S.b d_Mpg_checkConstant_76 rfl (lv_at hl 2 rfl) ?_
        refine gP_46 (v := (cf4 46)) S hT hw 0 rfl rfl m10_37 d_Mpg_checkConstant_77 ?_
        refine lv_if_ne (tgt := 94) S.x S.b d_Mpg_checkConstant_80 (by decide) (fun c69 => ?_) (fun c69 => ?_)
        · have nc69 : ¬ (cf4 46).toInt = (0 : Int) := mt (i_eq (x := (cf4 46)) (y := 0)).mpr c69
          refine lv_iconst (v := 0) S.x S.b d_Mpg_checkConstant_94 (by decide) ?_
          refine lv_istore (lv' := [(4, .int 0), (3, .int (cf 47)), (2, .int (cf 46)), (0, .ref h), (1, .int p0)]) S.x S.b d_Mpg_checkConstant_95 hl (by decide) rfl (fun ls hl => ?_)
          refine lv_aload_n S.x S.b d_Mpg_checkConstant_97 rfl (lv_at hl 3 rfl) ?_
          refine lv_iload_n S.x S.b d_Mpg_checkConstant_98 rfl (lv_at hl 2 rfl) ?_
          refine pP_46 S hT hw 0 rfl m10_37 rfl (z_nar (by omega)) (z_fit (by omega)) d_Mpg_checkConstant_99 (ps' := [wdP cs h r g tf ta pf na ma3 wa (upd cf4 46 (cf 46)) ca ef ea xf xa]) rfl (fun H locs hw => ?_)
          refine lv_aload_n S.x S.b d_Mpg_checkConstant_102 rfl (lv_at hl 3 rfl) ?_
          refine lv_iload_n S.x S.b d_Mpg_checkConstant_103 rfl (lv_at hl 1 rfl) ?_
          refine pP_47 S hT hw 0 rfl m10_38 rfl (z_nar (by omega)) (z_fit (by omega)) d_Mpg_checkConstant_104 (ps' := [wdP cs h r g tf ta pf na ma3 wa (upd (upd cf4 46 (cf 46)) 47 (cf 47)) ca ef ea xf xa]) rfl (fun H locs hw => ?_)
          refine lv_iload S.x S.b d_Mpg_checkConstant_107 (lv_at hl 0 rfl) ?_
          first | exact px_iret (v := 0) S hr rfl hlk hAe hw (Nat.le_of_ble_eq_true rfl) (Nat.le_of_ble_eq_true rfl) (⟨ma3, (upd (upd cf4 46 (cf 46)) 47 (cf 47)), rfl, (show KpE cf (upd (upd cf4 46 (cf 46)) 47 (cf 47)) from (KpE.u47 (KpE.u46 hke))), (show WrV (upd (upd cf4 46 (cf 46)) 47 (cf 47)) (tf 6).toInt from (WrV.u (WrV.u hwr (by decide) (by decide)) (by decide) (by decide))), (show (cf4 33).toInt = (cf 33).toInt from e9), (show (cf4 38).toInt = (cf 38).toInt from e10), (show (cf4 48).toInt = (cf 48).toInt from e11), (show (cf 46).toInt = (cf 46).toInt from rfl), (show (cf 47).toInt = (cf 47).toInt from rfl), (show Ann na ma0 ma3 from han), (show FrC lo hi ma ma3 from hfc), (show (0 : Int32) = 0 ∨ (0 : Int32) = 1 from by first | exact Or.inl rfl | exact Or.inr rfl | exact z_or (by omega)), (show (0 : Int) = 0 → 1 ≤ (cf4 30).toInt from by omega), (show R_mp_checkConstant tf ta na ca p0 ma cf ma3 (upd (upd cf4 46 (cf 46)) 47 (cf 47)) (0 : Int32) from (Or.inl ⟨ma3, cf4, e23X, Or.inr ⟨nc24, Or.inl ⟨nc65, Or.inl ⟨nc67, Or.inl ⟨nc69, rfl, rfl, rfl⟩⟩⟩⟩⟩))⟩) d_Mpg_checkConstant_109 | (exact px_iret (v := 0) S hr rfl hlk hAe hw (Nat.le_of_ble_eq_true rfl) (Nat.le_of_ble_eq_true rfl) (⟨ma3, (upd (upd cf4 46 (cf 46)) 47 (cf 47)), rfl, (show KpE cf (upd (upd cf4 46 (cf 46)) 47 (cf 47)) from (KpE.u47 (KpE.u46 hke))), (show WrV (upd (upd cf4 46 (cf 46)) 47 (cf 47)) (tf 6).toInt from (WrV.u (WrV.u hwr (by decide) (by decide)) (by decide) (by decide))), (show (cf4 33).toInt = (cf 33).toInt from by first | exact e9 | omega), (show (cf4 38).toInt = (cf 38).toInt from by first | exact e10 | omega), (show (cf4 48).toInt = (cf 48).toInt from by first | exact e11 | omega), (show (cf 46).toInt = (cf 46).toInt from rfl), (show (cf 47).toInt = (cf 47).toInt from rfl), (show Ann na ma0 ma3 from han), (show FrC lo hi ma ma3 from hfc), (show (0 : Int32) = 0 ∨ (0 : Int32) = 1 from by first | exact Or.inl rfl | exact Or.inr rfl | exact z_or (by omega)), (show (0 : Int) = 0 → 1 ≤ (cf4 30).toInt from by omega), (show R_mp_checkConstant tf ta na ca p0 ma cf ma3 (upd (upd cf4 46 (cf 46)) 47 (cf 47)) (0 : Int32) from (Or.inl ⟨ma3, cf4, e23X, Or.inr ⟨nc24, Or.inl ⟨nc65, Or.inl ⟨nc67, Or.inl ⟨nc69, rfl, rfl, rfl⟩⟩⟩⟩⟩))⟩) d_Mpg_checkConstant_109)
        · have nc69 : (cf4 46).toInt = (0 : Int) := (i_eq (x := (cf4 46)) (y := 0)).mp c69
          refine lv_aload_n S.x S.b d_Mpg_checkConstant_83 rfl (lv_at hl 2 rfl) ?_
          refine gP_47 (v := (cf4 47)) S hT hw 0 rfl rfl m10_38 d_Mpg_checkConstant_84 ?_
          refine lv_if_ne (tgt := 94) S.x S.b d_Mpg_checkConstant_87 (by decide) (fun c71 => ?_) (fun c71 => ?_)
          · have nc71 : ¬ (cf4 47).toInt = (0 : Int) := mt (i_eq (x := (cf4 47)) (y := 0)).mpr c71
            refine lv_iconst (v := 0) S.x S.b d_Mpg_checkConstant_94 (by decide) ?_
            refine lv_istore (lv' := [(4, .int 0), (3, .int (cf 47)), (2, .int (cf 46)), (0, .ref h), (1, .int p0)]) S.x S.b d_Mpg_checkConstant_95 hl (by decide) rfl (fun ls hl => ?_)
            refine lv_aload_n S.x S.b d_Mpg_checkConstant_97 rfl (lv_at hl 3 rfl) ?_
            refine lv_iload_n S.x S.b d_Mpg_checkConstant_98 rfl (lv_at hl 2 rfl) ?_
            refine pP_46 S hT hw 0 rfl m10_37 rfl (z_nar (by omega)) (z_fit (by omega)) d_Mpg_checkConstant_99 (ps' := [wdP cs h r g tf ta pf na ma3 wa (upd cf4 46 (cf 46)) ca ef ea xf xa]) rfl (fun H locs hw => ?_)
            refine lv_aload_n S.x S.b d_Mpg_checkConstant_102 rfl (lv_at hl 3 rfl) ?_
            refine lv_iload_n S.x S.b d_Mpg_checkConstant_103 rfl (lv_at hl 1 rfl) ?_
            refine pP_47 S hT hw 0 rfl m10_38 rfl (z_nar (by omega)) (z_fit (by omega)) d_Mpg_checkConstant_104 (ps' := [wdP cs h r g tf ta pf na ma3 wa (upd (upd cf4 46 (cf 46)) 47 (cf 47)) ca ef ea xf xa]) rfl (fun H locs hw => ?_)
            refine lv_iload S.x S.b d_Mpg_checkConstant_107 (lv_at hl 0 rfl) ?_
            first | exact px_iret (v := 0) S hr rfl hlk hAe hw (Nat.le_of_ble_eq_true rfl) (Nat.le_of_ble_eq_true rfl) (⟨ma3, (upd (upd cf4 46 (cf 46)) 47 (cf 47)), rfl, (show KpE cf (upd (upd cf4 46 (cf 46)) 47 (cf 47)) from (KpE.u47 (KpE.u46 hke))), (show WrV (upd (upd cf4 46 (cf 46)) 47 (cf 47)) (tf 6).toInt from (WrV.u (WrV.u hwr (by decide) (by decide)) (by decide) (by decide))), (show (cf4 33).toInt = (cf 33).toInt from e9), (show (cf4 38).toInt = (cf 38).toInt from e10), (show (cf4 48).toInt = (cf 48).toInt from e11), (show (cf 46).toInt = (cf 46).toInt from rfl), (show (cf 47).toInt = (cf 47).toInt from rfl), (show Ann na ma0 ma3 from han), (show FrC lo hi ma ma3 from hfc), (show (0 : Int32) = 0 ∨ (0 : Int32) = 1 from by first | exact Or.inl rfl | exact Or.inr rfl | exact z_or (by omega)), (show (0 : Int) = 0 → 1 ≤ (cf4 30).toInt from by omega), (show R_mp_checkConstant tf ta na ca p0 ma cf ma3 (upd (upd cf4 46 (cf 46)) 47 (cf 47)) (0 : Int32) from (Or.inl ⟨ma3, cf4, e23X, Or.inr ⟨nc24, Or.inl ⟨nc65, Or.inl ⟨nc67, Or.inr ⟨nc69, Or.inl ⟨nc71, rfl, rfl, rfl⟩⟩⟩⟩⟩⟩))⟩) d_Mpg_checkConstant_109 | (exact px_iret (v := 0) S hr rfl hlk hAe hw (Nat.le_of_ble_eq_true rfl) (Nat.le_of_ble_eq_true rfl) (⟨ma3, (upd (upd cf4 46 (cf 46)) 47 (cf 47)), rfl, (show KpE cf (upd (upd cf4 46 (cf 46)) 47 (cf 47)) from (KpE.u47 (KpE.u46 hke))), (show WrV (upd (upd cf4 46 (cf 46)) 47 (cf 47)) (tf 6).toInt from (WrV.u (WrV.u hwr (by decide) (by decide)) (by decide) (by decide))), (show (cf4 33).toInt = (cf 33).toInt from by first | exact e9 | omega), (show (cf4 38).toInt = (cf 38).toInt from by first | exact e10 | omega), (show (cf4 48).toInt = (cf 48).toInt from by first | exact e11 | omega), (show (cf 46).toInt = (cf 46).toInt from rfl), (show (cf 47).toInt = (cf 47).toInt from rfl), (show Ann na ma0 ma3 from han), (show FrC lo hi ma ma3 from hfc), (show (0 : Int32) = 0 ∨ (0 : Int32) = 1 from by first | exact Or.inl rfl | exact Or.inr rfl | exact z_or (by omega)), (show (0 : Int) = 0 → 1 ≤ (cf4 30).toInt from by omega), (show R_mp_checkConstant tf ta na ca p0 ma cf ma3 (upd (upd cf4 46 (cf 46)) 47 (cf 47)) (0 : Int32) from (Or.inl ⟨ma3, cf4, e23X, Or.inr ⟨nc24, Or.inl ⟨nc65, Or.inl ⟨nc67, Or.inr ⟨nc69, Or.inl ⟨nc71, rfl, rfl, rfl⟩⟩⟩⟩⟩⟩))⟩) d_Mpg_checkConstant_109)
          · have nc71 : (cf4 47).toInt = (0 : Int) := (i_eq (x := (cf4 47)) (y := 0)).mp c71
            refine lv_iconst (v := 1) S.x S.b d_Mpg_checkConstant_90 (by decide) ?_
            refine lv_goto (tgt := 95) S.x S.b d_Mpg_checkConstant_91 (by decide) ?_
            refine lv_istore (lv' := [(4, .int 1), (3, .int (cf 47)), (2, .int (cf 46)), (0, .ref h), (1, .int p0)]) S.x S.b d_Mpg_checkConstant_95 hl (by decide) rfl (fun ls hl => ?_)
            refine lv_aload_n S.x S.b d_Mpg_checkConstant_97 rfl (lv_at hl 3 rfl) ?_
            refine lv_iload_n S.x S.b d_Mpg_checkConstant_98 rfl (lv_at hl 2 rfl) ?_
            refine pP_46 S hT hw 0 rfl m10_37 rfl (z_nar (by omega)) (z_fit (by omega)) d_Mpg_checkConstant_99 (ps' := [wdP cs h r g tf ta pf na ma3 wa (upd cf4 46 (cf 46)) ca ef ea xf xa]) rfl (fun H locs hw => ?_)
            refine lv_aload_n S.x S.b d_Mpg_checkConstant_102 rfl (lv_at hl 3 rfl) ?_
            refine lv_iload_n S.x S.b d_Mpg_checkConstant_103 rfl (lv_at hl 1 rfl) ?_
            refine pP_47 S hT hw 0 rfl m10_38 rfl (z_nar (by omega)) (z_fit (by omega)) d_Mpg_checkConstant_104 (ps' := [wdP cs h r g tf ta pf na ma3 wa (upd (upd cf4 46 (cf 46)) 47 (cf 47)) ca ef ea xf xa]) rfl (fun H locs hw => ?_)
            refine lv_iload S.x S.b d_Mpg_checkConstant_107 (lv_at hl 0 rfl) ?_
            first | exact px_iret (v := 1) S hr rfl hlk hAe hw (Nat.le_of_ble_eq_true rfl) (Nat.le_of_ble_eq_true rfl) (⟨ma3, (upd (upd cf4 46 (cf 46)) 47 (cf 47)), rfl, (show KpE cf (upd (upd cf4 46 (cf 46)) 47 (cf 47)) from (KpE.u47 (KpE.u46 hke))), (show WrV (upd (upd cf4 46 (cf 46)) 47 (cf 47)) (tf 6).toInt from (WrV.u (WrV.u hwr (by decide) (by decide)) (by decide) (by decide))), (show (cf4 33).toInt = (cf 33).toInt from e9), (show (cf4 38).toInt = (cf 38).toInt from e10), (show (cf4 48).toInt = (cf 48).toInt from e11), (show (cf 46).toInt = (cf 46).toInt from rfl), (show (cf 47).toInt = (cf 47).toInt from rfl), (show Ann na ma0 ma3 from han), (show FrC lo hi ma ma3 from hfc), (show (1 : Int32) = 0 ∨ (1 : Int32) = 1 from by first | exact Or.inl rfl | exact Or.inr rfl | exact z_or (by omega)), (show (1 : Int) = 0 → 1 ≤ (cf4 30).toInt from by omega), (show R_mp_checkConstant tf ta na ca p0 ma cf ma3 (upd (upd cf4 46 (cf 46)) 47 (cf 47)) (1 : Int32) from (Or.inl ⟨ma3, cf4, e23X, Or.inr ⟨nc24, Or.inl ⟨nc65, Or.inl ⟨nc67, Or.inr ⟨nc69, Or.inr ⟨nc71, rfl, rfl, rfl⟩⟩⟩⟩⟩⟩))⟩) d_Mpg_checkConstant_109 | (exact px_iret (v := 1) S hr rfl hlk hAe hw (Nat.le_of_ble_eq_true rfl) (Nat.le_of_ble_eq_true rfl) (⟨ma3, (upd (upd cf4 46 (cf 46)) 47 (cf 47)), rfl, (show KpE cf (upd (upd cf4 46 (cf 46)) 47 (cf 47)) from (KpE.u47 (KpE.u46 hke))), (show WrV (upd (upd cf4 46 (cf 46)) 47 (cf 47)) (tf 6).toInt from (WrV.u (WrV.u hwr (by decide) (by decide)) (by decide) (by decide))), (show (cf4 33).toInt = (cf 33).toInt from by first | exact e9 | omega), (show (cf4 38).toInt = (cf 38).toInt from by first | exact e10 | omega), (show (cf4 48).toInt = (cf 48).toInt from by first | exact e11 | omega), (show (cf 46).toInt = (cf 46).toInt from rfl), (show (cf 47).toInt = (cf 47).toInt from rfl), (show Ann na ma0 ma3 from han), (show FrC lo hi ma ma3 from hfc), (show (1 : Int32) = 0 ∨ (1 : Int32) = 1 from by first | exact Or.inl rfl | exact Or.inr rfl | exact z_or (by omega)), (show (1 : Int) = 0 → 1 ≤ (cf4 30).toInt from by omega), (show R_mp_checkConstant tf ta na ca p0 ma cf ma3 (upd (upd cf4 46 (cf 46)) 47 (cf 47)) (1 : Int32) from (Or.inl ⟨ma3, cf4, e23X, Or.inr ⟨nc24, Or.inl ⟨nc65, Or.inl ⟨nc67, Or.inr ⟨nc69, Or.inr ⟨nc71, rfl, rfl, rfl⟩⟩⟩⟩⟩⟩))⟩) d_Mpg_checkConstant_109)
      · have nc67 : ¬ (cf4 46).toInt = (0 : Int) := mt (i_eq (x := (cf4 46)) (y := 0)).mpr c67
        refine lv_aload_n S.x S.b d_Mpg_checkConstant_65 rfl (lv_at hl 2 rfl) ?_
        refine lv_bipush (v := 7) S.x S.b d_Mpg_checkConstant_66 (by decide) ?_
        refine lv_aload_n S.x S.b d_Mpg_checkConstant_68 rfl (lv_at hl 2 rfl) ?_
        refine lv_iload_n S.x S.b d_Mpg_checkConstant_69 rfl (lv_at hl 3 rfl) ?_
        first | refine px_calli (pr := []) (px_runV (As := [.int p0]) (rest := [.int 7, .ref h]) S (c_mp_first l D cs h r g tf ta pf na ma3 wa cf4 ca ef ea xf xa p0  (show 0 ≤ p0.toInt from hrg.2.2) (show p0.toInt < (pf 13).toInt from (oz_7319c2f99d g1 hrg.2.1)) (show (pf 13).toInt ≤ 2100 from g2) htk (FsI.le (N' := (pf 13).toInt) hfs (by omega)) _) hT (pr := []) (pcs := [wdP cs h r g tf ta pf na ma3 wa cf4 ca ef ea xf xa]) hw px_X.tt (px_recv hT hw 0 0 rfl rfl rfl) m13_9 m13_6 m13_8 ms_12_15 m1_21 q_Mpg_first ⟨show 0 + 1 ≤ (4 * d + 18) from (oz_d2ef3304a1), show 8 + (2 + 11) + 0 ≤ (200 * d + 640) from (oz_3f084196b6)⟩ hl.1 rfl (Nat.le_of_ble_eq_true rfl) d_Mpg_checkConstant_70 ⟨Nat.le_of_ble_eq_true rfl, Nat.le_of_ble_eq_true rfl⟩) hw hA (fun v74 p73 H locs hp73 hw => ?_) | (refine px_calli (pr := []) (px_runV (As := [.int p0]) (rest := [.int 7, .ref h]) S (c_mp_first l D cs h r g tf ta pf na ma3 wa cf4 ca ef ea xf xa p0  (show 0 ≤ p0.toInt from by first | exact hrg.2.2 | omega) (show p0.toInt < (pf 13).toInt from by first | exact oz_7319c2f99d g1 hrg.2.1 | omega) (show (pf 13).toInt ≤ 2100 from by first | exact g2 | omega) htk (FsI.le (N' := (pf 13).toInt) hfs (by omega)) _) hT (pr := []) (pcs := [wdP cs h r g tf ta pf na ma3 wa cf4 ca ef ea xf xa]) hw px_X.tt (px_recv hT hw 0 0 rfl rfl rfl) m13_9 m13_6 m13_8 ms_12_15 m1_21 q_Mpg_first ⟨show 0 + 1 ≤ (4 * d + 18) from (by first | exact oz_d2ef3304a1 | omega), show 8 + (2 + 11) + 0 ≤ (200 * d + 640) from (by first | exact oz_3f084196b6 | omega)⟩ hl.1 rfl (Nat.le_of_ble_eq_true rfl) d_Mpg_checkConstant_70 ⟨Nat.le_of_ble_eq_true rfl, Nat.le_of_ble_eq_true rfl⟩) hw hA (fun v74 p73 H locs hp73 hw => ?_))
        obtain ⟨rfl, e75, e76, e77⟩ := hp73
        have e75 : 0 ≤ v74.toInt := e75
        have e76 : v74.toInt < (tf 6).toInt := e76
        have e77 : R_mp_first na p0 v74 := e77
        have lv74 := Int32.le_toInt v74
        have uv74 := Int32.toInt_lt v74
        first | refine px_callv (pr := []) (px_runV (As := [.int 7, .int v74]) (rest := []) S (c_mp_bad l D cs h r g tf ta pf na ma3 wa ca ef ea xf xa cf4 7 v74  (show 1 ≤ (7 : Int) from oz_04670674a7) (show 0 ≤ v74.toInt from e75) (show v74.toInt < (tf 6).toInt from e76) htk hwr _) hT (pr := []) (pcs := [wdP cs h r g tf ta pf na ma3 wa cf4 ca ef ea xf xa]) hw px_X.tt (px_recv hT hw 0 0 rfl rfl rfl) m12_173 m12_170 m12_172 ms_11_12 m1_21 q_Mpg_bad ⟨show 0 + 1 ≤ (4 * d + 18) from (oz_d2ef3304a1), show 8 + (3 + 11) + 0 ≤ (200 * d + 640) from (oz_0ea4eaa962)⟩ hl.1 rfl (Nat.le_of_ble_eq_true rfl) d_Mpg_checkConstant_73 ⟨Nat.le_of_ble_eq_true rfl, Nat.le_of_ble_eq_true rfl⟩) hw hA (fun p80 H locs hp80 hw => ?_) | (refine px_callv (pr := []) (px_runV (As := [.int 7, .int v74]) (rest := []) S (c_mp_bad l D cs h r g tf ta pf na ma3 wa ca ef ea xf xa cf4 7 v74  (show 1 ≤ (7 : Int) from by first | exact oz_04670674a7 | omega) (show 0 ≤ v74.toInt from by first | exact e75 | omega) (show v74.toInt < (tf 6).toInt from by first | exact e76 | omega) htk hwr _) hT (pr := []) (pcs := [wdP cs h r g tf ta pf na ma3 wa cf4 ca ef ea xf xa]) hw px_X.tt (px_recv hT hw 0 0 rfl rfl rfl) m12_173 m12_170 m12_172 ms_11_12 m1_21 q_Mpg_bad ⟨show 0 + 1 ≤ (4 * d + 18) from (by first | exact oz_d2ef3304a1 | omega), show 8 + (3 + 11) + 0 ≤ (200 * d + 640) from (by first | exact oz_0ea4eaa962 | omega)⟩ hl.1 rfl (Nat.le_of_ble_eq_true rfl) d_Mpg_checkConstant_73 ⟨Nat.le_of_ble_eq_true rfl, Nat.le_of_ble_eq_true rfl⟩) hw hA (fun p80 H locs hp80 hw => ?_))
        obtain ⟨cf79, rfl, e82, e83, e84, e85, e86, e87, e88, e89, e90, e91, e92, e93, e94, e95, e96, e97, e98, e99, e100, e101⟩ := hp80
        have e82 : KpE cf4 cf79 := e82
        have hke := (hke).tr e82
        have hkz_e82 := e82.2
        have e83 : WrV cf79 (tf 6).toInt := e83
        have hwr := e83
        have hw0_e83 := hwr.1
        have e84 : 1 ≤ (cf79 30).toInt := e84
        have e85 : (cf79 33).toInt = (cf4 33).toInt := e85
        have e86 : (cf79 38).toInt = (cf4 38).toInt := e86
        have e87 : (cf79 48).toInt = (cf4 48).toInt := e87
        have e88 : (cf79 46).toInt = (cf4 46).toInt := e88
        have e89 : (cf79 47).toInt = (cf4 47).toInt := e89
        have e90 : (cf79 57).toInt = (cf4 57).toInt := e90
        have e91 : (cf79 37).toInt = (cf4 37).toInt := e91
        have e92 : (cf79 42).toInt = (cf4 42).toInt := e92
        have e93 : (cf79 43).toInt = (cf4 43).toInt := e93
        have e94 : (cf79 44).toInt = (cf4 44).toInt := e94
        have e95 : (cf79 45).toInt = (cf4 45).toInt := e95
        have e96 : (cf79 54).toInt = (cf4 54).toInt := e96
        have e97 : (cf79 55).toInt = (cf4 55).toInt := e97
        have e98 : (cf79 58).toInt = (cf4 58).toInt := e98
        have e99 : (cf79 59).toInt = (cf4 59).toInt := e99
        have e100 : (cf79 41).toInt = (cf4 41).toInt := e100
        have e101 : R_mp_bad (7 : Int32) v74 cf4 cf79 := e101
        refine lv_aload_n S.x S.b d_Mpg_checkConstant_76 rfl (lv_at hl 2 rfl) ?_
        refine gP_46 (v := (cf79 46)) S hT hw 0 rfl rfl m10_37 d_Mpg_checkConstant_77 ?_
        refine lv_if_ne (tgt := 94) S.x S.b d_Mpg_checkConstant_80 (by decide) (fun c102 => ?_) (fun c102 => ?_)
        · have nc102 : ¬ (cf79 46).toInt = (0 : Int) := mt (i_eq (x := (cf79 46)) (y := 0)).mpr c102
          refine lv_iconst (v := 0) S.x S.b d_Mpg_checkConstant_94 (by decide) ?_
          refine lv_istore (lv' := [(4, .int 0), (3, .int (cf 47)), (2, .int (cf 46)), (0, .ref h), (1, .int p0)]) S.x S.b d_Mpg_checkConstant_95 hl (by decide) rfl (fun ls hl => ?_)
          refine lv_aload_n S.x S.b d_Mpg_checkConstant_97 rfl (lv_at hl 3 rfl) ?_
          refine lv_iload_n S.x S.b d_Mpg_checkConstant_98 rfl (lv_at hl 2 rfl) ?_
          refine pP_46 S hT hw 0 rfl m10_37 rfl (z_nar (by omega)) (z_fit (by omega)) d_Mpg_checkConstant_99 (ps' := [wdP cs h r g tf ta pf na ma3 wa (upd cf79 46 (cf 46)) ca ef ea xf xa]) rfl (fun H locs hw => ?_)
          refine lv_aload_n S.x S.b d_Mpg_checkConstant_102 rfl (lv_at hl 3 rfl) ?_
          refine lv_iload_n S.x S.b d_Mpg_checkConstant_103 rfl (lv_at hl 1 rfl) ?_
          refine pP_47 S hT hw 0 rfl m10_38 rfl (z_nar (by omega)) (z_fit (by omega)) d_Mpg_checkConstant_104 (ps' := [wdP cs h r g tf ta pf na ma3 wa (upd (upd cf79 46 (cf 46)) 47 (cf 47)) ca ef ea xf xa]) rfl (fun H locs hw => ?_)
          refine lv_iload S.x S.b d_Mpg_checkConstant_107 (lv_at hl 0 rfl) ?_
          first | exact px_iret (v := 0) S hr rfl hlk hAe hw (Nat.le_of_ble_eq_true rfl) (Nat.le_of_ble_eq_true rfl) (⟨ma3, (upd (upd cf79 46 (cf 46)) 47 (cf 47)), rfl, (show KpE cf (upd (upd cf79 46 (cf 46)) 47 (cf 47)) from (KpE.u47 (KpE.u46 hke))), (show WrV (upd (upd cf79 46 (cf 46)) 47 (cf 47)) (tf 6).toInt from (WrV.u (WrV.u hwr (by decide) (by decide)) (by decide) (by decide))), (show (cf79 33).toInt = (cf 33).toInt from (oz_1687f4cc65 e9 e85)), (show (cf79 38).toInt = (cf 38).toInt from (oz_1687f4cc65 e10 e86)), (show (cf79 48).toInt = (cf 48).toInt from (oz_1687f4cc65 e11 e87)), (show (cf 46).toInt = (cf 46).toInt from rfl), (show (cf 47).toInt = (cf 47).toInt from rfl), (show Ann na ma0 ma3 from han), (show FrC lo hi ma ma3 from hfc), (show (0 : Int32) = 0 ∨ (0 : Int32) = 1 from by first | exact Or.inl rfl | exact Or.inr rfl | exact z_or (by omega)), (show (0 : Int) = 0 → 1 ≤ (cf79 30).toInt from by omega), (show R_mp_checkConstant tf ta na ca p0 ma cf ma3 (upd (upd cf79 46 (cf 46)) 47 (cf 47)) (0 : Int32) from (Or.inl ⟨ma3, cf4, e23X, Or.inr ⟨nc24, Or.inl ⟨nc65, Or.inr ⟨nc67, v74, e77, cf79, e101, Or.inl ⟨nc102, rfl, rfl, rfl⟩⟩⟩⟩⟩))⟩) d_Mpg_checkConstant_109 | (exact px_iret (v := 0) S hr rfl hlk hAe hw (Nat.le_of_ble_eq_true rfl) (Nat.le_of_ble_eq_true rfl) (⟨ma3, (upd (upd cf79 46 (cf 46)) 47 (cf 47)), rfl, (show KpE cf (upd (upd cf79 46 (cf 46)) 47 (cf 47)) from (KpE.u47 (KpE.u46 hke))), (show WrV (upd (upd cf79 46 (cf 46)) 47 (cf 47)) (tf 6).toInt from (WrV.u (WrV.u hwr (by decide) (by decide)) (by decide) (by decide))), (show (cf79 33).toInt = (cf 33).toInt from by first | exact oz_1687f4cc65 e9 e85 | omega), (show (cf79 38).toInt = (cf 38).toInt from by first | exact oz_1687f4cc65 e10 e86 | omega), (show (cf79 48).toInt = (cf 48).toInt from by first | exact oz_1687f4cc65 e11 e87 | omega), (show (cf 46).toInt = (cf 46).toInt from rfl), (show (cf 47).toInt = (cf 47).toInt from rfl), (show Ann na ma0 ma3 from han), (show FrC lo hi ma ma3 from hfc), (show (0 : Int32) = 0 ∨ (0 : Int32) = 1 from by first | exact Or.inl rfl | exact Or.inr rfl | exact z_or (by omega)), (show (0 : Int) = 0 → 1 ≤ (cf79 30).toInt from by omega), (show R_mp_checkConstant tf ta na ca p0 ma cf ma3 (upd (upd cf79 46 (cf 46)) 47 (cf 47)) (0 : Int32) from (Or.inl ⟨ma3, cf4, e23X, Or.inr ⟨nc24, Or.inl ⟨nc65, Or.inr ⟨nc67, v74, e77, cf79, e101, Or.inl ⟨nc102, rfl, rfl, rfl⟩⟩⟩⟩⟩))⟩) d_Mpg_checkConstant_109)
        · have nc102 : (cf79 46).toInt = (0 : Int) := (i_eq (x := (cf79 46)) (y := 0)).mp c102
          refine lv_aload_n S.x S.b d_Mpg_checkConstant_83 rfl (lv_at hl 2 rfl) ?_
          refine gP_47 (v := (cf79 47)) S hT hw 0 rfl rfl m10_38 d_Mpg_checkConstant_84 ?_
          refine lv_if_ne (tgt := 94) S.x S.b d_Mpg_checkConstant_87 (by decide) (fun c104 => ?_) (fun c104 => ?_)
          · have nc104 : ¬ (cf79 47).toInt = (0 : Int) := mt (i_eq (x := (cf79 47)) (y := 0)).mpr c104
            refine lv_iconst (v := 0) S.x S.b d_Mpg_checkConstant_94 (by decide) ?_
            refine lv_istore (lv' := [(4, .int 0), (3, .int (cf 47)), (2, .int (cf 46)), (0, .ref h), (1, .int p0)]) S.x S.b d_Mpg_checkConstant_95 hl (by decide) rfl (fun ls hl => ?_)
            refine lv_aload_n S.x S.b d_Mpg_checkConstant_97 rfl (lv_at hl 3 rfl) ?_
            refine lv_iload_n S.x S.b d_Mpg_checkConstant_98 rfl (lv_at hl 2 rfl) ?_
            refine pP_46 S hT hw 0 rfl m10_37 rfl (z_nar (by omega)) (z_fit (by omega)) d_Mpg_checkConstant_99 (ps' := [wdP cs h r g tf ta pf na ma3 wa (upd cf79 46 (cf 46)) ca ef ea xf xa]) rfl (fun H locs hw => ?_)
            refine lv_aload_n S.x S.b d_Mpg_checkConstant_102 rfl (lv_at hl 3 rfl) ?_
            refine lv_iload_n S.x S.b d_Mpg_checkConstant_103 rfl (lv_at hl 1 rfl) ?_
            refine pP_47 S hT hw 0 rfl m10_38 rfl (z_nar (by omega)) (z_fit (by omega)) d_Mpg_checkConstant_104 (ps' := [wdP cs h r g tf ta pf na ma3 wa (upd (upd cf79 46 (cf 46)) 47 (cf 47)) ca ef ea xf xa]) rfl (fun H locs hw => ?_)
            refine lv_iload S.x S.b d_Mpg_checkConstant_107 (lv_at hl 0 rfl) ?_
            first | exact px_iret (v := 0) S hr rfl hlk hAe hw (Nat.le_of_ble_eq_true rfl) (Nat.le_of_ble_eq_true rfl) (⟨ma3, (upd (upd cf79 46 (cf 46)) 47 (cf 47)), rfl, (show KpE cf (upd (upd cf79 46 (cf 46)) 47 (cf 47)) from (KpE.u47 (KpE.u46 hke))), (show WrV (upd (upd cf79 46 (cf 46)) 47 (cf 47)) (tf 6).toInt from (WrV.u (WrV.u hwr (by decide) (by decide)) (by decide) (by decide))), (show (cf79 33).toInt = (cf 33).toInt from (oz_1687f4cc65 e9 e85)), (show (cf79 38).toInt = (cf 38).toInt from (oz_1687f4cc65 e10 e86)), (show (cf79 48).toInt = (cf 48).toInt from (oz_1687f4cc65 e11 e87)), (show (cf 46).toInt = (cf 46).toInt from rfl), (show (cf 47).toInt = (cf 47).toInt from rfl), (show Ann na ma0 ma3 from han), (show FrC lo hi ma ma3 from hfc), (show (0 : Int32) = 0 ∨ (0 : Int32) = 1 from by first | exact Or.inl rfl | exact Or.inr rfl | exact z_or (by omega)), (show (0 : Int) = 0 → 1 ≤ (cf79 30).toInt from by omega), (show R_mp_checkConstant tf ta na ca p0 ma cf ma3 (upd (upd cf79 46 (cf 46)) 47 (cf 47)) (0 : Int32) from (Or.inl ⟨ma3, cf4, e23X, Or.inr ⟨nc24, Or.inl ⟨nc65, Or.inr ⟨nc67, v74, e77, cf79, e101, Or.inr ⟨nc102, Or.inl ⟨nc104, rfl, rfl, rfl⟩⟩⟩⟩⟩⟩))⟩) d_Mpg_checkConstant_109 | (exact px_iret (v := 0) S hr rfl hlk hAe hw (Nat.le_of_ble_eq_true rfl) (Nat.le_of_ble_eq_true rfl) (⟨ma3, (upd (upd cf79 46 (cf 46)) 47 (cf 47)), rfl, (show KpE cf (upd (upd cf79 46 (cf 46)) 47 (cf 47)) from (KpE.u47 (KpE.u46 hke))), (show WrV (upd (upd cf79 46 (cf 46)) 47 (cf 47)) (tf 6).toInt from (WrV.u (WrV.u hwr (by decide) (by decide)) (by decide) (by decide))), (show (cf79 33).toInt = (cf 33).toInt from by first | exact oz_1687f4cc65 e9 e85 | omega), (show (cf79 38).toInt = (cf 38).toInt from by first | exact oz_1687f4cc65 e10 e86 | omega), (show (cf79 48).toInt = (cf 48).toInt from by first | exact oz_1687f4cc65 e11 e87 | omega), (show (cf 46).toInt = (cf 46).toInt from rfl), (show (cf 47).toInt = (cf 47).toInt from rfl), (show Ann na ma0 ma3 from han), (show FrC lo hi ma ma3 from hfc), (show (0 : Int32) = 0 ∨ (0 : Int32) = 1 from by first | exact Or.inl rfl | exact Or.inr rfl | exact z_or (by omega)), (show (0 : Int) = 0 → 1 ≤ (cf79 30).toInt from by omega), (show R_mp_checkConstant tf ta na ca p0 ma cf ma3 (upd (upd cf79 46 (cf 46)) 47 (cf 47)) (0 : Int32) from (Or.inl ⟨ma3, cf4, e23X, Or.inr ⟨nc24, Or.inl ⟨nc65, Or.inr ⟨nc67, v74, e77, cf79, e101, Or.inr ⟨nc102, Or.inl ⟨nc104, rfl, rfl, rfl⟩⟩⟩⟩⟩⟩))⟩) d_Mpg_checkConstant_109)
          · have nc104 : (cf79 47).toInt = (0 : Int) := (i_eq (x := (cf79 47)) (y := 0)).mp c104
            refine lv_iconst (v := 1) S.x S.b d_Mpg_checkConstant_90 (by decide) ?_
            refine lv_goto (tgt := 95) S.x S.b d_Mpg_checkConstant_91 (by decide) ?_
            refine lv_istore (lv' := [(4, .int 1), (3, .int (cf 47)), (2, .int (cf 46)), (0, .ref h), (1, .int p0)]) S.x S.b d_Mpg_checkConstant_95 hl (by decide) rfl (fun ls hl => ?_)
            refine lv_aload_n S.x S.b d_Mpg_checkConstant_97 rfl (lv_at hl 3 rfl) ?_
            refine lv_iload_n S.x S.b d_Mpg_checkConstant_98 rfl (lv_at hl 2 rfl) ?_
            refine pP_46 S hT hw 0 rfl m10_37 rfl (z_nar (by omega)) (z_fit (by omega)) d_Mpg_checkConstant_99 (ps' := [wdP cs h r g tf ta pf na ma3 wa (upd cf79 46 (cf 46)) ca ef ea xf xa]) rfl (fun H locs hw => ?_)
            refine lv_aload_n S.x S.b d_Mpg_checkConstant_102 rfl (lv_at hl 3 rfl) ?_
            refine lv_iload_n S.x S.b d_Mpg_checkConstant_103 rfl (lv_at hl 1 rfl) ?_
            refine pP_47 S hT hw 0 rfl m10_38 rfl (z_nar (by omega)) (z_fit (by omega)) d_Mpg_checkConstant_104 (ps' := [wdP cs h r g tf ta pf na ma3 wa (upd (upd cf79 46 (cf 46)) 47 (cf 47)) ca ef ea xf xa]) rfl (fun H locs hw => ?_)
            refine lv_iload S.x S.b d_Mpg_checkConstant_107 (lv_at hl 0 rfl) ?_
            first | exact px_iret (v := 1) S hr rfl hlk hAe hw (Nat.le_of_ble_eq_true rfl) (Nat.le_of_ble_eq_true rfl) (⟨ma3, (upd (upd cf79 46 (cf 46)) 47 (cf 47)), rfl, (show KpE cf (upd (upd cf79 46 (cf 46)) 47 (cf 47)) from (KpE.u47 (KpE.u46 hke))), (show WrV (upd (upd cf79 46 (cf 46)) 47 (cf 47)) (tf 6).toInt from (WrV.u (WrV.u hwr (by decide) (by decide)) (by decide) (by decide))), (show (cf79 33).toInt = (cf 33).toInt from (oz_1687f4cc65 e9 e85)), (show (cf79 38).toInt = (cf 38).toInt from (oz_1687f4cc65 e10 e86)), (show (cf79 48).toInt = (cf 48).toInt from (oz_1687f4cc65 e11 e87)), (show (cf 46).toInt = (cf 46).toInt from rfl), (show (cf 47).toInt = (cf 47).toInt from rfl), (show Ann na ma0 ma3 from han), (show FrC lo hi ma ma3 from hfc), (show (1 : Int32) = 0 ∨ (1 : Int32) = 1 from by first | exact Or.inl rfl | exact Or.inr rfl | exact z_or (by omega)), (show (1 : Int) = 0 → 1 ≤ (cf79 30).toInt from by omega), (show R_mp_checkConstant tf ta na ca p0 ma cf ma3 (upd (upd cf79 46 (cf 46)) 47 (cf 47)) (1 : Int32) from (Or.inl ⟨ma3, cf4, e23X, Or.inr ⟨nc24, Or.inl ⟨nc65, Or.inr ⟨nc67, v74, e77, cf79, e101, Or.inr ⟨nc102, Or.inr ⟨nc104, rfl, rfl, rfl⟩⟩⟩⟩⟩⟩))⟩) d_Mpg_checkConstant_109 | (exact px_iret (v := 1) S hr rfl hlk hAe hw (Nat.le_of_ble_eq_true rfl) (Nat.le_of_ble_eq_true rfl) (⟨ma3, (upd (upd cf79 46 (cf 46)) 47 (cf 47)), rfl, (show KpE cf (upd (upd cf79 46 (cf 46)) 47 (cf 47)) from (KpE.u47 (KpE.u46 hke))), (show WrV (upd (upd cf79 46 (cf 46)) 47 (cf 47)) (tf 6).toInt from (WrV.u (WrV.u hwr (by decide) (by decide)) (by decide) (by decide))), (show (cf79 33).toInt = (cf 33).toInt from by first | exact oz_1687f4cc65 e9 e85 | omega), (show (cf79 38).toInt = (cf 38).toInt from by first | exact oz_1687f4cc65 e10 e86 | omega), (show (cf79 48).toInt = (cf 48).toInt from by first | exact oz_1687f4cc65 e11 e87 | omega), (show (cf 46).toInt = (cf 46).toInt from rfl), (show (cf 47).toInt = (cf 47).toInt from rfl), (show Ann na ma0 ma3 from han), (show FrC lo hi ma ma3 from hfc), (show (1 : Int32) = 0 ∨ (1 : Int32) = 1 from by first | exact Or.inl rfl | exact Or.inr rfl | exact z_or (by omega)), (show (1 : Int) = 0 → 1 ≤ (cf79 30).toInt from by omega), (show R_mp_checkConstant tf ta na ca p0 ma cf ma3 (upd (upd cf79 46 (cf 46)) 47 (cf 47)) (1 : Int32) from (Or.inl ⟨ma3, cf4, e23X, Or.inr ⟨nc24, Or.inl ⟨nc65, Or.inr ⟨nc67, v74, e77, cf79, e101, Or.inr ⟨nc102, Or.inr ⟨nc104, rfl, rfl, rfl⟩⟩⟩⟩⟩⟩))⟩) d_Mpg_checkConstant_109)
    · have nc65 : (cf4 47).toInt = (0 : Int) := (i_eq (x := (cf4 47)) (y := 0)).mp c65
      refine lv_aload_n S.x S.b d_Mpg_checkConstant_39 rfl (lv_at hl 2 rfl) ?_
      refine lv_aload_n S.x S.b d_Mpg_checkConstant_40 rfl (lv_at hl 2 rfl) ?_
      have hrk_p0 := hmt_p0 (by omega) (by omega)
      refine lv_iload_n S.x S.b d_Mpg_checkConstant_41 rfl (lv_at hl 3 rfl) ?_
      first | refine px_calli (pr := []) (px_runV (As := [.int p0]) (rest := [.ref h]) S (c_S_reckon l D cs ma0 ys ns nf kn d lo hi h r g tf ta pf na ma3 wa ca ef ea xf xa cf4 p0  (show 0 ≤ lo from g0) (show hi ≤ (pf 13).toInt from g1) (show (pf 13).toInt ≤ 2100 from g2) (show (tf 6).toInt ≤ 2049 from g3) (show (cf4 33).toInt = kn from (oz_1687f4cc65 g4 e9)) (show 0 ≤ kn from g5) (show (cf4 48).toInt = ns from (oz_1687f4cc65 g6 e11)) (show (cf4 38).toInt = nf from (oz_1687f4cc65 g7 e10)) (show 0 ≤ nf from g8) htk (FsI.le (N' := (pf 13).toInt) hfs (by omega)) hwr (KnT.eq hkt (by omega)) (FnT.eq hft (by omega)) han hec_p0 hrk_p0 _) hT (pr := []) (pcs := [wdP cs h r g tf ta pf na ma3 wa cf4 ca ef ea xf xa]) hw (oX_call (P := (fun A U H => (oP A g U H))) (pr := []) oG_P hw hA hP) (px_recv hT hw 0 0 rfl rfl rfl) m13_13 m13_10 m13_12 ms_13_0 m1_21 q_Mpg_reckon ⟨show (2 * d + 6) + 1 ≤ (4 * d + 18) from (oz_e1068b0b86), show 8 + (7 + 11) + (100 * d + 240) ≤ (200 * d + 640) from (oz_0b80dc0826)⟩ hl.1 rfl (Nat.le_of_ble_eq_true rfl) d_Mpg_checkConstant_42 ⟨Nat.le_of_ble_eq_true rfl, Nat.le_of_ble_eq_true rfl⟩) hw hA (fun v109 p108 H locs hp108 hw => ?_) | (refine px_calli (pr := []) (px_runV (As := [.int p0]) (rest := [.ref h]) S (c_S_reckon l D cs ma0 ys ns nf kn d lo hi h r g tf ta pf na ma3 wa ca ef ea xf xa cf4 p0  (show 0 ≤ lo from by first | exact g0 | omega) (show hi ≤ (pf 13).toInt from by first | exact g1 | omega) (show (pf 13).toInt ≤ 2100 from by first | exact g2 | omega) (show (tf 6).toInt ≤ 2049 from by first | exact g3 | omega) (show (cf4 33).toInt = kn from by first | exact oz_1687f4cc65 g4 e9 | omega) (show 0 ≤ kn from by first | exact g5 | omega) (show (cf4 48).toInt = ns from by first | exact oz_1687f4cc65 g6 e11 | omega) (show (cf4 38).toInt = nf from by first | exact oz_1687f4cc65 g7 e10 | omega) (show 0 ≤ nf from by first | exact g8 | omega) htk (FsI.le (N' := (pf 13).toInt) hfs (by omega)) hwr (KnT.eq hkt (by omega)) (FnT.eq hft (by omega)) han hec_p0 hrk_p0 _) hT (pr := []) (pcs := [wdP cs h r g tf ta pf na ma3 wa cf4 ca ef ea xf xa]) hw (oX_call (P := (fun A U H => (oP A g U H))) (pr := []) oG_P hw hA hP) (px_recv hT hw 0 0 rfl rfl rfl) m13_13 m13_10 m13_12 ms_13_0 m1_21 q_Mpg_reckon ⟨show (2 * d + 6) + 1 ≤ (4 * d + 18) from (by first | exact oz_e1068b0b86 | omega), show 8 + (7 + 11) + (100 * d + 240) ≤ (200 * d + 640) from (by first | exact oz_0b80dc0826 | omega)⟩ hl.1 rfl (Nat.le_of_ble_eq_true rfl) d_Mpg_checkConstant_42 ⟨Nat.le_of_ble_eq_true rfl, Nat.le_of_ble_eq_true rfl⟩) hw hA (fun v109 p108 H locs hp108 hw => ?_))
      obtain ⟨cf107, rfl, e110, e111, e112, e113, e114, e115, e116⟩ := hp108
      have e110 : KpE cf4 cf107 := e110
      have hke := (hke).tr e110
      have hkz_e110 := e110.2
      have e111 : WrV cf107 (tf 6).toInt := e111
      have hwr := e111
      have hw0_e111 := hwr.1
      have e112 : (cf107 33).toInt = (cf4 33).toInt := e112
      have e113 : (cf107 38).toInt = (cf4 38).toInt := e113
      have e114 : (cf107 48).toInt = (cf4 48).toInt := e114
      have e115 : (cf107 47).toInt = (cf4 47).toInt := e115
      have e116 : RL_mp_reckon d ta na ma3 ca p0 cf4 cf107 v109 := e116
      have e116X : RX_mp_reckon ta na ma3 ca p0 cf4 cf107 v109 := ⟨d, e116⟩
      have lv109 := Int32.le_toInt v109
      have uv109 := Int32.toInt_lt v109
      refine pP_57 S hT hw 0 rfl m10_54 rfl rfl rfl d_Mpg_checkConstant_45 (ps' := [wdP cs h r g tf ta pf na ma3 wa (upd cf107 57 v109) ca ef ea xf xa]) rfl (fun H locs hw => ?_)
      refine lv_aload_n S.x S.b d_Mpg_checkConstant_48 rfl (lv_at hl 2 rfl) ?_
      refine gP_20 S hT hw 0 rfl m10_6 d_Mpg_checkConstant_49 ?_
      refine lv_iload_n S.x S.b d_Mpg_checkConstant_52 rfl (lv_at hl 3 rfl) ?_
      refine lv_aload_n S.x S.b d_Mpg_checkConstant_53 rfl (lv_at hl 2 rfl) ?_
      refine gP_57 (v := v109) S hT hw 0 rfl rfl m10_54 d_Mpg_checkConstant_54 ?_
      refine px_iast S hT hw 0 16 (n := 2100) (f := (ma3 20)) (x := p0) (y := v109) rfl gp_20 (vp_in_iff.mpr (by constructor <;> omega)) d_Mpg_checkConstant_57 (w' := wdP cs h r g tf ta pf na (va_up ma3 20 (upd (ma3 20) p0.toNatClampNeg v109)) wa (upd cf107 57 v109) ca ef ea xf xa) (ps' := [wdP cs h r g tf ta pf na (va_up ma3 20 (upd (ma3 20) p0.toNatClampNeg v109)) wa (upd cf107 57 v109) ca ef ea xf xa]) sp_20 rfl (fun H locs hw => ?_)
      obtain ⟨ma117, hu_ma117⟩ : ∃ y : Nat → Nat → Int32, y = va_up ma3 20 (upd (ma3 20) p0.toNatClampNeg v109) := ⟨_, rfl⟩
      have hw : pw D A s.heap _ _ [wdP cs h r g tf ta pf na ma117 wa (upd cf107 57 v109) ca ef ea xf xa] := (by rw [hu_ma117]; exact hw)
      have hf1_ma117 : FrC p0.toInt (p0.toInt + 1) ma3 ma117 := (by rw [hu_ma117]; exact FrC.w FrC.rf (by omega) (by omega) (by omega))
      have han : Ann na ma0 ma117 := (by rw [hu_ma117]; exact Ann.w20 han (by omega))
      have hfc := hfc.tr hf1_ma117 (by omega) (by omega)
      have hv_20_p0 : ma117 20 p0.toNatClampNeg = v109 := (by rw [hu_ma117, va_up_s, pk_us])
      have hnhv_20_p0 : (ma117 20 p0.toNatClampNeg).toInt = v109.toInt := (by rw [hv_20_p0])
      refine lv_aload_n S.x S.b d_Mpg_checkConstant_58 rfl (lv_at hl 2 rfl) ?_
      refine gP_46 (v := (cf107 46)) S hT hw 0 rfl rfl m10_37 d_Mpg_checkConstant_59 ?_
      refine lv_if_eq (tgt := 76) S.x S.b d_Mpg_checkConstant_62 (by decide) (fun c118 => ?_) (fun c118 => ?_)
      · have nc118 : (cf107 46).toInt = (0 : Int) := (i_eq (x := (cf107 46)) (y := 0)).mp c118
        refine lv_aload_n S.x S.b d_Mpg_checkConstant_76 rfl (lv_at hl 2 rfl) ?_
        refine gP_46 (v := (cf107 46)) S hT hw 0 rfl rfl m10_37 d_Mpg_checkConstant_77 ?_
        refine lv_if_ne (tgt := 94) S.x S.b d_Mpg_checkConstant_80 (by decide) (fun c120 => ?_) (fun c120 => ?_)
        · have nc120 : ¬ (cf107 46).toInt = (0 : Int) := mt (i_eq (x := (cf107 46)) (y := 0)).mpr c120
          refine lv_iconst (v := 0) S.x S.b d_Mpg_checkConstant_94 (by decide) ?_
          refine lv_istore (lv' := [(4, .int 0), (3, .int (cf 47)), (2, .int (cf 46)), (0, .ref h), (1, .int p0)]) S.x S.b d_Mpg_checkConstant_95 hl (by decide) rfl (fun ls hl => ?_)
          refine lv_aload_n S.x S.b d_Mpg_checkConstant_97 rfl (lv_at hl 3 rfl) ?_
          refine lv_iload_n S.x S.b d_Mpg_checkConstant_98 rfl (lv_at hl 2 rfl) ?_
          refine pP_46 S hT hw 0 rfl m10_37 rfl (z_nar (by omega)) (z_fit (by omega)) d_Mpg_checkConstant_99 (ps' := [wdP cs h r g tf ta pf na ma117 wa (upd (upd cf107 46 (cf 46)) 57 v109) ca ef ea xf xa]) rfl (fun H locs hw => ?_)
          refine lv_aload_n S.x S.b d_Mpg_checkConstant_102 rfl (lv_at hl 3 rfl) ?_
          refine lv_iload_n S.x S.b d_Mpg_checkConstant_103 rfl (lv_at hl 1 rfl) ?_
          refine pP_47 S hT hw 0 rfl m10_38 rfl (z_nar (by omega)) (z_fit (by omega)) d_Mpg_checkConstant_104 (ps' := [wdP cs h r g tf ta pf na ma117 wa (upd (upd (upd cf107 46 (cf 46)) 47 (cf 47)) 57 v109) ca ef ea xf xa]) rfl (fun H locs hw => ?_)
          refine lv_iload S.x S.b d_Mpg_checkConstant_107 (lv_at hl 0 rfl) ?_
          first | exact px_iret (v := 0) S hr rfl hlk hAe hw (Nat.le_of_ble_eq_true rfl) (Nat.le_of_ble_eq_true rfl) (⟨ma117, (upd (upd (upd cf107 46 (cf 46)) 47 (cf 47)) 57 v109), rfl, (show KpE cf (upd (upd (upd cf107 46 (cf 46)) 47 (cf 47)) 57 v109) from (KpE.u57 (KpE.u47 (KpE.u46 hke)))), (show WrV (upd (upd (upd cf107 46 (cf 46)) 47 (cf 47)) 57 v109) (tf 6).toInt from (WrV.u (WrV.u (WrV.u hwr (by decide) (by decide)) (by decide) (by decide)) (by decide) (by decide))), (show (cf107 33).toInt = (cf 33).toInt from (oz_1687f4cc65 e9 e112)), (show (cf107 38).toInt = (cf 38).toInt from (oz_1687f4cc65 e10 e113)), (show (cf107 48).toInt = (cf 48).toInt from (oz_1687f4cc65 e11 e114)), (show (cf 46).toInt = (cf 46).toInt from rfl), (show (cf 47).toInt = (cf 47).toInt from rfl), (show Ann na ma0 ma117 from han), (show FrC lo hi ma ma117 from hfc), (show (0 : Int32) = 0 ∨ (0 : Int32) = 1 from by first | exact Or.inl rfl | exact Or.inr rfl | exact z_or (by omega)), (show (0 : Int) = 0 → 1 ≤ (cf107 30).toInt from by omega), (show R_mp_checkConstant tf ta na ca p0 ma cf ma117 (upd (upd (upd cf107 46 (cf 46)) 47 (cf 47)) 57 v109) (0 : Int32) from (Or.inl ⟨ma3, cf4, e23X, Or.inr ⟨nc24, Or.inr ⟨nc65, cf107, v109, e116X, ma117, hu_ma117, Or.inl ⟨nc118, Or.inl ⟨nc120, rfl, rfl, rfl⟩⟩⟩⟩⟩))⟩) d_Mpg_checkConstant_109 | (exact px_iret (v := 0) S hr rfl hlk hAe hw (Nat.le_of_ble_eq_true rfl) (Nat.le_of_ble_eq_true rfl) (⟨ma117, (upd (upd (upd cf107 46 (cf 46)) 47 (cf 47)) 57 v109), rfl, (show KpE cf (upd (upd (upd cf107 46 (cf 46)) 47 (cf 47)) 57 v109) from (KpE.u57 (KpE.u47 (KpE.u46 hke)))), (show WrV (upd (upd (upd cf107 46 (cf 46)) 47 (cf 47)) 57 v109) (tf 6).toInt from (WrV.u (WrV.u (WrV.u hwr (by decide) (by decide)) (by decide) (by decide)) (by decide) (by decide))), (show (cf107 33).toInt = (cf 33).toInt from by first | exact oz_1687f4cc65 e9 e112 | omega), (show (cf107 38).toInt = (cf 38).toInt from by first | exact oz_1687f4cc65 e10 e113 | omega), (show (cf107 48).toInt = (cf 48).toInt from by first | exact oz_1687f4cc65 e11 e114 | omega), (show (cf 46).toInt = (cf 46).toInt from rfl), (show (cf 47).toInt = (cf 47).toInt from rfl), (show Ann na ma0 ma117 from han), (show FrC lo hi ma ma117 from hfc), (show (0 : Int32) = 0 ∨ (0 : Int32) = 1 from by first | exact Or.inl rfl | exact Or.inr rfl | exact z_or (by omega)), (show (0 : Int) = 0 → 1 ≤ (cf107 30).toInt from by omega), (show R_mp_checkConstant tf ta na ca p0 ma cf ma117 (upd (upd (upd cf107 46 (cf 46)) 47 (cf 47)) 57 v109) (0 : Int32) from (Or.inl ⟨ma3, cf4, e23X, Or.inr ⟨nc24, Or.inr ⟨nc65, cf107, v109, e116X, ma117, hu_ma117, Or.inl ⟨nc118, Or.inl ⟨nc120, rfl, rfl, rfl⟩⟩⟩⟩⟩))⟩) d_Mpg_checkConstant_109)
        · have nc120 : (cf107 46).toInt = (0 : Int) := (i_eq (x := (cf107 46)) (y := 0)).mp c120
          refine lv_aload_n S.x S.b d_Mpg_checkConstant_83 rfl (lv_at hl 2 rfl) ?_
          refine gP_47 (v := (cf107 47)) S hT hw 0 rfl rfl m10_38 d_Mpg_checkConstant_84 ?_
          refine lv_if_ne (tgt := 94) S.x S.b d_Mpg_checkConstant_87 (by decide) (fun c122 => ?_) (fun c122 => ?_)
          · have nc122 : ¬ (cf107 47).toInt = (0 : Int) := mt (i_eq (x := (cf107 47)) (y := 0)).mpr c122
            refine lv_iconst (v := 0) S.x S.b d_Mpg_checkConstant_94 (by decide) ?_
            refine lv_istore (lv' := [(4, .int 0), (3, .int (cf 47)), (2, .int (cf 46)), (0, .ref h), (1, .int p0)]) S.x S.b d_Mpg_checkConstant_95 hl (by decide) rfl (fun ls hl => ?_)
            refine lv_aload_n S.x S.b d_Mpg_checkConstant_97 rfl (lv_at hl 3 rfl) ?_
            refine lv_iload_n S.x S.b d_Mpg_checkConstant_98 rfl (lv_at hl 2 rfl) ?_
            refine pP_46 S hT hw 0 rfl m10_37 rfl (z_nar (by omega)) (z_fit (by omega)) d_Mpg_checkConstant_99 (ps' := [wdP cs h r g tf ta pf na ma117 wa (upd (upd cf107 46 (cf 46)) 57 v109) ca ef ea xf xa]) rfl (fun H locs hw => ?_)
            refine lv_aload_n S.x S.b d_Mpg_checkConstant_102 rfl (lv_at hl 3 rfl) ?_
            refine lv_iload_n S.x S.b d_Mpg_checkConstant_103 rfl (lv_at hl 1 rfl) ?_
            refine pP_47 S hT hw 0 rfl m10_38 rfl (z_nar (by omega)) (z_fit (by omega)) d_Mpg_checkConstant_104 (ps' := [wdP cs h r g tf ta pf na ma117 wa (upd (upd (upd cf107 46 (cf 46)) 47 (cf 47)) 57 v109) ca ef ea xf xa]) rfl (fun H locs hw => ?_)
            refine lv_iload S.x S.b d_Mpg_checkConstant_107 (lv_at hl 0 rfl) ?_
            first | exact px_iret (v := 0) S hr rfl hlk hAe hw (Nat.le_of_ble_eq_true rfl) (Nat.le_of_ble_eq_true rfl) (⟨ma117, (upd (upd (upd cf107 46 (cf 46)) 47 (cf 47)) 57 v109), rfl, (show KpE cf (upd (upd (upd cf107 46 (cf 46)) 47 (cf 47)) 57 v109) from (KpE.u57 (KpE.u47 (KpE.u46 hke)))), (show WrV (upd (upd (upd cf107 46 (cf 46)) 47 (cf 47)) 57 v109) (tf 6).toInt from (WrV.u (WrV.u (WrV.u hwr (by decide) (by decide)) (by decide) (by decide)) (by decide) (by decide))), (show (cf107 33).toInt = (cf 33).toInt from (oz_1687f4cc65 e9 e112)), (show (cf107 38).toInt = (cf 38).toInt from (oz_1687f4cc65 e10 e113)), (show (cf107 48).toInt = (cf 48).toInt from (oz_1687f4cc65 e11 e114)), (show (cf 46).toInt = (cf 46).toInt from rfl), (show (cf 47).toInt = (cf 47).toInt from rfl), (show Ann na ma0 ma117 from han), (show FrC lo hi ma ma117 from hfc), (show (0 : Int32) = 0 ∨ (0 : Int32) = 1 from by first | exact Or.inl rfl | exact Or.inr rfl | exact z_or (by omega)), (show (0 : Int) = 0 → 1 ≤ (cf107 30).toInt from by omega), (show R_mp_checkConstant tf ta na ca p0 ma cf ma117 (upd (upd (upd cf107 46 (cf 46)) 47 (cf 47)) 57 v109) (0 : Int32) from (Or.inl ⟨ma3, cf4, e23X, Or.inr ⟨nc24, Or.inr ⟨nc65, cf107, v109, e116X, ma117, hu_ma117, Or.inl ⟨nc118, Or.inr ⟨nc120, Or.inl ⟨nc122, rfl, rfl, rfl⟩⟩⟩⟩⟩⟩))⟩) d_Mpg_checkConstant_109 | (exact px_iret (v := 0) S hr rfl hlk hAe hw (Nat.le_of_ble_eq_true rfl) (Nat.le_of_ble_eq_true rfl) (⟨ma117, (upd (upd (upd cf107 46 (cf 46)) 47 (cf 47)) 57 v109), rfl, (show KpE cf (upd (upd (upd cf107 46 (cf 46)) 47 (cf 47)) 57 v109) from (KpE.u57 (KpE.u47 (KpE.u46 hke)))), (show WrV (upd (upd (upd cf107 46 (cf 46)) 47 (cf 47)) 57 v109) (tf 6).toInt from (WrV.u (WrV.u (WrV.u hwr (by decide) (by decide)) (by decide) (by decide)) (by decide) (by decide))), (show (cf107 33).toInt = (cf 33).toInt from by first | exact oz_1687f4cc65 e9 e112 | omega), (show (cf107 38).toInt = (cf 38).toInt from by first | exact oz_1687f4cc65 e10 e113 | omega), (show (cf107 48).toInt = (cf 48).toInt from by first | exact oz_1687f4cc65 e11 e114 | omega), (show (cf 46).toInt = (cf 46).toInt from rfl), (show (cf 47).toInt = (cf 47).toInt from rfl), (show Ann na ma0 ma117 from han), (show FrC lo hi ma ma117 from hfc), (show (0 : Int32) = 0 ∨ (0 : Int32) = 1 from by first | exact Or.inl rfl | exact Or.inr rfl | exact z_or (by omega)), (show (0 : Int) = 0 → 1 ≤ (cf107 30).toInt from by omega), (show R_mp_checkConstant tf ta na ca p0 ma cf ma117 (upd (upd (upd cf107 46 (cf 46)) 47 (cf 47)) 57 v109) (0 : Int32) from (Or.inl ⟨ma3, cf4, e23X, Or.inr ⟨nc24, Or.inr ⟨nc65, cf107, v109, e116X, ma117, hu_ma117, Or.inl ⟨nc118, Or.inr ⟨nc120, Or.inl ⟨nc122, rfl, rfl, rfl⟩⟩⟩⟩⟩⟩))⟩) d_Mpg_checkConstant_109)
          · have nc122 : (cf107 47).toInt = (0 : Int) := (i_eq (x := (cf107 47)) (y := 0)).mp c122
            refine lv_iconst (v := 1) S.x S.b d_Mpg_checkConstant_90 (by decide) ?_
            refine lv_goto (tgt := 95) S.x S.b d_Mpg_checkConstant_91 (by decide) ?_
            refine lv_istore (lv' := [(4, .int 1), (3, .int (cf 47)), (2, .int (cf 46)), (0, .ref h), (1, .int p0)]) S.x S.b d_Mpg_checkConstant_95 hl (by decide) rfl (fun ls hl => ?_)
            refine lv_aload_n S.x S.b d_Mpg_checkConstant_97 rfl (lv_at hl 3 rfl) ?_
            refine lv_iload_n S.x S.b d_Mpg_checkConstant_98 rfl (lv_at hl 2 rfl) ?_
            refine pP_46 S hT hw 0 rfl m10_37 rfl (z_nar (by omega)) (z_fit (by omega)) d_Mpg_checkConstant_99 (ps' := [wdP cs h r g tf ta pf na ma117 wa (upd (upd cf107 46 (cf 46)) 57 v109) ca ef ea xf xa]) rfl (fun H locs hw => ?_)
            refine lv_aload_n S.x S.b d_Mpg_checkConstant_102 rfl (lv_at hl 3 rfl) ?_
            refine lv_iload_n S.x S.b d_Mpg_checkConstant_103 rfl (lv_at hl 1 rfl) ?_
            refine pP_47 S hT hw 0 rfl m10_38 rfl (z_nar (by omega)) (z_fit (by omega)) d_Mpg_checkConstant_104 (ps' := [wdP cs h r g tf ta pf na ma117 wa (upd (upd (upd cf107 46 (cf 46)) 47 (cf 47)) 57 v109) ca ef ea xf xa]) rfl (fun H locs hw => ?_)
            refine lv_iload S.x S.b d_Mpg_checkConstant_107 (lv_at hl 0 rfl) ?_
            first | exact px_iret (v := 1) S hr rfl hlk hAe hw (Nat.le_of_ble_eq_true rfl) (Nat.le_of_ble_eq_true rfl) (⟨ma117, (upd (upd (upd cf107 46 (cf 46)) 47 (cf 47)) 57 v109), rfl, (show KpE cf (upd (upd (upd cf107 46 (cf 46)) 47 (cf 47)) 57 v109) from (KpE.u57 (KpE.u47 (KpE.u46 hke)))), (show WrV (upd (upd (upd cf107 46 (cf 46)) 47 (cf 47)) 57 v109) (tf 6).toInt from (WrV.u (WrV.u (WrV.u hwr (by decide) (by decide)) (by decide) (by decide)) (by decide) (by decide))), (show (cf107 33).toInt = (cf 33).toInt from (oz_1687f4cc65 e9 e112)), (show (cf107 38).toInt = (cf 38).toInt from (oz_1687f4cc65 e10 e113)), (show (cf107 48).toInt = (cf 48).toInt from (oz_1687f4cc65 e11 e114)), (show (cf 46).toInt = (cf 46).toInt from rfl), (show (cf 47).toInt = (cf 47).toInt from rfl), (show Ann na ma0 ma117 from han), (show FrC lo hi ma ma117 from hfc), (show (1 : Int32) = 0 ∨ (1 : Int32) = 1 from by first | exact Or.inl rfl | exact Or.inr rfl | exact z_or (by omega)), (show (1 : Int) = 0 → 1 ≤ (cf107 30).toInt from by omega), (show R_mp_checkConstant tf ta na ca p0 ma cf ma117 (upd (upd (upd cf107 46 (cf 46)) 47 (cf 47)) 57 v109) (1 : Int32) from (Or.inl ⟨ma3, cf4, e23X, Or.inr ⟨nc24, Or.inr ⟨nc65, cf107, v109, e116X, ma117, hu_ma117, Or.inl ⟨nc118, Or.inr ⟨nc120, Or.inr ⟨nc122, rfl, rfl, rfl⟩⟩⟩⟩⟩⟩))⟩) d_Mpg_checkConstant_109 | (exact px_iret (v := 1) S hr rfl hlk hAe hw (Nat.le_of_ble_eq_true rfl) (Nat.le_of_ble_eq_true rfl) (⟨ma117, (upd (upd (upd cf107 46 (cf 46)) 47 (cf 47)) 57 v109), rfl, (show KpE cf (upd (upd (upd cf107 46 (cf 46)) 47 (cf 47)) 57 v109) from (KpE.u57 (KpE.u47 (KpE.u46 hke)))), (show WrV (upd (upd (upd cf107 46 (cf 46)) 47 (cf 47)) 57 v109) (tf 6).toInt from (WrV.u (WrV.u (WrV.u hwr (by decide) (by decide)) (by decide) (by decide)) (by decide) (by decide))), (show (cf107 33).toInt = (cf 33).toInt from by first | exact oz_1687f4cc65 e9 e112 | omega), (show (cf107 38).toInt = (cf 38).toInt from by first | exact oz_1687f4cc65 e10 e113 | omega), (show (cf107 48).toInt = (cf 48).toInt from by first | exact oz_1687f4cc65 e11 e114 | omega), (show (cf 46).toInt = (cf 46).toInt from rfl), (show (cf 47).toInt = (cf 47).toInt from rfl), (show Ann na ma0 ma117 from han), (show FrC lo hi ma ma117 from hfc), (show (1 : Int32) = 0 ∨ (1 : Int32) = 1 from by first | exact Or.inl rfl | exact Or.inr rfl | exact z_or (by omega)), (show (1 : Int) = 0 → 1 ≤ (cf107 30).toInt from by omega), (show R_mp_checkConstant tf ta na ca p0 ma cf ma117 (upd (upd (upd cf107 46 (cf 46)) 47 (cf 47)) 57 v109) (1 : Int32) from (Or.inl ⟨ma3, cf4, e23X, Or.inr ⟨nc24, Or.inr ⟨nc65, cf107, v109, e116X, ma117, hu_ma117, Or.inl ⟨nc118, Or.inr ⟨nc120, Or.inr ⟨nc122, rfl, rfl, rfl⟩⟩⟩⟩⟩⟩))⟩) d_Mpg_checkConstant_109)
      · have nc118 : ¬ (cf107 46).toInt = (0 : Int) := mt (i_eq (x := (cf107 46)) (y := 0)).mpr c118
        refine lv_aload_n S.x S.b d_Mpg_checkConstant_65 rfl (lv_at hl 2 rfl) ?_
        refine lv_bipush (v := 7) S.x S.b d_Mpg_checkConstant_66 (by decide) ?_
        refine lv_aload_n S.x S.b d_Mpg_checkConstant_68 rfl (lv_at hl 2 rfl) ?_
        refine lv_iload_n S.x S.b d_Mpg_checkConstant_69 rfl (lv_at hl 3 rfl) ?_
        first | refine px_calli (pr := []) (px_runV (As := [.int p0]) (rest := [.int 7, .ref h]) S (c_mp_first l D cs h r g tf ta pf na ma117 wa (upd cf107 57 v109) ca ef ea xf xa p0  (show 0 ≤ p0.toInt from hrg.2.2) (show p0.toInt < (pf 13).toInt from (oz_7319c2f99d g1 hrg.2.1)) (show (pf 13).toInt ≤ 2100 from g2) htk (FsI.le (N' := (pf 13).toInt) hfs (by omega)) _) hT (pr := []) (pcs := [wdP cs h r g tf ta pf na ma117 wa (upd cf107 57 v109) ca ef ea xf xa]) hw px_X.tt (px_recv hT hw 0 0 rfl rfl rfl) m13_9 m13_6 m13_8 ms_12_15 m1_21 q_Mpg_first ⟨show 0 + 1 ≤ (4 * d + 18) from (oz_d2ef3304a1), show 8 + (2 + 11) + 0 ≤ (200 * d + 640) from (oz_3f084196b6)⟩ hl.1 rfl (Nat.le_of_ble_eq_true rfl) d_Mpg_checkConstant_70 ⟨Nat.le_of_ble_eq_true rfl, Nat.le_of_ble_eq_true rfl⟩) hw hA (fun v125 p124 H locs hp124 hw => ?_) | (refine px_calli (pr := []) (px_runV (As := [.int p0]) (rest := [.int 7, .ref h]) S (c_mp_first l D cs h r g tf ta pf na ma117 wa (upd cf107 57 v109) ca ef ea xf xa p0  (show 0 ≤ p0.toInt from by first | exact hrg.2.2 | omega) (show p0.toInt < (pf 13).toInt from by first | exact oz_7319c2f99d g1 hrg.2.1 | omega) (show (pf 13).toInt ≤ 2100 from by first | exact g2 | omega) htk (FsI.le (N' := (pf 13).toInt) hfs (by omega)) _) hT (pr := []) (pcs := [wdP cs h r g tf ta pf na ma117 wa (upd cf107 57 v109) ca ef ea xf xa]) hw px_X.tt (px_recv hT hw 0 0 rfl rfl rfl) m13_9 m13_6 m13_8 ms_12_15 m1_21 q_Mpg_first ⟨show 0 + 1 ≤ (4 * d + 18) from (by first | exact oz_d2ef3304a1 | omega), show 8 + (2 + 11) + 0 ≤ (200 * d + 640) from (by first | exact oz_3f084196b6 | omega)⟩ hl.1 rfl (Nat.le_of_ble_eq_true rfl) d_Mpg_checkConstant_70 ⟨Nat.le_of_ble_eq_true rfl, Nat.le_of_ble_eq_true rfl⟩) hw hA (fun v125 p124 H locs hp124 hw => ?_))
        obtain ⟨rfl, e126, e127, e128⟩ := hp124
        have e126 : 0 ≤ v125.toInt := e126
        have e127 : v125.toInt < (tf 6).toInt := e127
        have e128 : R_mp_first na p0 v125 := e128
        have lv125 := Int32.le_toInt v125
        have uv125 := Int32.toInt_lt v125
        first | refine px_callv (pr := []) (px_runV (As := [.int 7, .int v125]) (rest := []) S (c_mp_bad l D cs h r g tf ta pf na ma117 wa ca ef ea xf xa (upd cf107 57 v109) 7 v125  (show 1 ≤ (7 : Int) from oz_04670674a7) (show 0 ≤ v125.toInt from e126) (show v125.toInt < (tf 6).toInt from e127) htk (WrV.u hwr (by decide) (by decide)) _) hT (pr := []) (pcs := [wdP cs h r g tf ta pf na ma117 wa (upd cf107 57 v109) ca ef ea xf xa]) hw px_X.tt (px_recv hT hw 0 0 rfl rfl rfl) m12_173 m12_170 m12_172 ms_11_12 m1_21 q_Mpg_bad ⟨show 0 + 1 ≤ (4 * d + 18) from (oz_d2ef3304a1), show 8 + (3 + 11) + 0 ≤ (200 * d + 640) from (oz_0ea4eaa962)⟩ hl.1 rfl (Nat.le_of_ble_eq_true rfl) d_Mpg_checkConstant_73 ⟨Nat.le_of_ble_eq_true rfl, Nat.le_of_ble_eq_true rfl⟩) hw hA (fun p131 H locs hp131 hw => ?_) | (refine px_callv (pr := []) (px_runV (As := [.int 7, .int v125]) (rest := []) S (c_mp_bad l D cs h r g tf ta pf na ma117 wa ca ef ea xf xa (upd cf107 57 v109) 7 v125  (show 1 ≤ (7 : Int) from by first | exact oz_04670674a7 | omega) (show 0 ≤ v125.toInt from by first | exact e126 | omega) (show v125.toInt < (tf 6).toInt from by first | exact e127 | omega) htk (WrV.u hwr (by decide) (by decide)) _) hT (pr := []) (pcs := [wdP cs h r g tf ta pf na ma117 wa (upd cf107 57 v109) ca ef ea xf xa]) hw px_X.tt (px_recv hT hw 0 0 rfl rfl rfl) m12_173 m12_170 m12_172 ms_11_12 m1_21 q_Mpg_bad ⟨show 0 + 1 ≤ (4 * d + 18) from (by first | exact oz_d2ef3304a1 | omega), show 8 + (3 + 11) + 0 ≤ (200 * d + 640) from (by first | exact oz_0ea4eaa962 | omega)⟩ hl.1 rfl (Nat.le_of_ble_eq_true rfl) d_Mpg_checkConstant_73 ⟨Nat.le_of_ble_eq_true rfl, Nat.le_of_ble_eq_true rfl⟩) hw hA (fun p131 H locs hp131 hw => ?_))
        obtain ⟨cf130, rfl, e133, e134, e135, e136, e137, e138, e139, e140, e141, e142, e143, e144, e145, e146, e147, e148, e149, e150, e151, e152⟩ := hp131
        have e133 : KpE (upd cf107 57 v109) cf130 := e133
        have hke := ((KpE.u57 hke)).tr e133
        have hkz_e133 := e133.2
        have e134 : WrV cf130 (tf 6).toInt := e134
        have hwr := e134
        have hw0_e134 := hwr.1
        have e135 : 1 ≤ (cf130 30).toInt := e135
        have e136 : (cf130 33).toInt = (cf107 33).toInt := e136
        have e137 : (cf130 38).toInt = (cf107 38).toInt := e137
        have e138 : (cf130 48).toInt = (cf107 48).toInt := e138
        have e139 : (cf130 46).toInt = (cf107 46).toInt := e139
        have e140 : (cf130 47).toInt = (cf107 47).toInt := e140
        have e141 : (cf130 57).toInt = v109.toInt := e141
        have e142 : (cf130 37).toInt = (cf107 37).toInt := e142
        have e143 : (cf130 42).toInt = (cf107 42).toInt := e143
        have e144 : (cf130 43).toInt = (cf107 43).toInt := e144
        have e145 : (cf130 44).toInt = (cf107 44).toInt := e145
        have e146 : (cf130 45).toInt = (cf107 45).toInt := e146
        have e147 : (cf130 54).toInt = (cf107 54).toInt := e147
        have e148 : (cf130 55).toInt = (cf107 55).toInt := e148
        have e149 : (cf130 58).toInt = (cf107 58).toInt := e149
        have e150 : (cf130 59).toInt = (cf107 59).toInt := e150
        have e151 : (cf130 41).toInt = (cf107 41).toInt := e151
        have e152 : R_mp_bad (7 : Int32) v125 (upd cf107 57 v109) cf130 := e152
        refine lv_aload_n S.x S.b d_Mpg_checkConstant_76 rfl (lv_at hl 2 rfl) ?_
        refine gP_46 (v := (cf130 46)) S hT hw 0 rfl rfl m10_37 d_Mpg_checkConstant_77 ?_
        refine lv_if_ne (tgt := 94) S.x S.b d_Mpg_checkConstant_80 (by decide) (fun c153 => ?_) (fun c153 => ?_)
        · have nc153 : ¬ (cf130 46).toInt = (0 : Int) := mt (i_eq (x := (cf130 46)) (y := 0)).mpr c153
          refine lv_iconst (v := 0) S.x S.b d_Mpg_checkConstant_94 (by decide) ?_
          refine lv_istore (lv' := [(4, .int 0), (3, .int (cf 47)), (2, .int (cf 46)), (0, .ref h), (1, .int p0)]) S.x S.b d_Mpg_checkConstant_95 hl (by decide) rfl (fun ls hl => ?_)
          refine lv_aload_n S.x S.b d_Mpg_checkConstant_97 rfl (lv_at hl 3 rfl) ?_
          refine lv_iload_n S.x S.b d_Mpg_checkConstant_98 rfl (lv_at hl 2 rfl) ?_
          refine pP_46 S hT hw 0 rfl m10_37 rfl (z_nar (by omega)) (z_fit (by omega)) d_Mpg_checkConstant_99 (ps' := [wdP cs h r g tf ta pf na ma117 wa (upd cf130 46 (cf 46)) ca ef ea xf xa]) rfl (fun H locs hw => ?_)
          refine lv_aload_n S.x S.b d_Mpg_checkConstant_102 rfl (lv_at hl 3 rfl) ?_
          refine lv_iload_n S.x S.b d_Mpg_checkConstant_103 rfl (lv_at hl 1 rfl) ?_
          refine pP_47 S hT hw 0 rfl m10_38 rfl (z_nar (by omega)) (z_fit (by omega)) d_Mpg_checkConstant_104 (ps' := [wdP cs h r g tf ta pf na ma117 wa (upd (upd cf130 46 (cf 46)) 47 (cf 47)) ca ef ea xf xa]) rfl (fun H locs hw => ?_)
          refine lv_iload S.x S.b d_Mpg_checkConstant_107 (lv_at hl 0 rfl) ?_
          first | exact px_iret (v := 0) S hr rfl hlk hAe hw (Nat.le_of_ble_eq_true rfl) (Nat.le_of_ble_eq_true rfl) (⟨ma117, (upd (upd cf130 46 (cf 46)) 47 (cf 47)), rfl, (show KpE cf (upd (upd cf130 46 (cf 46)) 47 (cf 47)) from (KpE.u47 (KpE.u46 hke))), (show WrV (upd (upd cf130 46 (cf 46)) 47 (cf 47)) (tf 6).toInt from (WrV.u (WrV.u hwr (by decide) (by decide)) (by decide) (by decide))), (show (cf130 33).toInt = (cf 33).toInt from (oz_e13fc83238 e9 e136 e112)), (show (cf130 38).toInt = (cf 38).toInt from (oz_e13fc83238 e10 e137 e113)), (show (cf130 48).toInt = (cf 48).toInt from (oz_e13fc83238 e11 e138 e114)), (show (cf 46).toInt = (cf 46).toInt from rfl), (show (cf 47).toInt = (cf 47).toInt from rfl), (show Ann na ma0 ma117 from han), (show FrC lo hi ma ma117 from hfc), (show (0 : Int32) = 0 ∨ (0 : Int32) = 1 from by first | exact Or.inl rfl | exact Or.inr rfl | exact z_or (by omega)), (show (0 : Int) = 0 → 1 ≤ (cf130 30).toInt from by omega), (show R_mp_checkConstant tf ta na ca p0 ma cf ma117 (upd (upd cf130 46 (cf 46)) 47 (cf 47)) (0 : Int32) from (Or.inl ⟨ma3, cf4, e23X, Or.inr ⟨nc24, Or.inr ⟨nc65, cf107, v109, e116X, ma117, hu_ma117, Or.inr ⟨nc118, v125, e128, cf130, e152, Or.inl ⟨nc153, rfl, rfl, rfl⟩⟩⟩⟩⟩))⟩) d_Mpg_checkConstant_109 | (exact px_iret (v := 0) S hr rfl hlk hAe hw (Nat.le_of_ble_eq_true rfl) (Nat.le_of_ble_eq_true rfl) (⟨ma117, (upd (upd cf130 46 (cf 46)) 47 (cf 47)), rfl, (show KpE cf (upd (upd cf130 46 (cf 46)) 47 (cf 47)) from (KpE.u47 (KpE.u46 hke))), (show WrV (upd (upd cf130 46 (cf 46)) 47 (cf 47)) (tf 6).toInt from (WrV.u (WrV.u hwr (by decide) (by decide)) (by decide) (by decide))), (show (cf130 33).toInt = (cf 33).toInt from by first | exact oz_e13fc83238 e9 e136 e112 | omega), (show (cf130 38).toInt = (cf 38).toInt from by first | exact oz_e13fc83238 e10 e137 e113 | omega), (show (cf130 48).toInt = (cf 48).toInt from by first | exact oz_e13fc83238 e11 e138 e114 | omega), (show (cf 46).toInt = (cf 46).toInt from rfl), (show (cf 47).toInt = (cf 47).toInt from rfl), (show Ann na ma0 ma117 from han), (show FrC lo hi ma ma117 from hfc), (show (0 : Int32) = 0 ∨ (0 : Int32) = 1 from by first | exact Or.inl rfl | exact Or.inr rfl | exact z_or (by omega)), (show (0 : Int) = 0 → 1 ≤ (cf130 30).toInt from by omega), (show R_mp_checkConstant tf ta na ca p0 ma cf ma117 (upd (upd cf130 46 (cf 46)) 47 (cf 47)) (0 : Int32) from (Or.inl ⟨ma3, cf4, e23X, Or.inr ⟨nc24, Or.inr ⟨nc65, cf107, v109, e116X, ma117, hu_ma117, Or.inr ⟨nc118, v125, e128, cf130, e152, Or.inl ⟨nc153, rfl, rfl, rfl⟩⟩⟩⟩⟩))⟩) d_Mpg_checkConstant_109)
        · have nc153 : (cf130 46).toInt = (0 : Int) := (i_eq (x := (cf130 46)) (y := 0)).mp c153
          refine lv_aload_n S.x S.b d_Mpg_checkConstant_83 rfl (lv_at hl 2 rfl) ?_
          refine gP_47 (v := (cf130 47)) S hT hw 0 rfl rfl m10_38 d_Mpg_checkConstant_84 ?_
          refine lv_if_ne (tgt := 94) S.x S.b d_Mpg_checkConstant_87 (by decide) (fun c155 => ?_) (fun c155 => ?_)
          · have nc155 : ¬ (cf130 47).toInt = (0 : Int) := mt (i_eq (x := (cf130 47)) (y := 0)).mpr c155
            refine lv_iconst (v := 0) S.x S.b d_Mpg_checkConstant_94 (by decide) ?_
            refine lv_istore (lv' := [(4, .int 0), (3, .int (cf 47)), (2, .int (cf 46)), (0, .ref h), (1, .int p0)]) S.x S.b d_Mpg_checkConstant_95 hl (by decide) rfl (fun ls hl => ?_)
            refine lv_aload_n S.x S.b d_Mpg_checkConstant_97 rfl (lv_at hl 3 rfl) ?_
            refine lv_iload_n S.x S.b d_Mpg_checkConstant_98 rfl (lv_at hl 2 rfl) ?_
            refine pP_46 S hT hw 0 rfl m10_37 rfl (z_nar (by omega)) (z_fit (by omega)) d_Mpg_checkConstant_99 (ps' := [wdP cs h r g tf ta pf na ma117 wa (upd cf130 46 (cf 46)) ca ef ea xf xa]) rfl (fun H locs hw => ?_)
            refine lv_aload_n S.x S.b d_Mpg_checkConstant_102 rfl (lv_at hl 3 rfl) ?_
            refine lv_iload_n S.x S.b d_Mpg_checkConstant_103 rfl (lv_at hl 1 rfl) ?_
            refine pP_47 S hT hw 0 rfl m10_38 rfl (z_nar (by omega)) (z_fit (by omega)) d_Mpg_checkConstant_104 (ps' := [wdP cs h r g tf ta pf na ma117 wa (upd (upd cf130 46 (cf 46)) 47 (cf 47)) ca ef ea xf xa]) rfl (fun H locs hw => ?_)
            refine lv_iload S.x S.b d_Mpg_checkConstant_107 (lv_at hl 0 rfl) ?_
            first | exact px_iret (v := 0) S hr rfl hlk hAe hw (Nat.le_of_ble_eq_true rfl) (Nat.le_of_ble_eq_true rfl) (⟨ma117, (upd (upd cf130 46 (cf 46)) 47 (cf 47)), rfl, (show KpE cf (upd (upd cf130 46 (cf 46)) 47 (cf 47)) from (KpE.u47 (KpE.u46 hke))), (show WrV (upd (upd cf130 46 (cf 46)) 47 (cf 47)) (tf 6).toInt from (WrV.u (WrV.u hwr (by decide) (by decide)) (by decide) (by decide))), (show (cf130 33).toInt = (cf 33).toInt from (oz_e13fc83238 e9 e136 e112)), (show (cf130 38).toInt = (cf 38).toInt from (oz_e13fc83238 e10 e137 e113)), (show (cf130 48).toInt = (cf 48).toInt from (oz_e13fc83238 e11 e138 e114)), (show (cf 46).toInt = (cf 46).toInt from rfl), (show (cf 47).toInt = (cf 47).toInt from rfl), (show Ann na ma0 ma117 from han), (show FrC lo hi ma ma117 from hfc), (show (0 : Int32) = 0 ∨ (0 : Int32) = 1 from by first | exact Or.inl rfl | exact Or.inr rfl | exact z_or (by omega)), (show (0 : Int) = 0 → 1 ≤ (cf130 30).toInt from by omega), (show R_mp_checkConstant tf ta na ca p0 ma cf ma117 (upd (upd cf130 46 (cf 46)) 47 (cf 47)) (0 : Int32) from (Or.inl ⟨ma3, cf4, e23X, Or.inr ⟨nc24, Or.inr ⟨nc65, cf107, v109, e116X, ma117, hu_ma117, Or.inr ⟨nc118, v125, e128, cf130, e152, Or.inr ⟨nc153, Or.inl ⟨nc155, rfl, rfl, rfl⟩⟩⟩⟩⟩⟩))⟩) d_Mpg_checkConstant_109 | (exact px_iret (v := 0) S hr rfl hlk hAe hw (Nat.le_of_ble_eq_true rfl) (Nat.le_of_ble_eq_true rfl) (⟨ma117, (upd (upd cf130 46 (cf 46)) 47 (cf 47)), rfl, (show KpE cf (upd (upd cf130 46 (cf 46)) 47 (cf 47)) from (KpE.u47 (KpE.u46 hke))), (show WrV (upd (upd cf130 46 (cf 46)) 47 (cf 47)) (tf 6).toInt from (WrV.u (WrV.u hwr (by decide) (by decide)) (by decide) (by decide))), (show (cf130 33).toInt = (cf 33).toInt from by first | exact oz_e13fc83238 e9 e136 e112 | omega), (show (cf130 38).toInt = (cf 38).toInt from by first | exact oz_e13fc83238 e10 e137 e113 | omega), (show (cf130 48).toInt = (cf 48).toInt from by first | exact oz_e13fc83238 e11 e138 e114 | omega), (show (cf 46).toInt = (cf 46).toInt from rfl), (show (cf 47).toInt = (cf 47).toInt from rfl), (show Ann na ma0 ma117 from han), (show FrC lo hi ma ma117 from hfc), (show (0 : Int32) = 0 ∨ (0 : Int32) = 1 from by first | exact Or.inl rfl | exact Or.inr rfl | exact z_or (by omega)), (show (0 : Int) = 0 → 1 ≤ (cf130 30).toInt from by omega), (show R_mp_checkConstant tf ta na ca p0 ma cf ma117 (upd (upd cf130 46 (cf 46)) 47 (cf 47)) (0 : Int32) from (Or.inl ⟨ma3, cf4, e23X, Or.inr ⟨nc24, Or.inr ⟨nc65, cf107, v109, e116X, ma117, hu_ma117, Or.inr ⟨nc118, v125, e128, cf130, e152, Or.inr ⟨nc153, Or.inl ⟨nc155, rfl, rfl, rfl⟩⟩⟩⟩⟩⟩))⟩) d_Mpg_checkConstant_109)
          · have nc155 : (cf130 47).toInt = (0 : Int) := (i_eq (x := (cf130 47)) (y := 0)).mp c155
            refine lv_iconst (v := 1) S.x S.b d_Mpg_checkConstant_90 (by decide) ?_
            refine lv_goto (tgt := 95) S.x S.b d_Mpg_checkConstant_91 (by decide) ?_
            refine lv_istore (lv' := [(4, .int 1), (3, .int (cf 47)), (2, .int (cf 46)), (0, .ref h), (1, .int p0)]) S.x S.b d_Mpg_checkConstant_95 hl (by decide) rfl (fun ls hl => ?_)
            refine lv_aload_n S.x S.b d_Mpg_checkConstant_97 rfl (lv_at hl 3 rfl) ?_
            refine lv_iload_n S.x S.b d_Mpg_checkConstant_98 rfl (lv_at hl 2 rfl) ?_
            refine pP_46 S hT hw 0 rfl m10_37 rfl (z_nar (by omega)) (z_fit (by omega)) d_Mpg_checkConstant_99 (ps' := [wdP cs h r g tf ta pf na ma117 wa (upd cf130 46 (cf 46)) ca ef ea xf xa]) rfl (fun H locs hw => ?_)
            refine lv_aload_n S.x S.b d_Mpg_checkConstant_102 rfl (lv_at hl 3 rfl) ?_
            refine lv_iload_n S.x S.b d_Mpg_checkConstant_103 rfl (lv_at hl 1 rfl) ?_
            refine pP_47 S hT hw 0 rfl m10_38 rfl (z_nar (by omega)) (z_fit (by omega)) d_Mpg_checkConstant_104 (ps' := [wdP cs h r g tf ta pf na ma117 wa (upd (upd cf130 46 (cf 46)) 47 (cf 47)) ca ef ea xf xa]) rfl (fun H locs hw => ?_)
            refine lv_iload S.x S.b d_Mpg_checkConstant_107 (lv_at hl 0 rfl) ?_
            first | exact px_iret (v := 1) S hr rfl hlk hAe hw (Nat.le_of_ble_eq_true rfl) (Nat.le_of_ble_eq_true rfl) (⟨ma117, (upd (upd cf130 46 (cf 46)) 47 (cf 47)), rfl, (show KpE cf (upd (upd cf130 46 (cf 46)) 47 (cf 47)) from (KpE.u47 (KpE.u46 hke))), (show WrV (upd (upd cf130 46 (cf 46)) 47 (cf 47)) (tf 6).toInt from (WrV.u (WrV.u hwr (by decide) (by decide)) (by decide) (by decide))), (show (cf130 33).toInt = (cf 33).toInt from (oz_e13fc83238 e9 e136 e112)), (show (cf130 38).toInt = (cf 38).toInt from (oz_e13fc83238 e10 e137 e113)), (show (cf130 48).toInt = (cf 48).toInt from (oz_e13fc83238 e11 e138 e114)), (show (cf 46).toInt = (cf 46).toInt from rfl), (show (cf 47).toInt = (cf 47).toInt from rfl), (show Ann na ma0 ma117 from han), (show FrC lo hi ma ma117 from hfc), (show (1 : Int32) = 0 ∨ (1 : Int32) = 1 from by first | exact Or.inl rfl | exact Or.inr rfl | exact z_or (by omega)), (show (1 : Int) = 0 → 1 ≤ (cf130 30).toInt from by omega), (show R_mp_checkConstant tf ta na ca p0 ma cf ma117 (upd (upd cf130 46 (cf 46)) 47 (cf 47)) (1 : Int32) from (Or.inl ⟨ma3, cf4, e23X, Or.inr ⟨nc24, Or.inr ⟨nc65, cf107, v109, e116X, ma117, hu_ma117, Or.inr ⟨nc118, v125, e128, cf130, e152, Or.inr ⟨nc153, Or.inr ⟨nc155, rfl, rfl, rfl⟩⟩⟩⟩⟩⟩))⟩) d_Mpg_checkConstant_109 | (exact px_iret (v := 1) S hr rfl hlk hAe hw (Nat.le_of_ble_eq_true rfl) (Nat.le_of_ble_eq_true rfl) (⟨ma117, (upd (upd cf130 46 (cf 46)) 47 (cf 47)), rfl, (show KpE cf (upd (upd cf130 46 (cf 46)) 47 (cf 47)) from (KpE.u47 (KpE.u46 hke))), (show WrV (upd (upd cf130 46 (cf 46)) 47 (cf 47)) (tf 6).toInt from (WrV.u (WrV.u hwr (by decide) (by decide)) (by decide) (by decide))), (show (cf130 33).toInt = (cf 33).toInt from by first | exact oz_e13fc83238 e9 e136 e112 | omega), (show (cf130 38).toInt = (cf 38).toInt from by first | exact oz_e13fc83238 e10 e137 e113 | omega), (show (cf130 48).toInt = (cf 48).toInt from by first | exact oz_e13fc83238 e11 e138 e114 | omega), (show (cf 46).toInt = (cf 46).toInt from rfl), (show (cf 47).toInt = (cf 47).toInt from rfl), (show Ann na ma0 ma117 from han), (show FrC lo hi ma ma117 from hfc), (show (1 : Int32) = 0 ∨ (1 : Int32) = 1 from by first | exact Or.inl rfl | exact Or.inr rfl | exact z_or (by omega)), (show (1 : Int) = 0 → 1 ≤ (cf130 30).toInt from by omega), (show R_mp_checkConstant tf ta na ca p0 ma cf ma117 (upd (upd cf130 46 (cf 46)) 47 (cf 47)) (1 : Int32) from (Or.inl ⟨ma3, cf4, e23X, Or.inr ⟨nc24, Or.inr ⟨nc65, cf107, v109, e116X, ma117, hu_ma117, Or.inr ⟨nc118, v125, e128, cf130, e152, Or.inr ⟨nc153, Or.inr ⟨nc155, rfl, rfl, rfl⟩⟩⟩⟩⟩⟩))⟩) d_Mpg_checkConstant_109)
