theorem oz_8d1dd37214 {a0 a1 a2 a3 : Int} (h0 : a2 ≤ a1) (h1 : a0 ≤ a3) (h2 : a3 < a2) : a0 ≤ a1 := by omega
theorem oz_e7688a0eb5 {a0 a1 a2 a3 a4 : Int} (h0 : 0 ≤ a0) (h1 : a0 < a1) (h2 : a1 ≤ a2) (h3 : a3 ≤ a4) (h4 : a2 < a3) (h5 : a4 ≤ 2100) : 0 ≤ a0 ∧ a0 < ((2100 : Nat) : Int) := by omega
theorem oz_eacedfd6de {a0 a1 a2 a3 : Int} (h0 : a0 = a1) (h1 : 0 ≤ a1) (h2 : a1 + a2 ≤ a3) (h3 : 1 ≤ a2) (h4 : a3 ≤ 2048) : 0 ≤ a0 ∧ a0 < ((2048 : Nat) : Int) := by omega
theorem m13_10 : Cond.methodLink "HomeSystemModel$Program" 609 ⟨"HomeSystemModel$Program", "reckon", "(I)I"⟩ ∈ AL := AL_13 (List.mem_of_getElem? (i := 10) rfl) rfl
theorem m13_13 : Cond.code ⟨"HomeSystemModel$Program", "reckon", "(I)I"⟩ prog_16_method_84_code 7 (Option.some FieldType.int) ∈ AL := AL_13 (List.mem_of_getElem? (i := 13) rfl) rfl
theorem ms_13_0 : Cond.selects "HomeSystemModel$Program" ⟨"HomeSystemModel$Program", "reckon", "(I)I"⟩ ⟨"HomeSystemModel$Program", "reckon", "(I)I"⟩ ∈ AL := AL_p (q := (⟨"HomeSystemModel$Program", "reckon", "(I)I"⟩, 69)) (by unfold lw_privs; exact List.mem_append_right _ (List.mem_append_right _ (List.mem_append_right _ (List.mem_append_right _ (List.mem_append_right _ (List.mem_append_right _ (List.mem_append_right _ (List.mem_append_right _ (List.mem_append_right _ (List.mem_append_right _ (List.mem_append_right _ (List.mem_append_right _ (List.mem_append_left _ (List.mem_of_getElem? (i := 0) rfl))))))))))))))
theorem m13_12 : Cond.instanceMethod ⟨"HomeSystemModel$Program", "reckon", "(I)I"⟩ ∈ AL := AL_13 (List.mem_of_getElem? (i := 12) rfl) rfl
theorem m13_14 : Cond.methodLink "HomeSystemModel$Program" 615 ⟨"HomeSystemModel$Program", "two", "(III)I"⟩ ∈ AL := AL_13 (List.mem_of_getElem? (i := 14) rfl) rfl
theorem m13_17 : Cond.code ⟨"HomeSystemModel$Program", "two", "(III)I"⟩ prog_16_method_85_code 6 (Option.some FieldType.int) ∈ AL := AL_13 (List.mem_of_getElem? (i := 17) rfl) rfl
theorem ms_13_1 : Cond.selects "HomeSystemModel$Program" ⟨"HomeSystemModel$Program", "two", "(III)I"⟩ ⟨"HomeSystemModel$Program", "two", "(III)I"⟩ ∈ AL := AL_p (q := (⟨"HomeSystemModel$Program", "two", "(III)I"⟩, 69)) (by unfold lw_privs; exact List.mem_append_right _ (List.mem_append_right _ (List.mem_append_right _ (List.mem_append_right _ (List.mem_append_right _ (List.mem_append_right _ (List.mem_append_right _ (List.mem_append_right _ (List.mem_append_right _ (List.mem_append_right _ (List.mem_append_right _ (List.mem_append_right _ (List.mem_append_left _ (List.mem_of_getElem? (i := 1) rfl))))))))))))))
theorem m13_16 : Cond.instanceMethod ⟨"HomeSystemModel$Program", "two", "(III)I"⟩ ∈ AL := AL_13 (List.mem_of_getElem? (i := 16) rfl) rfl
theorem m10_54 : Cond.fieldLink "HomeSystemModel$Program" 612 "HomeSystemModel$Program" "result" "I" ∈ AL := AL_10 (List.mem_of_getElem? (i := 54) rfl) rfl
theorem z_fit {v : Int32} (h : v.toInt = 0 ∨ v.toInt = 1) : fits .boolean (.int v) = true := by
  have : v = 0 ∨ v = 1 := h.imp (fun q => i_eq.mpr q) (fun q => i_eq.mpr q)
  rcases this with rfl | rfl <;> rfl
abbrev b_Mpg_reckon : ByteArray := prog_16_method_84_code
def y_Mpg_reckon : MethodName := ⟨"HomeSystemModel$Program", "reckon", "(I)I"⟩
theorem d_Mpg_reckon_0 : decode b_Mpg_reckon 0 = .ok (.aload_n 0, 1) := by decide +kernel
theorem d_Mpg_reckon_1 : decode b_Mpg_reckon 1 = .ok (.getfield 207, 3) := by decide +kernel
theorem d_Mpg_reckon_4 : decode b_Mpg_reckon 4 = .ok (.iload_n 1, 1) := by decide +kernel
theorem d_Mpg_reckon_5 : decode b_Mpg_reckon 5 = .ok (.baload, 1) := by decide +kernel
theorem d_Mpg_reckon_6 : decode b_Mpg_reckon 6 = .ok (.tableswitch 183 1 8 #[46, 58, 183, 183, 75, 183, 183, 146], 46) := by decide +kernel
theorem d_Mpg_reckon_52 : decode b_Mpg_reckon 52 = .ok (.aload_n 0, 1) := by decide +kernel
theorem d_Mpg_reckon_53 : decode b_Mpg_reckon 53 = .ok (.getfield 204, 3) := by decide +kernel
theorem d_Mpg_reckon_56 : decode b_Mpg_reckon 56 = .ok (.aload_n 0, 1) := by decide +kernel
theorem d_Mpg_reckon_57 : decode b_Mpg_reckon 57 = .ok (.getfield 210, 3) := by decide +kernel
theorem d_Mpg_reckon_60 : decode b_Mpg_reckon 60 = .ok (.iload_n 1, 1) := by decide +kernel
theorem d_Mpg_reckon_61 : decode b_Mpg_reckon 61 = .ok (.iaload, 1) := by decide +kernel
theorem d_Mpg_reckon_62 : decode b_Mpg_reckon 62 = .ok (.iaload, 1) := by decide +kernel
theorem d_Mpg_reckon_63 : decode b_Mpg_reckon 63 = .ok (.ireturn, 1) := by decide +kernel
theorem d_Mpg_reckon_64 : decode b_Mpg_reckon 64 = .ok (.aload_n 0, 1) := by decide +kernel
theorem d_Mpg_reckon_65 : decode b_Mpg_reckon 65 = .ok (.getfield 252, 3) := by decide +kernel
theorem d_Mpg_reckon_68 : decode b_Mpg_reckon 68 = .ok (.aload_n 0, 1) := by decide +kernel
theorem d_Mpg_reckon_69 : decode b_Mpg_reckon 69 = .ok (.aload_n 0, 1) := by decide +kernel
theorem d_Mpg_reckon_70 : decode b_Mpg_reckon 70 = .ok (.getfield 210, 3) := by decide +kernel
theorem d_Mpg_reckon_73 : decode b_Mpg_reckon 73 = .ok (.iload_n 1, 1) := by decide +kernel
theorem d_Mpg_reckon_74 : decode b_Mpg_reckon 74 = .ok (.iaload, 1) := by decide +kernel
theorem d_Mpg_reckon_75 : decode b_Mpg_reckon 75 = .ok (.iconst 0, 1) := by decide +kernel
theorem d_Mpg_reckon_76 : decode b_Mpg_reckon 76 = .ok (.invokevirtual 559, 3) := by decide +kernel
theorem d_Mpg_reckon_79 : decode b_Mpg_reckon 79 = .ok (.iaload, 1) := by decide +kernel
theorem d_Mpg_reckon_80 : decode b_Mpg_reckon 80 = .ok (.ireturn, 1) := by decide +kernel
theorem d_Mpg_reckon_81 : decode b_Mpg_reckon 81 = .ok (.aload_n 0, 1) := by decide +kernel
theorem d_Mpg_reckon_82 : decode b_Mpg_reckon 82 = .ok (.aload_n 0, 1) := by decide +kernel
theorem d_Mpg_reckon_83 : decode b_Mpg_reckon 83 = .ok (.getfield 216, 3) := by decide +kernel
theorem d_Mpg_reckon_86 : decode b_Mpg_reckon 86 = .ok (.iload_n 1, 1) := by decide +kernel
theorem d_Mpg_reckon_87 : decode b_Mpg_reckon 87 = .ok (.iaload, 1) := by decide +kernel
theorem d_Mpg_reckon_88 : decode b_Mpg_reckon 88 = .ok (.invokevirtual 609, 3) := by decide +kernel
theorem d_Mpg_reckon_91 : decode b_Mpg_reckon 91 = .ok (.istore_n 2, 1) := by decide +kernel
theorem d_Mpg_reckon_92 : decode b_Mpg_reckon 92 = .ok (.aload_n 0, 1) := by decide +kernel
theorem d_Mpg_reckon_93 : decode b_Mpg_reckon 93 = .ok (.getfield 190, 3) := by decide +kernel
theorem d_Mpg_reckon_96 : decode b_Mpg_reckon 96 = .ok (.aload_n 0, 1) := by decide +kernel
theorem d_Mpg_reckon_97 : decode b_Mpg_reckon 97 = .ok (.getfield 194, 3) := by decide +kernel
theorem d_Mpg_reckon_100 : decode b_Mpg_reckon 100 = .ok (.aload_n 0, 1) := by decide +kernel
theorem d_Mpg_reckon_101 : decode b_Mpg_reckon 101 = .ok (.getfield 210, 3) := by decide +kernel
theorem d_Mpg_reckon_104 : decode b_Mpg_reckon 104 = .ok (.iload_n 1, 1) := by decide +kernel
theorem d_Mpg_reckon_105 : decode b_Mpg_reckon 105 = .ok (.iaload, 1) := by decide +kernel
theorem d_Mpg_reckon_106 : decode b_Mpg_reckon 106 = .ok (.iaload, 1) := by decide +kernel
theorem d_Mpg_reckon_107 : decode b_Mpg_reckon 107 = .ok (.baload, 1) := by decide +kernel
theorem d_Mpg_reckon_108 : decode b_Mpg_reckon 108 = .ok (.istore_n 3, 1) := by decide +kernel
theorem d_Mpg_reckon_109 : decode b_Mpg_reckon 109 = .ok (.iload_n 3, 1) := by decide +kernel
theorem d_Mpg_reckon_110 : decode b_Mpg_reckon 110 = .ok (.bipush 45, 2) := by decide +kernel
theorem d_Mpg_reckon_112 : decode b_Mpg_reckon 112 = .ok (.if_icmp .ne 8, 3) := by decide +kernel
theorem d_Mpg_reckon_115 : decode b_Mpg_reckon 115 = .ok (.iload_n 2, 1) := by decide +kernel
theorem d_Mpg_reckon_116 : decode b_Mpg_reckon 116 = .ok (.ineg, 1) := by decide +kernel
theorem d_Mpg_reckon_117 : decode b_Mpg_reckon 117 = .ok (.goto 34, 3) := by decide +kernel
theorem d_Mpg_reckon_120 : decode b_Mpg_reckon 120 = .ok (.iload_n 3, 1) := by decide +kernel
theorem d_Mpg_reckon_121 : decode b_Mpg_reckon 121 = .ok (.bipush 33, 2) := by decide +kernel
theorem d_Mpg_reckon_123 : decode b_Mpg_reckon 123 = .ok (.if_icmp .ne 15, 3) := by decide +kernel
theorem d_Mpg_reckon_126 : decode b_Mpg_reckon 126 = .ok (.iload_n 2, 1) := by decide +kernel
theorem d_Mpg_reckon_127 : decode b_Mpg_reckon 127 = .ok (.ifCond .ne 7, 3) := by decide +kernel
theorem d_Mpg_reckon_130 : decode b_Mpg_reckon 130 = .ok (.iconst 1, 1) := by decide +kernel
theorem d_Mpg_reckon_131 : decode b_Mpg_reckon 131 = .ok (.goto 20, 3) := by decide +kernel
theorem d_Mpg_reckon_134 : decode b_Mpg_reckon 134 = .ok (.iconst 0, 1) := by decide +kernel
theorem d_Mpg_reckon_135 : decode b_Mpg_reckon 135 = .ok (.goto 16, 3) := by decide +kernel
theorem d_Mpg_reckon_138 : decode b_Mpg_reckon 138 = .ok (.iload_n 3, 1) := by decide +kernel
theorem d_Mpg_reckon_139 : decode b_Mpg_reckon 139 = .ok (.bipush 126, 2) := by decide +kernel
theorem d_Mpg_reckon_141 : decode b_Mpg_reckon 141 = .ok (.if_icmp .ne 9, 3) := by decide +kernel
theorem d_Mpg_reckon_144 : decode b_Mpg_reckon 144 = .ok (.iload_n 2, 1) := by decide +kernel
theorem d_Mpg_reckon_145 : decode b_Mpg_reckon 145 = .ok (.iconst (-1), 1) := by decide +kernel
theorem d_Mpg_reckon_146 : decode b_Mpg_reckon 146 = .ok (.ixor, 1) := by decide +kernel
theorem d_Mpg_reckon_147 : decode b_Mpg_reckon 147 = .ok (.goto 4, 3) := by decide +kernel
theorem d_Mpg_reckon_150 : decode b_Mpg_reckon 150 = .ok (.iload_n 2, 1) := by decide +kernel
theorem d_Mpg_reckon_151 : decode b_Mpg_reckon 151 = .ok (.ireturn, 1) := by decide +kernel
theorem d_Mpg_reckon_152 : decode b_Mpg_reckon 152 = .ok (.aload_n 0, 1) := by decide +kernel
theorem d_Mpg_reckon_153 : decode b_Mpg_reckon 153 = .ok (.aload_n 0, 1) := by decide +kernel
theorem d_Mpg_reckon_154 : decode b_Mpg_reckon 154 = .ok (.getfield 216, 3) := by decide +kernel
theorem d_Mpg_reckon_157 : decode b_Mpg_reckon 157 = .ok (.iload_n 1, 1) := by decide +kernel
theorem d_Mpg_reckon_158 : decode b_Mpg_reckon 158 = .ok (.iaload, 1) := by decide +kernel
theorem d_Mpg_reckon_159 : decode b_Mpg_reckon 159 = .ok (.invokevirtual 609, 3) := by decide +kernel
theorem d_Mpg_reckon_162 : decode b_Mpg_reckon 162 = .ok (.ifCond .eq 16, 3) := by decide +kernel
theorem d_Mpg_reckon_165 : decode b_Mpg_reckon 165 = .ok (.aload_n 0, 1) := by decide +kernel
theorem d_Mpg_reckon_166 : decode b_Mpg_reckon 166 = .ok (.aload_n 0, 1) := by decide +kernel
theorem d_Mpg_reckon_167 : decode b_Mpg_reckon 167 = .ok (.getfield 219, 3) := by decide +kernel
theorem d_Mpg_reckon_170 : decode b_Mpg_reckon 170 = .ok (.iload_n 1, 1) := by decide +kernel
theorem d_Mpg_reckon_171 : decode b_Mpg_reckon 171 = .ok (.iaload, 1) := by decide +kernel
theorem d_Mpg_reckon_172 : decode b_Mpg_reckon 172 = .ok (.invokevirtual 609, 3) := by decide +kernel
theorem d_Mpg_reckon_175 : decode b_Mpg_reckon 175 = .ok (.goto 13, 3) := by decide +kernel
theorem d_Mpg_reckon_178 : decode b_Mpg_reckon 178 = .ok (.aload_n 0, 1) := by decide +kernel
theorem d_Mpg_reckon_179 : decode b_Mpg_reckon 179 = .ok (.aload_n 0, 1) := by decide +kernel
theorem d_Mpg_reckon_180 : decode b_Mpg_reckon 180 = .ok (.getfield 222, 3) := by decide +kernel
theorem d_Mpg_reckon_183 : decode b_Mpg_reckon 183 = .ok (.iload_n 1, 1) := by decide +kernel
theorem d_Mpg_reckon_184 : decode b_Mpg_reckon 184 = .ok (.iaload, 1) := by decide +kernel
theorem d_Mpg_reckon_185 : decode b_Mpg_reckon 185 = .ok (.invokevirtual 609, 3) := by decide +kernel
theorem d_Mpg_reckon_188 : decode b_Mpg_reckon 188 = .ok (.ireturn, 1) := by decide +kernel
theorem d_Mpg_reckon_189 : decode b_Mpg_reckon 189 = .ok (.aload_n 0, 1) := by decide +kernel
theorem d_Mpg_reckon_190 : decode b_Mpg_reckon 190 = .ok (.getfield 231, 3) := by decide +kernel
theorem d_Mpg_reckon_193 : decode b_Mpg_reckon 193 = .ok (.iload_n 1, 1) := by decide +kernel
theorem d_Mpg_reckon_194 : decode b_Mpg_reckon 194 = .ok (.iaload, 1) := by decide +kernel
theorem d_Mpg_reckon_195 : decode b_Mpg_reckon 195 = .ok (.istore 4, 2) := by decide +kernel
theorem d_Mpg_reckon_197 : decode b_Mpg_reckon 197 = .ok (.aload_n 0, 1) := by decide +kernel
theorem d_Mpg_reckon_198 : decode b_Mpg_reckon 198 = .ok (.aload_n 0, 1) := by decide +kernel
theorem d_Mpg_reckon_199 : decode b_Mpg_reckon 199 = .ok (.getfield 216, 3) := by decide +kernel
theorem d_Mpg_reckon_202 : decode b_Mpg_reckon 202 = .ok (.iload_n 1, 1) := by decide +kernel
theorem d_Mpg_reckon_203 : decode b_Mpg_reckon 203 = .ok (.iaload, 1) := by decide +kernel
theorem d_Mpg_reckon_204 : decode b_Mpg_reckon 204 = .ok (.invokevirtual 609, 3) := by decide +kernel
theorem d_Mpg_reckon_207 : decode b_Mpg_reckon 207 = .ok (.istore 5, 2) := by decide +kernel
theorem d_Mpg_reckon_209 : decode b_Mpg_reckon 209 = .ok (.aload_n 0, 1) := by decide +kernel
theorem d_Mpg_reckon_210 : decode b_Mpg_reckon 210 = .ok (.getfield 228, 3) := by decide +kernel
theorem d_Mpg_reckon_213 : decode b_Mpg_reckon 213 = .ok (.aload_n 0, 1) := by decide +kernel
theorem d_Mpg_reckon_214 : decode b_Mpg_reckon 214 = .ok (.getfield 216, 3) := by decide +kernel
theorem d_Mpg_reckon_217 : decode b_Mpg_reckon 217 = .ok (.iload_n 1, 1) := by decide +kernel
theorem d_Mpg_reckon_218 : decode b_Mpg_reckon 218 = .ok (.iaload, 1) := by decide +kernel
theorem d_Mpg_reckon_219 : decode b_Mpg_reckon 219 = .ok (.iaload, 1) := by decide +kernel
theorem d_Mpg_reckon_220 : decode b_Mpg_reckon 220 = .ok (.istore 6, 2) := by decide +kernel
theorem d_Mpg_reckon_222 : decode b_Mpg_reckon 222 = .ok (.iload 6, 2) := by decide +kernel
theorem d_Mpg_reckon_224 : decode b_Mpg_reckon 224 = .ok (.ifCond .lt 96, 3) := by decide +kernel
theorem d_Mpg_reckon_227 : decode b_Mpg_reckon 227 = .ok (.iload 4, 2) := by decide +kernel
theorem d_Mpg_reckon_229 : decode b_Mpg_reckon 229 = .ok (.iconst 1, 1) := by decide +kernel
theorem d_Mpg_reckon_230 : decode b_Mpg_reckon 230 = .ok (.if_icmp .ne 27, 3) := by decide +kernel
theorem d_Mpg_reckon_233 : decode b_Mpg_reckon 233 = .ok (.iload 5, 2) := by decide +kernel
theorem d_Mpg_reckon_235 : decode b_Mpg_reckon 235 = .ok (.ifCond .ne 12, 3) := by decide +kernel
theorem d_Mpg_reckon_238 : decode b_Mpg_reckon 238 = .ok (.aload_n 0, 1) := by decide +kernel
theorem d_Mpg_reckon_239 : decode b_Mpg_reckon 239 = .ok (.iload 6, 2) := by decide +kernel
theorem d_Mpg_reckon_241 : decode b_Mpg_reckon 241 = .ok (.invokevirtual 609, 3) := by decide +kernel
theorem d_Mpg_reckon_244 : decode b_Mpg_reckon 244 = .ok (.ifCond .eq 7, 3) := by decide +kernel
theorem d_Mpg_reckon_247 : decode b_Mpg_reckon 247 = .ok (.iconst 1, 1) := by decide +kernel
theorem d_Mpg_reckon_248 : decode b_Mpg_reckon 248 = .ok (.goto 4, 3) := by decide +kernel
theorem d_Mpg_reckon_251 : decode b_Mpg_reckon 251 = .ok (.iconst 0, 1) := by decide +kernel
theorem d_Mpg_reckon_252 : decode b_Mpg_reckon 252 = .ok (.istore 5, 2) := by decide +kernel
theorem d_Mpg_reckon_254 : decode b_Mpg_reckon 254 = .ok (.goto 54, 3) := by decide +kernel
theorem d_Mpg_reckon_257 : decode b_Mpg_reckon 257 = .ok (.iload 4, 2) := by decide +kernel
theorem d_Mpg_reckon_259 : decode b_Mpg_reckon 259 = .ok (.iconst 2, 1) := by decide +kernel
theorem d_Mpg_reckon_260 : decode b_Mpg_reckon 260 = .ok (.if_icmp .ne 27, 3) := by decide +kernel
theorem d_Mpg_reckon_263 : decode b_Mpg_reckon 263 = .ok (.iload 5, 2) := by decide +kernel
theorem d_Mpg_reckon_265 : decode b_Mpg_reckon 265 = .ok (.ifCond .eq 16, 3) := by decide +kernel
theorem d_Mpg_reckon_268 : decode b_Mpg_reckon 268 = .ok (.aload_n 0, 1) := by decide +kernel
theorem d_Mpg_reckon_269 : decode b_Mpg_reckon 269 = .ok (.iload 6, 2) := by decide +kernel
theorem d_Mpg_reckon_271 : decode b_Mpg_reckon 271 = .ok (.invokevirtual 609, 3) := by decide +kernel
theorem d_Mpg_reckon_274 : decode b_Mpg_reckon 274 = .ok (.ifCond .eq 7, 3) := by decide +kernel
theorem d_Mpg_reckon_277 : decode b_Mpg_reckon 277 = .ok (.iconst 1, 1) := by decide +kernel
theorem d_Mpg_reckon_278 : decode b_Mpg_reckon 278 = .ok (.goto 4, 3) := by decide +kernel
theorem d_Mpg_reckon_281 : decode b_Mpg_reckon 281 = .ok (.iconst 0, 1) := by decide +kernel
theorem d_Mpg_reckon_282 : decode b_Mpg_reckon 282 = .ok (.istore 5, 2) := by decide +kernel
theorem d_Mpg_reckon_284 : decode b_Mpg_reckon 284 = .ok (.goto 24, 3) := by decide +kernel
theorem d_Mpg_reckon_287 : decode b_Mpg_reckon 287 = .ok (.aload_n 0, 1) := by decide +kernel
theorem d_Mpg_reckon_288 : decode b_Mpg_reckon 288 = .ok (.aload_n 0, 1) := by decide +kernel
theorem d_Mpg_reckon_289 : decode b_Mpg_reckon 289 = .ok (.getfield 225, 3) := by decide +kernel
theorem d_Mpg_reckon_292 : decode b_Mpg_reckon 292 = .ok (.iload 6, 2) := by decide +kernel
theorem d_Mpg_reckon_294 : decode b_Mpg_reckon 294 = .ok (.iaload, 1) := by decide +kernel
theorem d_Mpg_reckon_295 : decode b_Mpg_reckon 295 = .ok (.iload 5, 2) := by decide +kernel
theorem d_Mpg_reckon_297 : decode b_Mpg_reckon 297 = .ok (.aload_n 0, 1) := by decide +kernel
theorem d_Mpg_reckon_298 : decode b_Mpg_reckon 298 = .ok (.iload 6, 2) := by decide +kernel
theorem d_Mpg_reckon_300 : decode b_Mpg_reckon 300 = .ok (.invokevirtual 609, 3) := by decide +kernel
theorem d_Mpg_reckon_303 : decode b_Mpg_reckon 303 = .ok (.invokevirtual 615, 3) := by decide +kernel
theorem d_Mpg_reckon_306 : decode b_Mpg_reckon 306 = .ok (.istore 5, 2) := by decide +kernel
theorem d_Mpg_reckon_308 : decode b_Mpg_reckon 308 = .ok (.aload_n 0, 1) := by decide +kernel
theorem d_Mpg_reckon_309 : decode b_Mpg_reckon 309 = .ok (.getfield 228, 3) := by decide +kernel
theorem d_Mpg_reckon_312 : decode b_Mpg_reckon 312 = .ok (.iload 6, 2) := by decide +kernel
theorem d_Mpg_reckon_314 : decode b_Mpg_reckon 314 = .ok (.iaload, 1) := by decide +kernel
theorem d_Mpg_reckon_315 : decode b_Mpg_reckon 315 = .ok (.istore 6, 2) := by decide +kernel
theorem d_Mpg_reckon_317 : decode b_Mpg_reckon 317 = .ok (.goto (-95), 3) := by decide +kernel
theorem d_Mpg_reckon_320 : decode b_Mpg_reckon 320 = .ok (.iload 5, 2) := by decide +kernel
theorem d_Mpg_reckon_322 : decode b_Mpg_reckon 322 = .ok (.ireturn, 1) := by decide +kernel
theorem q_Mpg_reckon : px_y y_Mpg_reckon 1 := by unfold px_y; decide +kernel
def RkC (l : Launch) (D : va_G) (cs : Nat → ClassId) (d : Nat) : Prop := ∀ (ma0 : Nat → Nat → Int32) (ys : Int) (ns : Int) (nf : Int) (kn : Int) (lo : Int) (hi : Int) (h : Nat) (r : Nat → Nat) (g : Nat → Nat → Option Nat) (tf : Nat → Int32) (ta : Nat → Nat → Int32) (pf : Nat → Int32) (na : Nat → Nat → Int32) (ma : Nat → Nat → Int32) (wa : Nat → Nat → Int32) (ca : Nat → Nat → Int32) (ef : Nat → Int32) (ea : Nat → Nat → Int32) (xf : Nat → Int32) (xa : Nat → Nat → Int32) (cf : Nat → Int32) (p0 : Int32)  (g0 : 0 ≤ lo) (g1 : hi ≤ (pf 13).toInt) (g2 : (pf 13).toInt ≤ 2100) (g3 : (tf 6).toInt ≤ 2049) (g4 : (cf 33).toInt = kn) (g5 : 0 ≤ kn) (g6 : (cf 48).toInt = ns) (g7 : (cf 38).toInt = nf) (g8 : 0 ≤ nf) (htk : TkI tf ta) (hfs : FsI (tf 6).toInt (pf 13).toInt na) (hwr : WrV cf (tf 6).toInt) (hkt : KnT (tf 6).toInt ca (cf 33).toInt) (hft : FnT (tf 6).toInt na ca (cf 38).toInt) (han : Ann na ma0 ma) (hec : EcV ta (tf 6).toInt na ma0 d lo hi p0) (hrk : Rk ta ca na ma0 kn d p0), MetI l y_Mpg_reckon b_Mpg_reckon 7 (.int) D cs (2 * d + 6) (100 * d + 240) (0) (0) [.ref h, .int p0] [wdP cs h r g tf ta pf na ma wa cf ca ef ea xf xa] (oX (fun A U H => (oP A g U H)) [wdP cs h r g tf ta pf na ma wa cf ca ef ea xf xa]) (fun v ps => ∃ (cf' : Nat → Int32), (ps = [wdP cs h r g tf ta pf na ma wa cf' ca ef ea xf xa]) ∧ (KpE cf cf') ∧ (WrV cf' (tf 6).toInt) ∧ ((cf' 33).toInt = (cf 33).toInt) ∧ ((cf' 38).toInt = (cf 38).toInt) ∧ ((cf' 48).toInt = (cf 48).toInt) ∧ ((cf' 47).toInt = (cf 47).toInt))
set_option maxHeartbeats 4000000 in
set_option maxRecDepth 100000 in
theorem c_mp_reckon (l : Launch) (D : va_G) (cs : Nat → ClassId) (ma0 : Nat → Nat → Int32) (ys : Int) (ns : Int) (nf : Int) (kn : Int) (d : Nat) (lo : Int) (hi : Int) (h : Nat) (r : Nat → Nat) (g : Nat → Nat → Option Nat) (tf : Nat → Int32) (ta : Nat → Nat → Int32) (pf : Nat → Int32) (na : Nat → Nat → Int32) (ma : Nat → Nat → Int32) (wa : Nat → Nat → Int32) (ca : Nat → Nat → Int32) (ef : Nat → Int32) (ea : Nat → Nat → Int32) (xf : Nat → Int32) (xa : Nat → Nat → Int32) (cf : Nat → Int32) (p0 : Int32)  (g0 : 0 ≤ lo) (g1 : hi ≤ (pf 13).toInt) (g2 : (pf 13).toInt ≤ 2100) (g3 : (tf 6).toInt ≤ 2049) (g4 : (cf 33).toInt = kn) (g5 : 0 ≤ kn) (g6 : (cf 48).toInt = ns) (g7 : (cf 38).toInt = nf) (g8 : 0 ≤ nf) (htk : TkI tf ta) (hfs : FsI (tf 6).toInt (pf 13).toInt na) (hwr : WrV cf (tf 6).toInt) (hkt : KnT (tf 6).toInt ca (cf 33).toInt) (hft : FnT (tf 6).toInt na ca (cf 38).toInt) (han : Ann na ma0 ma) (hec : EcV ta (tf 6).toInt na ma0 (d + 1) lo hi p0) (hrk : Rk ta ca na ma0 kn (d + 1) p0) (hLR : RkC l D cs d) : MetI l y_Mpg_reckon b_Mpg_reckon 7 (.int) D cs (2 * (d + 1) + 6) (100 * (d + 1) + 240) (0) (0) [.ref h, .int p0] [wdP cs h r g tf ta pf na ma wa cf ca ef ea xf xa] (oX (fun A U H => (oP A g U H)) [wdP cs h r g tf ta pf na ma wa cf ca ef ea xf xa]) (fun v ps => ∃ (cf' : Nat → Int32), (ps = [wdP cs h r g tf ta pf na ma wa cf' ca ef ea xf xa]) ∧ (KpE cf cf') ∧ (WrV cf' (tf 6).toInt) ∧ ((cf' 33).toInt = (cf 33).toInt) ∧ ((cf' 38).toInt = (cf 38).toInt) ∧ ((cf' 48).toInt = (cf 48).toInt) ∧ ((cf' 47).toInt = (cf 47).toInt)) := by
  refine px_enter (by decide) (Nat.le_of_ble_eq_true rfl) ?_
  intro p e s m below meth c A ls hAe S hr hlk hnm hA hT hX hw hl
  have hl : lv_has ls 7 [(0, .ref h), (1, .int p0)] := hl
  have lp0 := Int32.le_toInt p0
  have up0 := Int32.toInt_lt p0
  have cstm1 : ((-1) : Int32).toInt = (-1) := rfl
  have cst0 : (0 : Int32).toInt = 0 := rfl
  have cst1 : (1 : Int32).toInt = 1 := rfl
  have cst2 : (2 : Int32).toInt = 2 := rfl
  have cst33 : (33 : Int32).toInt = 33 := rfl
  have cst45 : (45 : Int32).toInt = 45 := rfl
  have cst126 : (126 : Int32).toInt = 126 := rfl
  have hX : (fun A U H => (oP A g U H)) A s s.heap := by rw [hAe]; exact hX
  have hP := hX
  have hZ := hP.1
  have hF0 := hP.2.1
  have hke : KpE cf cf := KpE.rf
  have hfc : FrC lo hi ma ma := FrC.rf
  have hwr0 := hwr.1
  have hk11 := hkt.1
  have hf11 := hft.1
  have hec_p0 := hec
  have hrg := EcV.rng hec
  have hrk_p0 := hrk
  have J222 : ∀ (n_222 : Nat) (cf_222 : Nat → Int32) (mid_222 : Int) (x222_4 x222_5 x222_6 : Int32) (H : Heap) (locs : List Loc) (ls : Array Slot), (KpE cf cf_222) → (WrV cf_222 (tf 6).toInt) → ((cf_222 33).toInt = (cf 33).toInt) → ((cf_222 38).toInt = (cf 38).toInt) → ((cf_222 48).toInt = (cf 48).toInt) → ((cf_222 47).toInt = (cf 47).toInt) → (lo ≤ mid_222) → (mid_222 ≤ hi) → (RcM ta (tf 6).toInt na ma0 d p0 mid_222 hi x222_6) → (RwJ na (Rk ta ca na ma0 kn d) x222_6) → hi - mid_222 < (n_222 : Int) → pw D A s.heap H locs [wdP cs h r g tf ta pf na ma wa cf_222 ca ef ea xf xa] → lv_has ls 7 [(0, .ref h), (1, .int p0), (4, .int x222_4), (5, .int x222_5), (6, .int x222_6)] → W p l e { frames := (2 * (d + 1) + 6), cells := 0, slots := 0, locals := (100 * (d + 1) + 240) } s m [.ref h, .int p0].toArray below meth c H locs 0 0 (MQ below (va_Qi (fun v ps => ∃ (cf' : Nat → Int32), (ps = [wdP cs h r g tf ta pf na ma wa cf' ca ef ea xf xa]) ∧ (KpE cf cf') ∧ (WrV cf' (tf 6).toInt) ∧ ((cf' 33).toInt = (cf 33).toInt) ∧ ((cf' 38).toInt = (cf 38).toInt) ∧ ((cf' 48).toInt = (cf 48).toInt) ∧ ((cf' 47).toInt = (cf 47).toInt)) (pc_B D (va_A ([wdP cs h r g tf ta pf na ma wa cf ca ef ea xf xa] : List va_W).flatten s.heap.size)) (va_A ([wdP cs h r g tf ta pf na ma wa cf ca ef ea xf xa] : List va_W).flatten s.heap.size)) [.ref h, .int p0].toArray s 0 0 A) (F0 m 222 ls []) := by
    intro  n_222
    induction n_222 with
    | zero =>
      intro cf_222 mid_222 x222_4 x222_5 x222_6 H locs ls k222_0 k222_1 k222_2 k222_3 k222_4 k222_5 k222_6 k222_7 k222_8 k222_9 hm hw hl
      have lx222_4 := Int32.le_toInt x222_4
      have ux222_4 := Int32.toInt_lt x222_4
      have lx222_5 := Int32.le_toInt x222_5
      have ux222_5 := Int32.toInt_lt x222_5
      have lx222_6 := Int32.le_toInt x222_6
      have ux222_6 := Int32.toInt_lt x222_6
      have hke := k222_0
      have hwr := k222_1
      have hw0_k222_1 := hwr.1
      have hrm := k222_8
      have hrj := k222_9
      exact absurd hm (by first | with_reducible rfl | with_reducible assumption | omega)
    | succ n_222 ih222 =>
      intro cf_222 mid_222 x222_4 x222_5 x222_6 H locs ls k222_0 k222_1 k222_2 k222_3 k222_4 k222_5 k222_6 k222_7 k222_8 k222_9 hm hw hl
      have lx222_4 := Int32.le_toInt x222_4
      have ux222_4 := Int32.toInt_lt x222_4
      have lx222_5 := Int32.le_toInt x222_5
      have ux222_5 := Int32.toInt_lt x222_5
      have lx222_6 := Int32.le_toInt x222_6
      have ux222_6 := Int32.toInt_lt x222_6
      have hke := k222_0
      have hwr := k222_1
      have hw0_k222_1 := hwr.1
      have hrm := k222_8
      have hrj := k222_9
      refine lv_iload S.x S.b d_Mpg_reckon_222 (lv_at hl 4 rfl) ?_
      refine lv_if_lt (tgt := 320) S.x S.b d_Mpg_reckon_224 (by decide) (fun c1 => ?_) (fun c1 => ?_)
      · have nc1 : x222_6.toInt < (0 : Int) := (i_lt (x := x222_6) (y := 0)).mp c1
        refine lv_iload S.x S.b d_Mpg_reckon_320 (lv_at hl 3 rfl) ?_
        exact px_iret (v := x222_5) S hr rfl hlk hAe hw (Nat.le_of_ble_eq_true rfl) (Nat.le_of_ble_eq_true rfl) (⟨cf_222, rfl, (show KpE cf cf_222 from hke), (show WrV cf_222 (tf 6).toInt from hwr), (show (cf_222 33).toInt = (cf 33).toInt from by first | exact k222_2 | omega), (show (cf_222 38).toInt = (cf 38).toInt from by first | exact k222_3 | omega), (show (cf_222 48).toInt = (cf 48).toInt from by first | exact k222_4 | omega), (show (cf_222 47).toInt = (cf 47).toInt from by first | exact k222_5 | omega)⟩) d_Mpg_reckon_322
      · have nc1 : ¬ x222_6.toInt < (0 : Int) := mt (i_lt (x := x222_6) (y := 0)).mpr c1
        refine lv_iload S.x S.b d_Mpg_reckon_227 (lv_at hl 2 rfl) ?_
        obtain ⟨md2, hm1_md2, hm2_md2, ⟨hec_x222_6, hne_md2, hmk_md2⟩, hx3_md2, hrm2⟩ := RcE.step hrm (by first | with_reducible rfl | with_reducible assumption | omega); obtain ⟨hrk_x222_6, hrj2⟩ := RwJ.go hrj (by first | with_reducible rfl | with_reducible assumption | omega) rfl
        refine lv_iconst (v := 1) S.x S.b d_Mpg_reckon_229 (by decide) ?_
        refine lv_icmp_ne (tgt := 257) S.x S.b d_Mpg_reckon_230 (by decide) (fun c3 => ?_) (fun c3 => ?_)
        · have nc3 : ¬ x222_4.toInt = (1 : Int) := mt (i_eq (x := x222_4) (y := 1)).mpr c3
          refine lv_iload S.x S.b d_Mpg_reckon_257 (lv_at hl 2 rfl) ?_
          refine lv_iconst (v := 2) S.x S.b d_Mpg_reckon_259 (by decide) ?_
          refine lv_icmp_ne (tgt := 287) S.x S.b d_Mpg_reckon_260 (by decide) (fun c4 => ?_) (fun c4 => ?_)
          · have nc4 : ¬ x222_4.toInt = (2 : Int) := mt (i_eq (x := x222_4) (y := 2)).mpr c4
            refine lv_aload_n S.x S.b d_Mpg_reckon_287 rfl (lv_at hl 0 rfl) ?_
            refine lv_aload_n S.x S.b d_Mpg_reckon_288 rfl (lv_at hl 0 rfl) ?_
            refine px_get S k_Mpg hT hw 0 0 20 (v := .ref (r 20)) rfl rfl rfl (by decide) m10_6 d_Mpg_reckon_289 ?_
            refine lv_iload S.x S.b d_Mpg_reckon_292 (lv_at hl 4 rfl) ?_
            refine px_iald S hT hw 0 16 (n := 2100) (f := (ma 20)) rfl gp_20 (x := x222_6) (vp_in_iff.mpr (by constructor <;> omega)) d_Mpg_reckon_294 ?_
            refine lv_topi (fun z5 ez5 => ?_)
            have lz5 := Int32.le_toInt z5
            have uz5 := Int32.toInt_lt z5
            have hkx := EcV.kind hec_x222_6; have hmd := MkD.at hmk_md2 han (by first | with_reducible rfl | with_reducible assumption | omega) ez5
            refine lv_iload S.x S.b d_Mpg_reckon_295 (lv_at hl 3 rfl) ?_
            refine lv_aload_n S.x S.b d_Mpg_reckon_297 rfl (lv_at hl 0 rfl) ?_
            refine lv_iload S.x S.b d_Mpg_reckon_298 (lv_at hl 4 rfl) ?_
            refine px_calli (pr := []) (px_runV (As := [.int x222_6]) (rest := [.int x222_5, .int z5, .ref h]) S (hLR ma0 ys ns nf kn mid_222 md2 h r g tf ta pf na ma wa ca ef ea xf xa cf_222 x222_6 (show 0 ≤ mid_222 from by first | exact oz_16d7fa9f32 k222_6 g0 | omega) (show md2 ≤ (pf 13).toInt from by first | exact oz_bbb5b20c1a g1 hm2_md2 | omega) (show (pf 13).toInt ≤ 2100 from by first | exact g2 | omega) (show (tf 6).toInt ≤ 2049 from by first | exact g3 | omega) (show (cf_222 33).toInt = kn from by first | exact oz_1687f4cc65 g4 k222_2 | omega) (show 0 ≤ kn from by first | exact g5 | omega) (show (cf_222 48).toInt = ns from by first | exact oz_1687f4cc65 g6 k222_4 | omega) (show (cf_222 38).toInt = nf from by first | exact oz_1687f4cc65 g7 k222_3 | omega) (show 0 ≤ nf from by first | exact g8 | omega) htk (FsI.le (N' := (pf 13).toInt) hfs (by first | with_reducible rfl | with_reducible assumption | omega)) hwr (KnT.eq hkt (by first | with_reducible rfl | with_reducible assumption | omega)) (FnT.eq hft (by first | with_reducible rfl | with_reducible assumption | omega)) han hec_x222_6 hrk_x222_6 _) hT (pr := []) (pcs := [wdP cs h r g tf ta pf na ma wa cf_222 ca ef ea xf xa]) hw (oX_call (P := (fun A U H => (oP A g U H))) (pr := []) oG_P hw hA hP) (px_recv hT hw 0 0 rfl rfl rfl) m13_13 m13_10 m13_12 ms_13_0 m1_21 q_Mpg_reckon ⟨show (2 * d + 6) + 1 ≤ (2 * (d + 1) + 6) from by first | with_reducible rfl | with_reducible assumption | omega, show 8 + (7 + 11) + (100 * d + 240) ≤ (100 * (d + 1) + 240) from by first | with_reducible rfl | with_reducible assumption | omega⟩ hl.1 rfl (Nat.le_of_ble_eq_true rfl) d_Mpg_reckon_300 ⟨Nat.le_of_ble_eq_true rfl, Nat.le_of_ble_eq_true rfl⟩) hw hA (fun v9 p8 H locs hp8 hw => ?_)
            obtain ⟨cf7, rfl, e10, e11, e12, e13, e14, e15⟩ := hp8
            have e10 : KpE cf_222 cf7 := e10
            have hke := (hke).tr e10
            have hkz_e10 := e10.2
            have e11 : WrV cf7 (tf 6).toInt := e11
            have hwr := e11
            have hw0_e11 := hwr.1
            have e12 : (cf7 33).toInt = (cf_222 33).toInt := e12
            have e13 : (cf7 38).toInt = (cf_222 38).toInt := e13
            have e14 : (cf7 48).toInt = (cf_222 48).toInt := e14
            have e15 : (cf7 47).toInt = (cf_222 47).toInt := e15
            have hw : pw D A s.heap H locs [wdP cs h r g tf ta pf na ma wa cf7 ca ef ea xf xa] := hw
            have lv9 := Int32.le_toInt v9
            have uv9 := Int32.toInt_lt v9
            refine px_calli (pr := []) (px_runV (As := [.int z5, .int x222_5, .int v9]) (rest := []) S (c_mp_two l D cs h r g tf ta pf na ma wa ca ef ea xf xa cf7 z5 x222_5 v9  (show 0 ≤ z5.toInt from by first | exact hmd.1 | omega) (show z5.toInt < (tf 6).toInt from by first | with_reducible rfl | with_reducible assumption | omega) (show (tf 6).toInt ≤ 2049 from by first | exact g3 | omega) (show so ta z5 = 5 from by first | exact hmd.2.2 | omega) htk hwr _) hT (pr := []) (pcs := [wdP cs h r g tf ta pf na ma wa cf7 ca ef ea xf xa]) hw (oX_call (P := (fun A U H => (oP A g U H))) (pr := []) oG_P hw hA hP) (px_recv hT hw 0 0 rfl rfl rfl) m13_17 m13_14 m13_16 ms_13_1 m1_21 q_Mpg_two ⟨show 4 + 1 ≤ (2 * (d + 1) + 6) from by first | with_reducible rfl | with_reducible assumption | omega, show 8 + (6 + 11) + 170 ≤ (100 * (d + 1) + 240) from by first | with_reducible rfl | with_reducible assumption | omega⟩ hl.1 rfl (Nat.le_of_ble_eq_true rfl) d_Mpg_reckon_303 ⟨Nat.le_of_ble_eq_true rfl, Nat.le_of_ble_eq_true rfl⟩) hw hA (fun v19 p18 H locs hp18 hw => ?_)
            obtain ⟨cf17, rfl, e20, e21, e22, e23, e24, e25⟩ := hp18
            have e20 : KpE cf7 cf17 := e20
            have hke := (hke).tr e20
            have hkz_e20 := e20.2
            have e21 : WrV cf17 (tf 6).toInt := e21
            have hwr := e21
            have hw0_e21 := hwr.1
            have e22 : (cf17 33).toInt = (cf7 33).toInt := e22
            have e23 : (cf17 38).toInt = (cf7 38).toInt := e23
            have e24 : (cf17 48).toInt = (cf7 48).toInt := e24
            have e25 : (cf17 47).toInt = (cf7 47).toInt := e25
            have hw : pw D A s.heap H locs [wdP cs h r g tf ta pf na ma wa cf17 ca ef ea xf xa] := hw
            have lv19 := Int32.le_toInt v19
            have uv19 := Int32.toInt_lt v19
            refine lv_istore (lv' := [(5, .int v19), (0, .ref h), (1, .int p0), (4, .int x222_4), (6, .int x222_6)]) S.x S.b d_Mpg_reckon_306 hl (by decide) rfl (fun ls hl => ?_)
            refine lv_aload_n S.x S.b d_Mpg_reckon_308 rfl (lv_at hl 1 rfl) ?_
            refine px_get S k_Mpg hT hw 0 0 21 (v := .ref (r 21)) rfl rfl rfl (by decide) m10_7 d_Mpg_reckon_309 ?_
            refine lv_iload S.x S.b d_Mpg_reckon_312 (lv_at hl 4 rfl) ?_
            refine px_iald S hT hw 0 17 (n := 2100) (f := (na 21)) rfl gp_21 (x := x222_6) (vp_in_iff.mpr (by constructor <;> omega)) d_Mpg_reckon_314 ?_
            refine lv_topi (fun z26 ez26 => ?_)
            have lz26 := Int32.le_toInt z26
            have uz26 := Int32.toInt_lt z26
            refine lv_istore (lv' := [(6, .int z26), (5, .int v19), (0, .ref h), (1, .int p0), (4, .int x222_4)]) S.x S.b d_Mpg_reckon_315 hl (by decide) rfl (fun ls hl => ?_)
            refine lv_goto (tgt := 222) S.x S.b d_Mpg_reckon_317 (by decide) ?_
            exact ih222 cf17 md2 x222_4 v19 z26 _ _ ls (show KpE cf cf17 from hke) (show WrV cf17 (tf 6).toInt from hwr) (show (cf17 33).toInt = (cf 33).toInt from by first | exact oz_e13fc83238 k222_2 e22 e12 | omega) (show (cf17 38).toInt = (cf 38).toInt from by first | exact oz_e13fc83238 k222_3 e23 e13 | omega) (show (cf17 48).toInt = (cf 48).toInt from by first | exact oz_e13fc83238 k222_4 e24 e14 | omega) (show (cf17 47).toInt = (cf 47).toInt from by first | exact oz_e13fc83238 k222_5 e25 e15 | omega) (show lo ≤ md2 from by first | exact hm1_md2 | omega) (show md2 ≤ hi from by first | exact hm2_md2 | omega) (show RcM ta (tf 6).toInt na ma0 d p0 md2 hi z26 from (by rw [ez26]; exact hrm2)) (show RwJ na (Rk ta ca na ma0 kn d) z26 from (by rw [ez26]; exact hrj2)) (show hi - md2 < (n_222 : Int) from by first | with_reducible rfl | with_reducible assumption | omega) hw (lv_sub hl [2, 3, 4, 1, 0] rfl)
          · have nc4 : x222_4.toInt = (2 : Int) := (i_eq (x := x222_4) (y := 2)).mp c4
            refine lv_iload S.x S.b d_Mpg_reckon_263 (lv_at hl 3 rfl) ?_
            refine lv_if_eq (tgt := 281) S.x S.b d_Mpg_reckon_265 (by decide) (fun c27 => ?_) (fun c27 => ?_)
            · have nc27 : x222_5.toInt = (0 : Int) := (i_eq (x := x222_5) (y := 0)).mp c27
              refine lv_iconst (v := 0) S.x S.b d_Mpg_reckon_281 (by decide) ?_
              refine lv_istore (lv' := [(5, .int 0), (0, .ref h), (1, .int p0), (4, .int x222_4), (6, .int x222_6)]) S.x S.b d_Mpg_reckon_282 hl (by decide) rfl (fun ls hl => ?_)
              refine lv_goto (tgt := 308) S.x S.b d_Mpg_reckon_284 (by decide) ?_
              refine lv_aload_n S.x S.b d_Mpg_reckon_308 rfl (lv_at hl 1 rfl) ?_
              refine px_get S k_Mpg hT hw 0 0 21 (v := .ref (r 21)) rfl rfl rfl (by decide) m10_7 d_Mpg_reckon_309 ?_
              refine lv_iload S.x S.b d_Mpg_reckon_312 (lv_at hl 4 rfl) ?_
              refine px_iald S hT hw 0 17 (n := 2100) (f := (na 21)) rfl gp_21 (x := x222_6) (vp_in_iff.mpr (by constructor <;> omega)) d_Mpg_reckon_314 ?_
              refine lv_topi (fun z28 ez28 => ?_)
              have lz28 := Int32.le_toInt z28
              have uz28 := Int32.toInt_lt z28
              refine lv_istore (lv' := [(6, .int z28), (5, .int 0), (0, .ref h), (1, .int p0), (4, .int x222_4)]) S.x S.b d_Mpg_reckon_315 hl (by decide) rfl (fun ls hl => ?_)
              refine lv_goto (tgt := 222) S.x S.b d_Mpg_reckon_317 (by decide) ?_
              exact ih222 cf_222 md2 x222_4 (0 : Int32) z28 _ _ ls (show KpE cf cf_222 from hke) (show WrV cf_222 (tf 6).toInt from hwr) (show (cf_222 33).toInt = (cf 33).toInt from by first | exact k222_2 | omega) (show (cf_222 38).toInt = (cf 38).toInt from by first | exact k222_3 | omega) (show (cf_222 48).toInt = (cf 48).toInt from by first | exact k222_4 | omega) (show (cf_222 47).toInt = (cf 47).toInt from by first | exact k222_5 | omega) (show lo ≤ md2 from by first | exact hm1_md2 | omega) (show md2 ≤ hi from by first | exact hm2_md2 | omega) (show RcM ta (tf 6).toInt na ma0 d p0 md2 hi z28 from (by rw [ez28]; exact hrm2)) (show RwJ na (Rk ta ca na ma0 kn d) z28 from (by rw [ez28]; exact hrj2)) (show hi - md2 < (n_222 : Int) from by first | with_reducible rfl | with_reducible assumption | omega) hw (lv_sub hl [2, 3, 4, 1, 0] rfl)
            · have nc27 : ¬ x222_5.toInt = (0 : Int) := mt (i_eq (x := x222_5) (y := 0)).mpr c27
              refine lv_aload_n S.x S.b d_Mpg_reckon_268 rfl (lv_at hl 0 rfl) ?_
              refine lv_iload S.x S.b d_Mpg_reckon_269 (lv_at hl 4 rfl) ?_
              refine px_calli (pr := []) (px_runV (As := [.int x222_6]) (rest := []) S (hLR ma0 ys ns nf kn mid_222 md2 h r g tf ta pf na ma wa ca ef ea xf xa cf_222 x222_6 (show 0 ≤ mid_222 from by first | exact oz_16d7fa9f32 k222_6 g0 | omega) (show md2 ≤ (pf 13).toInt from by first | exact oz_bbb5b20c1a g1 hm2_md2 | omega) (show (pf 13).toInt ≤ 2100 from by first | exact g2 | omega) (show (tf 6).toInt ≤ 2049 from by first | exact g3 | omega) (show (cf_222 33).toInt = kn from by first | exact oz_1687f4cc65 g4 k222_2 | omega) (show 0 ≤ kn from by first | exact g5 | omega) (show (cf_222 48).toInt = ns from by first | exact oz_1687f4cc65 g6 k222_4 | omega) (show (cf_222 38).toInt = nf from by first | exact oz_1687f4cc65 g7 k222_3 | omega) (show 0 ≤ nf from by first | exact g8 | omega) htk (FsI.le (N' := (pf 13).toInt) hfs (by first | with_reducible rfl | with_reducible assumption | omega)) hwr (KnT.eq hkt (by first | with_reducible rfl | with_reducible assumption | omega)) (FnT.eq hft (by first | with_reducible rfl | with_reducible assumption | omega)) han hec_x222_6 hrk_x222_6 _) hT (pr := []) (pcs := [wdP cs h r g tf ta pf na ma wa cf_222 ca ef ea xf xa]) hw (oX_call (P := (fun A U H => (oP A g U H))) (pr := []) oG_P hw hA hP) (px_recv hT hw 0 0 rfl rfl rfl) m13_13 m13_10 m13_12 ms_13_0 m1_21 q_Mpg_reckon ⟨show (2 * d + 6) + 1 ≤ (2 * (d + 1) + 6) from by first | with_reducible rfl | with_reducible assumption | omega, show 8 + (7 + 11) + (100 * d + 240) ≤ (100 * (d + 1) + 240) from by first | with_reducible rfl | with_reducible assumption | omega⟩ hl.1 rfl (Nat.le_of_ble_eq_true rfl) d_Mpg_reckon_271 ⟨Nat.le_of_ble_eq_true rfl, Nat.le_of_ble_eq_true rfl⟩) hw hA (fun v32 p31 H locs hp31 hw => ?_)
              obtain ⟨cf30, rfl, e33, e34, e35, e36, e37, e38⟩ := hp31
              have e33 : KpE cf_222 cf30 := e33
              have hke := (hke).tr e33
              have hkz_e33 := e33.2
              have e34 : WrV cf30 (tf 6).toInt := e34
              have hwr := e34
              have hw0_e34 := hwr.1
              have e35 : (cf30 33).toInt = (cf_222 33).toInt := e35
              have e36 : (cf30 38).toInt = (cf_222 38).toInt := e36
              have e37 : (cf30 48).toInt = (cf_222 48).toInt := e37
              have e38 : (cf30 47).toInt = (cf_222 47).toInt := e38
              have hw : pw D A s.heap H locs [wdP cs h r g tf ta pf na ma wa cf30 ca ef ea xf xa] := hw
              have lv32 := Int32.le_toInt v32
              have uv32 := Int32.toInt_lt v32
              refine lv_if_eq (tgt := 281) S.x S.b d_Mpg_reckon_274 (by decide) (fun c39 => ?_) (fun c39 => ?_)
              · have nc39 : v32.toInt = (0 : Int) := (i_eq (x := v32) (y := 0)).mp c39
                refine lv_iconst (v := 0) S.x S.b d_Mpg_reckon_281 (by decide) ?_
                refine lv_istore (lv' := [(5, .int 0), (0, .ref h), (1, .int p0), (4, .int x222_4), (6, .int x222_6)]) S.x S.b d_Mpg_reckon_282 hl (by decide) rfl (fun ls hl => ?_)
                refine lv_goto (tgt := 308) S.x S.b d_Mpg_reckon_284 (by decide) ?_
                refine lv_aload_n S.x S.b d_Mpg_reckon_308 rfl (lv_at hl 1 rfl) ?_
                refine px_get S k_Mpg hT hw 0 0 21 (v := .ref (r 21)) rfl rfl rfl (by decide) m10_7 d_Mpg_reckon_309 ?_
                refine lv_iload S.x S.b d_Mpg_reckon_312 (lv_at hl 4 rfl) ?_
                refine px_iald S hT hw 0 17 (n := 2100) (f := (na 21)) rfl gp_21 (x := x222_6) (vp_in_iff.mpr (by constructor <;> omega)) d_Mpg_reckon_314 ?_
                refine lv_topi (fun z40 ez40 => ?_)
                have lz40 := Int32.le_toInt z40
                have uz40 := Int32.toInt_lt z40
                refine lv_istore (lv' := [(6, .int z40), (5, .int 0), (0, .ref h), (1, .int p0), (4, .int x222_4)]) S.x S.b d_Mpg_reckon_315 hl (by decide) rfl (fun ls hl => ?_)
                refine lv_goto (tgt := 222) S.x S.b d_Mpg_reckon_317 (by decide) ?_
                exact ih222 cf30 md2 x222_4 (0 : Int32) z40 _ _ ls (show KpE cf cf30 from hke) (show WrV cf30 (tf 6).toInt from hwr) (show (cf30 33).toInt = (cf 33).toInt from by first | exact oz_1687f4cc65 k222_2 e35 | omega) (show (cf30 38).toInt = (cf 38).toInt from by first | exact oz_1687f4cc65 k222_3 e36 | omega) (show (cf30 48).toInt = (cf 48).toInt from by first | exact oz_1687f4cc65 k222_4 e37 | omega) (show (cf30 47).toInt = (cf 47).toInt from by first | exact oz_1687f4cc65 k222_5 e38 | omega) (show lo ≤ md2 from by first | exact hm1_md2 | omega) (show md2 ≤ hi from by first | exact hm2_md2 | omega) (show RcM ta (tf 6).toInt na ma0 d p0 md2 hi z40 from (by rw [ez40]; exact hrm2)) (show RwJ na (Rk ta ca na ma0 kn d) z40 from (by rw [ez40]; exact hrj2)) (show hi - md2 < (n_222 : Int) from by first | with_reducible rfl | with_reducible assumption | omega) hw (lv_sub hl [2, 3, 4, 1, 0] rfl)
              · have nc39 : ¬ v32.toInt = (0 : Int) := mt (i_eq (x := v32) (y := 0)).mpr c39
                refine lv_iconst (v := 1) S.x S.b d_Mpg_reckon_277 (by decide) ?_
                refine lv_goto (tgt := 282) S.x S.b d_Mpg_reckon_278 (by decide) ?_
                refine lv_istore (lv' := [(5, .int 1), (0, .ref h), (1, .int p0), (4, .int x222_4), (6, .int x222_6)]) S.x S.b d_Mpg_reckon_282 hl (by decide) rfl (fun ls hl => ?_)
                refine lv_goto (tgt := 308) S.x S.b d_Mpg_reckon_284 (by decide) ?_
                refine lv_aload_n S.x S.b d_Mpg_reckon_308 rfl (lv_at hl 1 rfl) ?_
                refine px_get S k_Mpg hT hw 0 0 21 (v := .ref (r 21)) rfl rfl rfl (by decide) m10_7 d_Mpg_reckon_309 ?_
                refine lv_iload S.x S.b d_Mpg_reckon_312 (lv_at hl 4 rfl) ?_
                refine px_iald S hT hw 0 17 (n := 2100) (f := (na 21)) rfl gp_21 (x := x222_6) (vp_in_iff.mpr (by constructor <;> omega)) d_Mpg_reckon_314 ?_
                refine lv_topi (fun z41 ez41 => ?_)
                have lz41 := Int32.le_toInt z41
                have uz41 := Int32.toInt_lt z41
                refine lv_istore (lv' := [(6, .int z41), (5, .int 1), (0, .ref h), (1, .int p0), (4, .int x222_4)]) S.x S.b d_Mpg_reckon_315 hl (by decide) rfl (fun ls hl => ?_)
                refine lv_goto (tgt := 222) S.x S.b d_Mpg_reckon_317 (by decide) ?_
                exact ih222 cf30 md2 x222_4 (1 : Int32) z41 _ _ ls (show KpE cf cf30 from hke) (show WrV cf30 (tf 6).toInt from hwr) (show (cf30 33).toInt = (cf 33).toInt from by first | exact oz_1687f4cc65 k222_2 e35 | omega) (show (cf30 38).toInt = (cf 38).toInt from by first | exact oz_1687f4cc65 k222_3 e36 | omega) (show (cf30 48).toInt = (cf 48).toInt from by first | exact oz_1687f4cc65 k222_4 e37 | omega) (show (cf30 47).toInt = (cf 47).toInt from by first | exact oz_1687f4cc65 k222_5 e38 | omega) (show lo ≤ md2 from by first | exact hm1_md2 | omega) (show md2 ≤ hi from by first | exact hm2_md2 | omega) (show RcM ta (tf 6).toInt na ma0 d p0 md2 hi z41 from (by rw [ez41]; exact hrm2)) (show RwJ na (Rk ta ca na ma0 kn d) z41 from (by rw [ez41]; exact hrj2)) (show hi - md2 < (n_222 : Int) from by first | with_reducible rfl | with_reducible assumption | omega) hw (lv_sub hl [2, 3, 4, 1, 0] rfl)
        · have nc3 : x222_4.toInt = (1 : Int) := (i_eq (x := x222_4) (y := 1)).mp c3
          refine lv_iload S.x S.b d_Mpg_reckon_233 (lv_at hl 3 rfl) ?_
          refine lv_if_ne (tgt := 247) S.x S.b d_Mpg_reckon_235 (by decide) (fun c42 => ?_) (fun c42 => ?_)
          · have nc42 : ¬ x222_5.toInt = (0 : Int) := mt (i_eq (x := x222_5) (y := 0)).mpr c42
            refine lv_iconst (v := 1) S.x S.b d_Mpg_reckon_247 (by decide) ?_
            refine lv_goto (tgt := 252) S.x S.b d_Mpg_reckon_248 (by decide) ?_
            refine lv_istore (lv' := [(5, .int 1), (0, .ref h), (1, .int p0), (4, .int x222_4), (6, .int x222_6)]) S.x S.b d_Mpg_reckon_252 hl (by decide) rfl (fun ls hl => ?_)
            refine lv_goto (tgt := 308) S.x S.b d_Mpg_reckon_254 (by decide) ?_
            refine lv_aload_n S.x S.b d_Mpg_reckon_308 rfl (lv_at hl 1 rfl) ?_
            refine px_get S k_Mpg hT hw 0 0 21 (v := .ref (r 21)) rfl rfl rfl (by decide) m10_7 d_Mpg_reckon_309 ?_
            refine lv_iload S.x S.b d_Mpg_reckon_312 (lv_at hl 4 rfl) ?_
            refine px_iald S hT hw 0 17 (n := 2100) (f := (na 21)) rfl gp_21 (x := x222_6) (vp_in_iff.mpr (by constructor <;> omega)) d_Mpg_reckon_314 ?_
            refine lv_topi (fun z43 ez43 => ?_)
            have lz43 := Int32.le_toInt z43
            have uz43 := Int32.toInt_lt z43
            refine lv_istore (lv' := [(6, .int z43), (5, .int 1), (0, .ref h), (1, .int p0), (4, .int x222_4)]) S.x S.b d_Mpg_reckon_315 hl (by decide) rfl (fun ls hl => ?_)
            refine lv_goto (tgt := 222) S.x S.b d_Mpg_reckon_317 (by decide) ?_
            exact ih222 cf_222 md2 x222_4 (1 : Int32) z43 _ _ ls (show KpE cf cf_222 from hke) (show WrV cf_222 (tf 6).toInt from hwr) (show (cf_222 33).toInt = (cf 33).toInt from by first | exact k222_2 | omega) (show (cf_222 38).toInt = (cf 38).toInt from by first | exact k222_3 | omega) (show (cf_222 48).toInt = (cf 48).toInt from by first | exact k222_4 | omega) (show (cf_222 47).toInt = (cf 47).toInt from by first | exact k222_5 | omega) (show lo ≤ md2 from by first | exact hm1_md2 | omega) (show md2 ≤ hi from by first | exact hm2_md2 | omega) (show RcM ta (tf 6).toInt na ma0 d p0 md2 hi z43 from (by rw [ez43]; exact hrm2)) (show RwJ na (Rk ta ca na ma0 kn d) z43 from (by rw [ez43]; exact hrj2)) (show hi - md2 < (n_222 : Int) from by first | with_reducible rfl | with_reducible assumption | omega) hw (lv_sub hl [2, 3, 4, 1, 0] rfl)
          · have nc42 : x222_5.toInt = (0 : Int) := (i_eq (x := x222_5) (y := 0)).mp c42
            refine lv_aload_n S.x S.b d_Mpg_reckon_238 rfl (lv_at hl 0 rfl) ?_
            refine lv_iload S.x S.b d_Mpg_reckon_239 (lv_at hl 4 rfl) ?_
            refine px_calli (pr := []) (px_runV (As := [.int x222_6]) (rest := []) S (hLR ma0 ys ns nf kn mid_222 md2 h r g tf ta pf na ma wa ca ef ea xf xa cf_222 x222_6 (show 0 ≤ mid_222 from by first | exact oz_16d7fa9f32 k222_6 g0 | omega) (show md2 ≤ (pf 13).toInt from by first | exact oz_bbb5b20c1a g1 hm2_md2 | omega) (show (pf 13).toInt ≤ 2100 from by first | exact g2 | omega) (show (tf 6).toInt ≤ 2049 from by first | exact g3 | omega) (show (cf_222 33).toInt = kn from by first | exact oz_1687f4cc65 g4 k222_2 | omega) (show 0 ≤ kn from by first | exact g5 | omega) (show (cf_222 48).toInt = ns from by first | exact oz_1687f4cc65 g6 k222_4 | omega) (show (cf_222 38).toInt = nf from by first | exact oz_1687f4cc65 g7 k222_3 | omega) (show 0 ≤ nf from by first | exact g8 | omega) htk (FsI.le (N' := (pf 13).toInt) hfs (by first | with_reducible rfl | with_reducible assumption | omega)) hwr (KnT.eq hkt (by first | with_reducible rfl | with_reducible assumption | omega)) (FnT.eq hft (by first | with_reducible rfl | with_reducible assumption | omega)) han hec_x222_6 hrk_x222_6 _) hT (pr := []) (pcs := [wdP cs h r g tf ta pf na ma wa cf_222 ca ef ea xf xa]) hw (oX_call (P := (fun A U H => (oP A g U H))) (pr := []) oG_P hw hA hP) (px_recv hT hw 0 0 rfl rfl rfl) m13_13 m13_10 m13_12 ms_13_0 m1_21 q_Mpg_reckon ⟨show (2 * d + 6) + 1 ≤ (2 * (d + 1) + 6) from by first | with_reducible rfl | with_reducible assumption | omega, show 8 + (7 + 11) + (100 * d + 240) ≤ (100 * (d + 1) + 240) from by first | with_reducible rfl | with_reducible assumption | omega⟩ hl.1 rfl (Nat.le_of_ble_eq_true rfl) d_Mpg_reckon_241 ⟨Nat.le_of_ble_eq_true rfl, Nat.le_of_ble_eq_true rfl⟩) hw hA (fun v47 p46 H locs hp46 hw => ?_)
            obtain ⟨cf45, rfl, e48, e49, e50, e51, e52, e53⟩ := hp46
            have e48 : KpE cf_222 cf45 := e48
            have hke := (hke).tr e48
            have hkz_e48 := e48.2
            have e49 : WrV cf45 (tf 6).toInt := e49
            have hwr := e49
            have hw0_e49 := hwr.1
            have e50 : (cf45 33).toInt = (cf_222 33).toInt := e50
            have e51 : (cf45 38).toInt = (cf_222 38).toInt := e51
            have e52 : (cf45 48).toInt = (cf_222 48).toInt := e52
            have e53 : (cf45 47).toInt = (cf_222 47).toInt := e53
            have hw : pw D A s.heap H locs [wdP cs h r g tf ta pf na ma wa cf45 ca ef ea xf xa] := hw
            have lv47 := Int32.le_toInt v47
            have uv47 := Int32.toInt_lt v47
            refine lv_if_eq (tgt := 251) S.x S.b d_Mpg_reckon_244 (by decide) (fun c54 => ?_) (fun c54 => ?_)
            · have nc54 : v47.toInt = (0 : Int) := (i_eq (x := v47) (y := 0)).mp c54
              refine lv_iconst (v := 0) S.x S.b d_Mpg_reckon_251 (by decide) ?_
              refine lv_istore (lv' := [(5, .int 0), (0, .ref h), (1, .int p0), (4, .int x222_4), (6, .int x222_6)]) S.x S.b d_Mpg_reckon_252 hl (by decide) rfl (fun ls hl => ?_)
              refine lv_goto (tgt := 308) S.x S.b d_Mpg_reckon_254 (by decide) ?_
              refine lv_aload_n S.x S.b d_Mpg_reckon_308 rfl (lv_at hl 1 rfl) ?_
              refine px_get S k_Mpg hT hw 0 0 21 (v := .ref (r 21)) rfl rfl rfl (by decide) m10_7 d_Mpg_reckon_309 ?_
              refine lv_iload S.x S.b d_Mpg_reckon_312 (lv_at hl 4 rfl) ?_
              refine px_iald S hT hw 0 17 (n := 2100) (f := (na 21)) rfl gp_21 (x := x222_6) (vp_in_iff.mpr (by constructor <;> omega)) d_Mpg_reckon_314 ?_
              refine lv_topi (fun z55 ez55 => ?_)
              have lz55 := Int32.le_toInt z55
              have uz55 := Int32.toInt_lt z55
              refine lv_istore (lv' := [(6, .int z55), (5, .int 0), (0, .ref h), (1, .int p0), (4, .int x222_4)]) S.x S.b d_Mpg_reckon_315 hl (by decide) rfl (fun ls hl => ?_)
              refine lv_goto (tgt := 222) S.x S.b d_Mpg_reckon_317 (by decide) ?_
              exact ih222 cf45 md2 x222_4 (0 : Int32) z55 _ _ ls (show KpE cf cf45 from hke) (show WrV cf45 (tf 6).toInt from hwr) (show (cf45 33).toInt = (cf 33).toInt from by first | exact oz_1687f4cc65 k222_2 e50 | omega) (show (cf45 38).toInt = (cf 38).toInt from by first | exact oz_1687f4cc65 k222_3 e51 | omega) (show (cf45 48).toInt = (cf 48).toInt from by first | exact oz_1687f4cc65 k222_4 e52 | omega) (show (cf45 47).toInt = (cf 47).toInt from by first | exact oz_1687f4cc65 k222_5 e53 | omega) (show lo ≤ md2 from by first | exact hm1_md2 | omega) (show md2 ≤ hi from by first | exact hm2_md2 | omega) (show RcM ta (tf 6).toInt na ma0 d p0 md2 hi z55 from (by rw [ez55]; exact hrm2)) (show RwJ na (Rk ta ca na ma0 kn d) z55 from (by rw [ez55]; exact hrj2)) (show hi - md2 < (n_222 : Int) from by first | with_reducible rfl | with_reducible assumption | omega) hw (lv_sub hl [2, 3, 4, 1, 0] rfl)
            · have nc54 : ¬ v47.toInt = (0 : Int) := mt (i_eq (x := v47) (y := 0)).mpr c54
              refine lv_iconst (v := 1) S.x S.b d_Mpg_reckon_247 (by decide) ?_
              refine lv_goto (tgt := 252) S.x S.b d_Mpg_reckon_248 (by decide) ?_
              refine lv_istore (lv' := [(5, .int 1), (0, .ref h), (1, .int p0), (4, .int x222_4), (6, .int x222_6)]) S.x S.b d_Mpg_reckon_252 hl (by decide) rfl (fun ls hl => ?_)
              refine lv_goto (tgt := 308) S.x S.b d_Mpg_reckon_254 (by decide) ?_
              refine lv_aload_n S.x S.b d_Mpg_reckon_308 rfl (lv_at hl 1 rfl) ?_
              refine px_get S k_Mpg hT hw 0 0 21 (v := .ref (r 21)) rfl rfl rfl (by decide) m10_7 d_Mpg_reckon_309 ?_
              refine lv_iload S.x S.b d_Mpg_reckon_312 (lv_at hl 4 rfl) ?_
              refine px_iald S hT hw 0 17 (n := 2100) (f := (na 21)) rfl gp_21 (x := x222_6) (vp_in_iff.mpr (by constructor <;> omega)) d_Mpg_reckon_314 ?_
              refine lv_topi (fun z56 ez56 => ?_)
              have lz56 := Int32.le_toInt z56
              have uz56 := Int32.toInt_lt z56
              refine lv_istore (lv' := [(6, .int z56), (5, .int 1), (0, .ref h), (1, .int p0), (4, .int x222_4)]) S.x S.b d_Mpg_reckon_315 hl (by decide) rfl (fun ls hl => ?_)
              refine lv_goto (tgt := 222) S.x S.b d_Mpg_reckon_317 (by decide) ?_
              exact ih222 cf45 md2 x222_4 (1 : Int32) z56 _ _ ls (show KpE cf cf45 from hke) (show WrV cf45 (tf 6).toInt from hwr) (show (cf45 33).toInt = (cf 33).toInt from by first | exact oz_1687f4cc65 k222_2 e50 | omega) (show (cf45 38).toInt = (cf 38).toInt from by first | exact oz_1687f4cc65 k222_3 e51 | omega) (show (cf45 48).toInt = (cf 48).toInt from by first | exact oz_1687f4cc65 k222_4 e52 | omega) (show (cf45 47).toInt = (cf 47).toInt from by first | exact oz_1687f4cc65 k222_5 e53 | omega) (show lo ≤ md2 from by first | exact hm1_md2 | omega) (show md2 ≤ hi from by first | exact hm2_md2 | omega) (show RcM ta (tf 6).toInt na ma0 d p0 md2 hi z56 from (by rw [ez56]; exact hrm2)) (show RwJ na (Rk ta ca na ma0 kn d) z56 from (by rw [ez56]; exact hrj2)) (show hi - md2 < (n_222 : Int) from by first | with_reducible rfl | with_reducible assumption | omega) hw (lv_sub hl [2, 3, 4, 1, 0] rfl)
  refine lv_aload_n S.x S.b d_Mpg_reckon_0 rfl (lv_at hl 0 rfl) ?_
  refine px_get S k_Mpg hT hw 0 0 14 (v := .ref (r 14)) rfl rfl rfl (by decide) m9_238 d_Mpg_reckon_1 ?_
  refine lv_iload_n S.x S.b d_Mpg_reckon_4 rfl (lv_at hl 1 rfl) ?_
  refine px_bald S hT hw 0 10 (n := 2100) (f := (na 14)) rfl gp_14 (x := p0) (vp_in_iff.mpr (by first | exact oz_a7e05de1cd hrg.2.2 hrg.2.1 g1 g2 | (constructor <;> omega))) d_Mpg_reckon_5 ?_
  refine lv_topi (fun z57 ez57 => ?_)
  have lz57 := Int32.le_toInt z57
  have uz57 := Int32.toInt_lt z57
  have rz57 := EcV.kd hec_p0 ez57
  refine px_tableD S (dt := 189) [(52, [1]), (64, [2]), (189, [3, 4, 6, 7]), (81, [5]), (152, [8])] d_Mpg_reckon_6 (by decide +kernel) (by decide) (by decide +kernel) ?_ ?_
  · intro hdf_6
    refine lv_aload_n S.x S.b d_Mpg_reckon_189 rfl (lv_at hl 0 rfl) ?_
    refine px_get S k_Mpg hT hw 0 0 22 (v := .ref (r 22)) rfl rfl rfl (by decide) m10_9 d_Mpg_reckon_190 ?_
    obtain ⟨hk7, hrw7⟩ := Rk.f7 hrk_p0 ⟨by first | with_reducible rfl | with_reducible assumption | omega, by first | with_reducible rfl | with_reducible assumption | omega, by first | with_reducible rfl | with_reducible assumption | omega, by first | with_reducible rfl | with_reducible assumption | omega⟩
    refine lv_iload_n S.x S.b d_Mpg_reckon_193 rfl (lv_at hl 1 rfl) ?_
    refine px_iald S hT hw 0 18 (n := 2100) (f := (ma 22)) rfl gp_22 (x := p0) (vp_in_iff.mpr (by first | exact oz_a7e05de1cd hrg.2.2 hrg.2.1 g1 g2 | (constructor <;> omega))) d_Mpg_reckon_194 ?_
    refine lv_topi (fun z58 ez58 => ?_)
    have lz58 := Int32.le_toInt z58
    have uz58 := Int32.toInt_lt z58
    refine lv_istore (lv' := [(4, .int z58), (0, .ref h), (1, .int p0)]) S.x S.b d_Mpg_reckon_195 hl (by decide) rfl (fun ls hl => ?_)
    refine lv_aload_n S.x S.b d_Mpg_reckon_197 rfl (lv_at hl 1 rfl) ?_
    refine lv_aload_n S.x S.b d_Mpg_reckon_198 rfl (lv_at hl 1 rfl) ?_
    refine px_get S k_Mpg hT hw 0 0 17 (v := .ref (r 17)) rfl rfl rfl (by decide) m10_1 d_Mpg_reckon_199 ?_
    refine lv_iload_n S.x S.b d_Mpg_reckon_202 rfl (lv_at hl 2 rfl) ?_
    refine px_iald S hT hw 0 13 (n := 2100) (f := (na 17)) rfl gp_17 (x := p0) (vp_in_iff.mpr (by first | exact oz_a7e05de1cd hrg.2.2 hrg.2.1 g1 g2 | (constructor <;> omega))) d_Mpg_reckon_203 ?_
    refine lv_topi (fun z59 ez59 => ?_)
    have lz59 := Int32.le_toInt z59
    have uz59 := Int32.toInt_lt z59
    obtain ⟨mc, hmc1, hmc2, hec_z59, hnc_z59, hrm⟩ := EcV.k7m hec_p0 hk7 ez59; have hrg_z59 := EcV.rng hec_z59; have hrj : RwJ na (Rk ta ca na ma0 kn d) z59 := (by rw [ez59]; exact hrw7); obtain ⟨hrk_z59, hrj2⟩ := RwJ.go hrj (by first | with_reducible rfl | with_reducible assumption | omega) rfl
    refine px_calli (pr := []) (px_runV (As := [.int z59]) (rest := []) S (hLR ma0 ys ns nf kn lo mc h r g tf ta pf na ma wa ca ef ea xf xa cf z59 (show 0 ≤ lo from by first | exact g0 | omega) (show mc ≤ (pf 13).toInt from by first | exact oz_8d1dd37214 g1 hmc2 hrg.2.1 | omega) (show (pf 13).toInt ≤ 2100 from by first | exact g2 | omega) (show (tf 6).toInt ≤ 2049 from by first | exact g3 | omega) (show (cf 33).toInt = kn from by first | exact g4 | omega) (show 0 ≤ kn from by first | exact g5 | omega) (show (cf 48).toInt = ns from by first | exact g6 | omega) (show (cf 38).toInt = nf from by first | exact g7 | omega) (show 0 ≤ nf from by first | exact g8 | omega) htk (FsI.le (N' := (pf 13).toInt) hfs (by first | with_reducible rfl | with_reducible assumption | omega)) hwr (KnT.eq hkt (by first | with_reducible rfl | with_reducible assumption | omega)) (FnT.eq hft (by first | with_reducible rfl | with_reducible assumption | omega)) han hec_z59 hrk_z59 _) hT (pr := []) (pcs := [wdP cs h r g tf ta pf na ma wa cf ca ef ea xf xa]) hw (oX_call (P := (fun A U H => (oP A g U H))) (pr := []) oG_P hw hA hP) (px_recv hT hw 0 0 rfl rfl rfl) m13_13 m13_10 m13_12 ms_13_0 m1_21 q_Mpg_reckon ⟨show (2 * d + 6) + 1 ≤ (2 * (d + 1) + 6) from by first | with_reducible rfl | with_reducible assumption | omega, show 8 + (7 + 11) + (100 * d + 240) ≤ (100 * (d + 1) + 240) from by first | with_reducible rfl | with_reducible assumption | omega⟩ hl.1 rfl (Nat.le_of_ble_eq_true rfl) d_Mpg_reckon_204 ⟨Nat.le_of_ble_eq_true rfl, Nat.le_of_ble_eq_true rfl⟩) hw hA (fun v63 p62 H locs hp62 hw => ?_)
    obtain ⟨cf61, rfl, e64, e65, e66, e67, e68, e69⟩ := hp62
    have e64 : KpE cf cf61 := e64
    have hke := (hke).tr e64
    have hkz_e64 := e64.2
    have e65 : WrV cf61 (tf 6).toInt := e65
    have hwr := e65
    have hw0_e65 := hwr.1
    have e66 : (cf61 33).toInt = (cf 33).toInt := e66
    have e67 : (cf61 38).toInt = (cf 38).toInt := e67
    have e68 : (cf61 48).toInt = (cf 48).toInt := e68
    have e69 : (cf61 47).toInt = (cf 47).toInt := e69
    have hw : pw D A s.heap H locs [wdP cs h r g tf ta pf na ma wa cf61 ca ef ea xf xa] := hw
    have lv63 := Int32.le_toInt v63
    have uv63 := Int32.toInt_lt v63
    refine lv_istore (lv' := [(5, .int v63), (4, .int z58), (0, .ref h), (1, .int p0)]) S.x S.b d_Mpg_reckon_207 hl (by decide) rfl (fun ls hl => ?_)
    refine lv_aload_n S.x S.b d_Mpg_reckon_209 rfl (lv_at hl 2 rfl) ?_
    refine px_get S k_Mpg hT hw 0 0 21 (v := .ref (r 21)) rfl rfl rfl (by decide) m10_7 d_Mpg_reckon_210 ?_
    refine lv_aload_n S.x S.b d_Mpg_reckon_213 rfl (lv_at hl 2 rfl) ?_
    refine px_get S k_Mpg hT hw 0 0 17 (v := .ref (r 17)) rfl rfl rfl (by decide) m10_1 d_Mpg_reckon_214 ?_
    refine lv_iload_n S.x S.b d_Mpg_reckon_217 rfl (lv_at hl 3 rfl) ?_
    refine px_iald S hT hw 0 13 (n := 2100) (f := (na 17)) rfl gp_17 (x := p0) (vp_in_iff.mpr (by first | exact oz_a7e05de1cd hrg.2.2 hrg.2.1 g1 g2 | (constructor <;> omega))) d_Mpg_reckon_218 ?_
    refine lv_topi (fun z70 ez70 => ?_)
    have lz70 := Int32.le_toInt z70
    have uz70 := Int32.toInt_lt z70
    have hsz70 : z59 = z70 := ez59.trans ez70.symm; subst hsz70
    refine px_iald S hT hw 0 17 (n := 2100) (f := (na 21)) rfl gp_21 (x := z59) (vp_in_iff.mpr (by first | exact oz_e7688a0eb5 hrg_z59.2.2 hrg_z59.2.1 hmc2 g1 hrg.2.1 g2 | (constructor <;> omega))) d_Mpg_reckon_219 ?_
    refine lv_topi (fun z71 ez71 => ?_)
    have lz71 := Int32.le_toInt z71
    have uz71 := Int32.toInt_lt z71
    refine lv_istore (lv' := [(6, .int z71), (5, .int v63), (4, .int z58), (0, .ref h), (1, .int p0)]) S.x S.b d_Mpg_reckon_220 hl (by decide) rfl (fun ls hl => ?_)
    exact J222 ((hi - mc).toNat + 1) cf61 mc z58 v63 z71 _ _ ls (show KpE cf cf61 from hke) (show WrV cf61 (tf 6).toInt from hwr) (show (cf61 33).toInt = (cf 33).toInt from by first | exact e66 | omega) (show (cf61 38).toInt = (cf 38).toInt from by first | exact e67 | omega) (show (cf61 48).toInt = (cf 48).toInt from by first | exact e68 | omega) (show (cf61 47).toInt = (cf 47).toInt from by first | exact e69 | omega) (show lo ≤ mc from by first | exact oz_dec8fc8b31 hrg_z59.1 hrg_z59.2.1 | omega) (show mc ≤ hi from by first | exact hmc1 | omega) (show RcM ta (tf 6).toInt na ma0 d p0 mc hi z71 from (by rw [ez71]; exact hrm)) (show RwJ na (Rk ta ca na ma0 kn d) z71 from (by rw [ez71]; exact hrj2)) (show hi - mc < ((((hi - mc).toNat + 1 : Nat) : Int) : Int) from by first | exact oz_natlt | omega) hw (lv_sub hl [3, 4, 2, 1, 0] rfl)
  · refine List.forall_mem_cons.mpr ⟨fun c72 => ?_, List.forall_mem_cons.mpr ⟨fun c72 => ?_, List.forall_mem_cons.mpr ⟨fun c72 => ?_, List.forall_mem_cons.mpr ⟨fun c72 => ?_, List.forall_mem_cons.mpr ⟨fun c72 => ?_, fun _ h => absurd h List.not_mem_nil⟩⟩⟩⟩⟩
    · simp only [List.mem_cons, List.not_mem_nil, or_false] at c72
      refine lv_aload_n S.x S.b d_Mpg_reckon_52 rfl (lv_at hl 0 rfl) ?_
      refine px_get S k_Mpg hT hw 0 0 10 (v := .ref (r 10)) rfl rfl rfl (by decide) m9_234 d_Mpg_reckon_53 ?_
      refine lv_aload_n S.x S.b d_Mpg_reckon_56 rfl (lv_at hl 0 rfl) ?_
      refine px_get S k_Mpg hT hw 0 0 15 (v := .ref (r 15)) rfl rfl rfl (by decide) m9_239 d_Mpg_reckon_57 ?_
      refine lv_iload_n S.x S.b d_Mpg_reckon_60 rfl (lv_at hl 1 rfl) ?_
      refine px_iald S hT hw 0 11 (n := 2100) (f := (na 15)) rfl gp_15 (x := p0) (vp_in_iff.mpr (by first | exact oz_a7e05de1cd hrg.2.2 hrg.2.1 g1 g2 | (constructor <;> omega))) d_Mpg_reckon_61 ?_
      refine lv_topi (fun z73 ez73 => ?_)
      have lz73 := Int32.le_toInt z73
      have uz73 := Int32.toInt_lt z73
      have rz73 := EcV.tok hec_p0 ez73
      refine px_iald S hT hw 0 9 (n := 2060) (f := (ta 10)) rfl gp_10 (x := z73) (vp_in_iff.mpr (by first | exact oz_b607b04d7a rz73.1 rz73.2 g3 | (constructor <;> omega))) d_Mpg_reckon_62 ?_
      refine lv_topi (fun z74 ez74 => ?_)
      have lz74 := Int32.le_toInt z74
      have uz74 := Int32.toInt_lt z74
      exact px_iret (v := z74) S hr rfl hlk hAe hw (Nat.le_of_ble_eq_true rfl) (Nat.le_of_ble_eq_true rfl) (⟨cf, rfl, (show KpE cf cf from hke), (show WrV cf (tf 6).toInt from hwr), (show (cf 33).toInt = (cf 33).toInt from rfl), (show (cf 38).toInt = (cf 38).toInt from rfl), (show (cf 48).toInt = (cf 48).toInt from rfl), (show (cf 47).toInt = (cf 47).toInt from rfl)⟩) d_Mpg_reckon_63
    · simp only [List.mem_cons, List.not_mem_nil, or_false] at c72
      refine lv_aload_n S.x S.b d_Mpg_reckon_64 rfl (lv_at hl 0 rfl) ?_
      refine px_get S k_Mpg hT hw 0 0 36 (v := .ref (r 36)) rfl rfl rfl (by decide) m10_25 d_Mpg_reckon_65 ?_
      refine lv_aload_n S.x S.b d_Mpg_reckon_68 rfl (lv_at hl 0 rfl) ?_
      refine lv_aload_n S.x S.b d_Mpg_reckon_69 rfl (lv_at hl 0 rfl) ?_
      refine px_get S k_Mpg hT hw 0 0 15 (v := .ref (r 15)) rfl rfl rfl (by decide) m9_239 d_Mpg_reckon_70 ?_
      refine lv_iload_n S.x S.b d_Mpg_reckon_73 rfl (lv_at hl 1 rfl) ?_
      refine px_iald S hT hw 0 11 (n := 2100) (f := (na 15)) rfl gp_15 (x := p0) (vp_in_iff.mpr (by first | exact oz_a7e05de1cd hrg.2.2 hrg.2.1 g1 g2 | (constructor <;> omega))) d_Mpg_reckon_74 ?_
      refine lv_topi (fun z75 ez75 => ?_)
      have lz75 := Int32.le_toInt z75
      have uz75 := Int32.toInt_lt z75
      have rz75 := EcV.tok hec_p0 ez75
      refine lv_iconst (v := 0) S.x S.b d_Mpg_reckon_75 (by decide) ?_
      refine px_calli (pr := []) (px_runV (As := [.int z75, .int 0]) (rest := [.ref (r 36)]) S (c_mp_find l D cs h r g tf ta pf na ma wa cf ca ef ea xf xa z75 0  (show 0 ≤ z75.toInt from by first | exact rz75.1 | omega) (show z75.toInt < (tf 6).toInt from by first | exact oz_7fe81129bf rz75.2 | omega) (show (tf 6).toInt ≤ 2049 from by first | exact g3 | omega) (show 0 ≤ (0 : Int) from by first | decide | omega) (show 0 ≤ (cf 33).toInt from by first | exact oz_f3ebed1ad0 g4 g5 | omega) htk (KnT.eq hkt (by first | with_reducible rfl | with_reducible assumption | omega)) _) hT (pr := []) (pcs := [wdP cs h r g tf ta pf na ma wa cf ca ef ea xf xa]) hw px_X.tt (px_recv hT hw 0 0 rfl rfl rfl) m12_181 m12_178 m12_180 ms_11_14 m1_21 q_Mpg_find ⟨show 1 + 1 ≤ (2 * (d + 1) + 6) from by first | with_reducible rfl | with_reducible assumption | omega, show 8 + (4 + 11) + 40 ≤ (100 * (d + 1) + 240) from by first | with_reducible rfl | with_reducible assumption | omega⟩ hl.1 rfl (Nat.le_of_ble_eq_true rfl) d_Mpg_reckon_76 ⟨Nat.le_of_ble_eq_true rfl, Nat.le_of_ble_eq_true rfl⟩) hw hA (fun v77 p76 H locs hp76 hw => ?_)
      obtain ⟨rfl, e78, e79, e80, e81⟩ := hp76
      have e78 : -1 ≤ v77.toInt := e78
      have e79 : v77.toInt < (cf 33).toInt := e79
      have e80 : 0 ≤ v77.toInt → (0 : Int) ≤ v77.toInt := e80
      have e81 : FndV ta ca (cf 33).toInt z75 (0 : Int) v77.toInt := e81
      have hfd := e81
      have hw : pw D A s.heap H locs [wdP cs h r g tf ta pf na ma wa cf ca ef ea xf xa] := hw
      have lv77 := Int32.le_toInt v77
      have uv77 := Int32.toInt_lt v77
      have hps := Rk.f2 hrk_p0 (by first | with_reducible rfl | with_reducible assumption | omega) ez75 hfd (by first | with_reducible rfl | with_reducible assumption | omega)
      refine px_iald S hT hw 0 25 (n := 1100) (f := (ca 36)) rfl gp_36 (x := v77) (vp_in_iff.mpr (by constructor <;> omega)) d_Mpg_reckon_79 ?_
      refine lv_topi (fun z82 ez82 => ?_)
      have lz82 := Int32.le_toInt z82
      have uz82 := Int32.toInt_lt z82
      exact px_iret (v := z82) S hr rfl hlk hAe hw (Nat.le_of_ble_eq_true rfl) (Nat.le_of_ble_eq_true rfl) (⟨cf, rfl, (show KpE cf cf from hke), (show WrV cf (tf 6).toInt from hwr), (show (cf 33).toInt = (cf 33).toInt from rfl), (show (cf 38).toInt = (cf 38).toInt from rfl), (show (cf 48).toInt = (cf 48).toInt from rfl), (show (cf 47).toInt = (cf 47).toInt from rfl)⟩) d_Mpg_reckon_80
    · simp only [List.mem_cons, List.not_mem_nil, or_false] at c72
      refine lv_aload_n S.x S.b d_Mpg_reckon_189 rfl (lv_at hl 0 rfl) ?_
      refine px_get S k_Mpg hT hw 0 0 22 (v := .ref (r 22)) rfl rfl rfl (by decide) m10_9 d_Mpg_reckon_190 ?_
      obtain ⟨hk7, hrw7⟩ := Rk.f7 hrk_p0 ⟨by first | with_reducible rfl | with_reducible assumption | omega, by first | with_reducible rfl | with_reducible assumption | omega, by first | with_reducible rfl | with_reducible assumption | omega, by first | with_reducible rfl | with_reducible assumption | omega⟩
      refine lv_iload_n S.x S.b d_Mpg_reckon_193 rfl (lv_at hl 1 rfl) ?_
      refine px_iald S hT hw 0 18 (n := 2100) (f := (ma 22)) rfl gp_22 (x := p0) (vp_in_iff.mpr (by first | exact oz_a7e05de1cd hrg.2.2 hrg.2.1 g1 g2 | (constructor <;> omega))) d_Mpg_reckon_194 ?_
      refine lv_topi (fun z83 ez83 => ?_)
      have lz83 := Int32.le_toInt z83
      have uz83 := Int32.toInt_lt z83
      refine lv_istore (lv' := [(4, .int z83), (0, .ref h), (1, .int p0)]) S.x S.b d_Mpg_reckon_195 hl (by decide) rfl (fun ls hl => ?_)
      refine lv_aload_n S.x S.b d_Mpg_reckon_197 rfl (lv_at hl 1 rfl) ?_
      refine lv_aload_n S.x S.b d_Mpg_reckon_198 rfl (lv_at hl 1 rfl) ?_
      refine px_get S k_Mpg hT hw 0 0 17 (v := .ref (r 17)) rfl rfl rfl (by decide) m10_1 d_Mpg_reckon_199 ?_
      refine lv_iload_n S.x S.b d_Mpg_reckon_202 rfl (lv_at hl 2 rfl) ?_
      refine px_iald S hT hw 0 13 (n := 2100) (f := (na 17)) rfl gp_17 (x := p0) (vp_in_iff.mpr (by first | exact oz_a7e05de1cd hrg.2.2 hrg.2.1 g1 g2 | (constructor <;> omega))) d_Mpg_reckon_203 ?_
      refine lv_topi (fun z84 ez84 => ?_)
      have lz84 := Int32.le_toInt z84
      have uz84 := Int32.toInt_lt z84
      obtain ⟨mc, hmc1, hmc2, hec_z84, hnc_z84, hrm⟩ := EcV.k7m hec_p0 hk7 ez84; have hrg_z84 := EcV.rng hec_z84; have hrj : RwJ na (Rk ta ca na ma0 kn d) z84 := (by rw [ez84]; exact hrw7); obtain ⟨hrk_z84, hrj2⟩ := RwJ.go hrj (by first | with_reducible rfl | with_reducible assumption | omega) rfl
      refine px_calli (pr := []) (px_runV (As := [.int z84]) (rest := []) S (hLR ma0 ys ns nf kn lo mc h r g tf ta pf na ma wa ca ef ea xf xa cf z84 (show 0 ≤ lo from by first | exact g0 | omega) (show mc ≤ (pf 13).toInt from by first | exact oz_8d1dd37214 g1 hmc2 hrg.2.1 | omega) (show (pf 13).toInt ≤ 2100 from by first | exact g2 | omega) (show (tf 6).toInt ≤ 2049 from by first | exact g3 | omega) (show (cf 33).toInt = kn from by first | exact g4 | omega) (show 0 ≤ kn from by first | exact g5 | omega) (show (cf 48).toInt = ns from by first | exact g6 | omega) (show (cf 38).toInt = nf from by first | exact g7 | omega) (show 0 ≤ nf from by first | exact g8 | omega) htk (FsI.le (N' := (pf 13).toInt) hfs (by first | with_reducible rfl | with_reducible assumption | omega)) hwr (KnT.eq hkt (by first | with_reducible rfl | with_reducible assumption | omega)) (FnT.eq hft (by first | with_reducible rfl | with_reducible assumption | omega)) han hec_z84 hrk_z84 _) hT (pr := []) (pcs := [wdP cs h r g tf ta pf na ma wa cf ca ef ea xf xa]) hw (oX_call (P := (fun A U H => (oP A g U H))) (pr := []) oG_P hw hA hP) (px_recv hT hw 0 0 rfl rfl rfl) m13_13 m13_10 m13_12 ms_13_0 m1_21 q_Mpg_reckon ⟨show (2 * d + 6) + 1 ≤ (2 * (d + 1) + 6) from by first | with_reducible rfl | with_reducible assumption | omega, show 8 + (7 + 11) + (100 * d + 240) ≤ (100 * (d + 1) + 240) from by first | with_reducible rfl | with_reducible assumption | omega⟩ hl.1 rfl (Nat.le_of_ble_eq_true rfl) d_Mpg_reckon_204 ⟨Nat.le_of_ble_eq_true rfl, Nat.le_of_ble_eq_true rfl⟩) hw hA (fun v88 p87 H locs hp87 hw => ?_)
      obtain ⟨cf86, rfl, e89, e90, e91, e92, e93, e94⟩ := hp87
      have e89 : KpE cf cf86 := e89
      have hke := (hke).tr e89
      have hkz_e89 := e89.2
      have e90 : WrV cf86 (tf 6).toInt := e90
      have hwr := e90
      have hw0_e90 := hwr.1
      have e91 : (cf86 33).toInt = (cf 33).toInt := e91
      have e92 : (cf86 38).toInt = (cf 38).toInt := e92
      have e93 : (cf86 48).toInt = (cf 48).toInt := e93
      have e94 : (cf86 47).toInt = (cf 47).toInt := e94
      have hw : pw D A s.heap H locs [wdP cs h r g tf ta pf na ma wa cf86 ca ef ea xf xa] := hw
      have lv88 := Int32.le_toInt v88
      have uv88 := Int32.toInt_lt v88
      refine lv_istore (lv' := [(5, .int v88), (4, .int z83), (0, .ref h), (1, .int p0)]) S.x S.b d_Mpg_reckon_207 hl (by decide) rfl (fun ls hl => ?_)
      refine lv_aload_n S.x S.b d_Mpg_reckon_209 rfl (lv_at hl 2 rfl) ?_
      refine px_get S k_Mpg hT hw 0 0 21 (v := .ref (r 21)) rfl rfl rfl (by decide) m10_7 d_Mpg_reckon_210 ?_
      refine lv_aload_n S.x S.b d_Mpg_reckon_213 rfl (lv_at hl 2 rfl) ?_
      refine px_get S k_Mpg hT hw 0 0 17 (v := .ref (r 17)) rfl rfl rfl (by decide) m10_1 d_Mpg_reckon_214 ?_
      refine lv_iload_n S.x S.b d_Mpg_reckon_217 rfl (lv_at hl 3 rfl) ?_
      refine px_iald S hT hw 0 13 (n := 2100) (f := (na 17)) rfl gp_17 (x := p0) (vp_in_iff.mpr (by first | exact oz_a7e05de1cd hrg.2.2 hrg.2.1 g1 g2 | (constructor <;> omega))) d_Mpg_reckon_218 ?_
      refine lv_topi (fun z95 ez95 => ?_)
      have lz95 := Int32.le_toInt z95
      have uz95 := Int32.toInt_lt z95
      have hsz95 : z84 = z95 := ez84.trans ez95.symm; subst hsz95
      refine px_iald S hT hw 0 17 (n := 2100) (f := (na 21)) rfl gp_21 (x := z84) (vp_in_iff.mpr (by first | exact oz_e7688a0eb5 hrg_z84.2.2 hrg_z84.2.1 hmc2 g1 hrg.2.1 g2 | (constructor <;> omega))) d_Mpg_reckon_219 ?_
      refine lv_topi (fun z96 ez96 => ?_)
      have lz96 := Int32.le_toInt z96
      have uz96 := Int32.toInt_lt z96
      refine lv_istore (lv' := [(6, .int z96), (5, .int v88), (4, .int z83), (0, .ref h), (1, .int p0)]) S.x S.b d_Mpg_reckon_220 hl (by decide) rfl (fun ls hl => ?_)
      exact J222 ((hi - mc).toNat + 1) cf86 mc z83 v88 z96 _ _ ls (show KpE cf cf86 from hke) (show WrV cf86 (tf 6).toInt from hwr) (show (cf86 33).toInt = (cf 33).toInt from by first | exact e91 | omega) (show (cf86 38).toInt = (cf 38).toInt from by first | exact e92 | omega) (show (cf86 48).toInt = (cf 48).toInt from by first | exact e93 | omega) (show (cf86 47).toInt = (cf 47).toInt from by first | exact e94 | omega) (show lo ≤ mc from by first | exact oz_dec8fc8b31 hrg_z84.1 hrg_z84.2.1 | omega) (show mc ≤ hi from by first | exact hmc1 | omega) (show RcM ta (tf 6).toInt na ma0 d p0 mc hi z96 from (by rw [ez96]; exact hrm)) (show RwJ na (Rk ta ca na ma0 kn d) z96 from (by rw [ez96]; exact hrj2)) (show hi - mc < ((((hi - mc).toNat + 1 : Nat) : Int) : Int) from by first | exact oz_natlt | omega) hw (lv_sub hl [3, 4, 2, 1, 0] rfl)
    · simp only [List.mem_cons, List.not_mem_nil, or_false] at c72
      refine lv_aload_n S.x S.b d_Mpg_reckon_81 rfl (lv_at hl 0 rfl) ?_
      refine lv_aload_n S.x S.b d_Mpg_reckon_82 rfl (lv_at hl 0 rfl) ?_
      refine px_get S k_Mpg hT hw 0 0 17 (v := .ref (r 17)) rfl rfl rfl (by decide) m10_1 d_Mpg_reckon_83 ?_
      refine lv_iload_n S.x S.b d_Mpg_reckon_86 rfl (lv_at hl 1 rfl) ?_
      refine px_iald S hT hw 0 13 (n := 2100) (f := (na 17)) rfl gp_17 (x := p0) (vp_in_iff.mpr (by first | exact oz_a7e05de1cd hrg.2.2 hrg.2.1 g1 g2 | (constructor <;> omega))) d_Mpg_reckon_87 ?_
      refine lv_topi (fun z97 ez97 => ?_)
      have lz97 := Int32.le_toInt z97
      have uz97 := Int32.toInt_lt z97
      have hec_z97 := EcV.k56 hec_p0 (by first | with_reducible rfl | with_reducible assumption | omega) ez97; have hrg_z97 := EcV.rng hec_z97
      have hrk_z97 := Rk.f5 hrk_p0 (by first | with_reducible rfl | with_reducible assumption | omega) ez97
      refine px_calli (pr := []) (px_runV (As := [.int z97]) (rest := []) S (hLR ma0 ys ns nf kn lo p0.toInt h r g tf ta pf na ma wa ca ef ea xf xa cf z97 (show 0 ≤ lo from by first | exact g0 | omega) (show p0.toInt ≤ (pf 13).toInt from by first | exact oz_6996e0781a g1 hrg.2.1 | omega) (show (pf 13).toInt ≤ 2100 from by first | exact g2 | omega) (show (tf 6).toInt ≤ 2049 from by first | exact g3 | omega) (show (cf 33).toInt = kn from by first | exact g4 | omega) (show 0 ≤ kn from by first | exact g5 | omega) (show (cf 48).toInt = ns from by first | exact g6 | omega) (show (cf 38).toInt = nf from by first | exact g7 | omega) (show 0 ≤ nf from by first | exact g8 | omega) htk (FsI.le (N' := (pf 13).toInt) hfs (by first | with_reducible rfl | with_reducible assumption | omega)) hwr (KnT.eq hkt (by first | with_reducible rfl | with_reducible assumption | omega)) (FnT.eq hft (by first | with_reducible rfl | with_reducible assumption | omega)) han hec_z97 hrk_z97 _) hT (pr := []) (pcs := [wdP cs h r g tf ta pf na ma wa cf ca ef ea xf xa]) hw (oX_call (P := (fun A U H => (oP A g U H))) (pr := []) oG_P hw hA hP) (px_recv hT hw 0 0 rfl rfl rfl) m13_13 m13_10 m13_12 ms_13_0 m1_21 q_Mpg_reckon ⟨show (2 * d + 6) + 1 ≤ (2 * (d + 1) + 6) from by first | with_reducible rfl | with_reducible assumption | omega, show 8 + (7 + 11) + (100 * d + 240) ≤ (100 * (d + 1) + 240) from by first | with_reducible rfl | with_reducible assumption | omega⟩ hl.1 rfl (Nat.le_of_ble_eq_true rfl) d_Mpg_reckon_88 ⟨Nat.le_of_ble_eq_true rfl, Nat.le_of_ble_eq_true rfl⟩) hw hA (fun v101 p100 H locs hp100 hw => ?_)
      obtain ⟨cf99, rfl, e102, e103, e104, e105, e106, e107⟩ := hp100
      have e102 : KpE cf cf99 := e102
      have hke := (hke).tr e102
      have hkz_e102 := e102.2
      have e103 : WrV cf99 (tf 6).toInt := e103
      have hwr := e103
      have hw0_e103 := hwr.1
      have e104 : (cf99 33).toInt = (cf 33).toInt := e104
      have e105 : (cf99 38).toInt = (cf 38).toInt := e105
      have e106 : (cf99 48).toInt = (cf 48).toInt := e106
      have e107 : (cf99 47).toInt = (cf 47).toInt := e107
      have hw : pw D A s.heap H locs [wdP cs h r g tf ta pf na ma wa cf99 ca ef ea xf xa] := hw
      have lv101 := Int32.le_toInt v101
      have uv101 := Int32.toInt_lt v101
      refine lv_istore_n (lv' := [(2, .int v101), (0, .ref h), (1, .int p0)]) S.x S.b d_Mpg_reckon_91 rfl hl (by decide) rfl (fun ls hl => ?_)
      refine lv_aload_n S.x S.b d_Mpg_reckon_92 rfl (lv_at hl 1 rfl) ?_
      refine px_get S k_Mpg hT hw 0 0 4 (v := .ref (r 4)) rfl rfl rfl (by decide) m9_228 d_Mpg_reckon_93 ?_
      refine lv_aload_n S.x S.b d_Mpg_reckon_96 rfl (lv_at hl 1 rfl) ?_
      refine px_get S k_Mpg hT hw 0 0 7 (v := .ref (r 7)) rfl rfl rfl (by decide) m9_231 d_Mpg_reckon_97 ?_
      refine lv_aload_n S.x S.b d_Mpg_reckon_100 rfl (lv_at hl 1 rfl) ?_
      refine px_get S k_Mpg hT hw 0 0 15 (v := .ref (r 15)) rfl rfl rfl (by decide) m9_239 d_Mpg_reckon_101 ?_
      refine lv_iload_n S.x S.b d_Mpg_reckon_104 rfl (lv_at hl 2 rfl) ?_
      refine px_iald S hT hw 0 11 (n := 2100) (f := (na 15)) rfl gp_15 (x := p0) (vp_in_iff.mpr (by first | exact oz_a7e05de1cd hrg.2.2 hrg.2.1 g1 g2 | (constructor <;> omega))) d_Mpg_reckon_105 ?_
      refine lv_topi (fun z108 ez108 => ?_)
      have lz108 := Int32.le_toInt z108
      have uz108 := Int32.toInt_lt z108
      have rz108 := EcV.tok hec_p0 ez108
      refine px_iald S hT hw 0 6 (n := 2060) (f := (ta 7)) rfl gp_7 (x := z108) (vp_in_iff.mpr (by first | exact oz_b607b04d7a rz108.1 rz108.2 g3 | (constructor <;> omega))) d_Mpg_reckon_106 ?_
      refine lv_topi (fun z109 ez109 => ?_)
      have lz109 := Int32.le_toInt z109
      have uz109 := Int32.toInt_lt z109
      have rz109 : z109.toInt = bp ta z108 := by rw [ez109]; rfl
      have hz5 := tk_z5 htk (x := z108) (by first | with_reducible rfl | with_reducible assumption | omega) (by first | with_reducible rfl | with_reducible assumption | omega) (EcV.n5 hec_p0 (by first | with_reducible rfl | with_reducible assumption | omega) ez108); have hb5 := tk_b htk (x := z108) (by first | with_reducible rfl | with_reducible assumption | omega) (by first | with_reducible rfl | with_reducible assumption | omega)
      refine px_bald S hT hw 0 5 (n := 2048) (f := (ta 4)) rfl gp_4 (x := z109) (vp_in_iff.mpr (by first | exact oz_eacedfd6de rz109 hb5.1 hb5.2.2.1 hz5 hb5.2.2.2 | (constructor <;> omega))) d_Mpg_reckon_107 ?_
      refine lv_topi (fun z110 ez110 => ?_)
      have lz110 := Int32.le_toInt z110
      have uz110 := Int32.toInt_lt z110
      refine lv_istore_n (lv' := [(3, .int z110), (2, .int v101), (0, .ref h), (1, .int p0)]) S.x S.b d_Mpg_reckon_108 rfl hl (by decide) rfl (fun ls hl => ?_)
      refine lv_iload_n S.x S.b d_Mpg_reckon_109 rfl (lv_at hl 0 rfl) ?_
      refine lv_bipush (v := 45) S.x S.b d_Mpg_reckon_110 (by decide) ?_
      refine lv_icmp_ne (tgt := 120) S.x S.b d_Mpg_reckon_112 (by decide) (fun c111 => ?_) (fun c111 => ?_)
      · have nc111 : ¬ z110.toInt = (45 : Int) := mt (i_eq (x := z110) (y := 45)).mpr c111
        refine lv_iload_n S.x S.b d_Mpg_reckon_120 rfl (lv_at hl 0 rfl) ?_
        refine lv_bipush (v := 33) S.x S.b d_Mpg_reckon_121 (by decide) ?_
        refine lv_icmp_ne (tgt := 138) S.x S.b d_Mpg_reckon_123 (by decide) (fun c112 => ?_) (fun c112 => ?_)
        · have nc112 : ¬ z110.toInt = (33 : Int) := mt (i_eq (x := z110) (y := 33)).mpr c112
          refine lv_iload_n S.x S.b d_Mpg_reckon_138 rfl (lv_at hl 0 rfl) ?_
          refine lv_bipush (v := 126) S.x S.b d_Mpg_reckon_139 (by decide) ?_
          refine lv_icmp_ne (tgt := 150) S.x S.b d_Mpg_reckon_141 (by decide) (fun c113 => ?_) (fun c113 => ?_)
          · have nc113 : ¬ z110.toInt = (126 : Int) := mt (i_eq (x := z110) (y := 126)).mpr c113
            refine lv_iload_n S.x S.b d_Mpg_reckon_150 rfl (lv_at hl 1 rfl) ?_
            exact px_iret (v := v101) S hr rfl hlk hAe hw (Nat.le_of_ble_eq_true rfl) (Nat.le_of_ble_eq_true rfl) (⟨cf99, rfl, (show KpE cf cf99 from hke), (show WrV cf99 (tf 6).toInt from hwr), (show (cf99 33).toInt = (cf 33).toInt from by first | exact e104 | omega), (show (cf99 38).toInt = (cf 38).toInt from by first | exact e105 | omega), (show (cf99 48).toInt = (cf 48).toInt from by first | exact e106 | omega), (show (cf99 47).toInt = (cf 47).toInt from by first | exact e107 | omega)⟩) d_Mpg_reckon_151
          · have nc113 : z110.toInt = (126 : Int) := (i_eq (x := z110) (y := 126)).mp c113
            refine lv_iload_n S.x S.b d_Mpg_reckon_144 rfl (lv_at hl 1 rfl) ?_
            refine lv_iconst (v := (-1)) S.x S.b d_Mpg_reckon_145 (by decide) ?_
            refine lv_ixor S.x S.b d_Mpg_reckon_146 ?_
            refine lv_topi (fun z114 ez114 => ?_)
            have lz114 := Int32.le_toInt z114
            have uz114 := Int32.toInt_lt z114
            refine lv_goto (tgt := 151) S.x S.b d_Mpg_reckon_147 (by decide) ?_
            exact px_iret (v := z114) S hr rfl hlk hAe hw (Nat.le_of_ble_eq_true rfl) (Nat.le_of_ble_eq_true rfl) (⟨cf99, rfl, (show KpE cf cf99 from hke), (show WrV cf99 (tf 6).toInt from hwr), (show (cf99 33).toInt = (cf 33).toInt from by first | exact e104 | omega), (show (cf99 38).toInt = (cf 38).toInt from by first | exact e105 | omega), (show (cf99 48).toInt = (cf 48).toInt from by first | exact e106 | omega), (show (cf99 47).toInt = (cf 47).toInt from by first | exact e107 | omega)⟩) d_Mpg_reckon_151
        · have nc112 : z110.toInt = (33 : Int) := (i_eq (x := z110) (y := 33)).mp c112
          refine lv_iload_n S.x S.b d_Mpg_reckon_126 rfl (lv_at hl 1 rfl) ?_
          refine lv_if_ne (tgt := 134) S.x S.b d_Mpg_reckon_127 (by decide) (fun c115 => ?_) (fun c115 => ?_)
          · have nc115 : ¬ v101.toInt = (0 : Int) := mt (i_eq (x := v101) (y := 0)).mpr c115
            refine lv_iconst (v := 0) S.x S.b d_Mpg_reckon_134 (by decide) ?_
            refine lv_goto (tgt := 151) S.x S.b d_Mpg_reckon_135 (by decide) ?_
            exact px_iret (v := 0) S hr rfl hlk hAe hw (Nat.le_of_ble_eq_true rfl) (Nat.le_of_ble_eq_true rfl) (⟨cf99, rfl, (show KpE cf cf99 from hke), (show WrV cf99 (tf 6).toInt from hwr), (show (cf99 33).toInt = (cf 33).toInt from by first | exact e104 | omega), (show (cf99 38).toInt = (cf 38).toInt from by first | exact e105 | omega), (show (cf99 48).toInt = (cf 48).toInt from by first | exact e106 | omega), (show (cf99 47).toInt = (cf 47).toInt from by first | exact e107 | omega)⟩) d_Mpg_reckon_151
          · have nc115 : v101.toInt = (0 : Int) := (i_eq (x := v101) (y := 0)).mp c115
            refine lv_iconst (v := 1) S.x S.b d_Mpg_reckon_130 (by decide) ?_
            refine lv_goto (tgt := 151) S.x S.b d_Mpg_reckon_131 (by decide) ?_
            exact px_iret (v := 1) S hr rfl hlk hAe hw (Nat.le_of_ble_eq_true rfl) (Nat.le_of_ble_eq_true rfl) (⟨cf99, rfl, (show KpE cf cf99 from hke), (show WrV cf99 (tf 6).toInt from hwr), (show (cf99 33).toInt = (cf 33).toInt from by first | exact e104 | omega), (show (cf99 38).toInt = (cf 38).toInt from by first | exact e105 | omega), (show (cf99 48).toInt = (cf 48).toInt from by first | exact e106 | omega), (show (cf99 47).toInt = (cf 47).toInt from by first | exact e107 | omega)⟩) d_Mpg_reckon_151
      · have nc111 : z110.toInt = (45 : Int) := (i_eq (x := z110) (y := 45)).mp c111
        refine lv_iload_n S.x S.b d_Mpg_reckon_115 rfl (lv_at hl 1 rfl) ?_
        refine lv_ineg S.x S.b d_Mpg_reckon_116 ?_
        refine lv_topi (fun z116 ez116 => ?_)
        have lz116 := Int32.le_toInt z116
        have uz116 := Int32.toInt_lt z116
        refine lv_goto (tgt := 151) S.x S.b d_Mpg_reckon_117 (by decide) ?_
        exact px_iret (v := z116) S hr rfl hlk hAe hw (Nat.le_of_ble_eq_true rfl) (Nat.le_of_ble_eq_true rfl) (⟨cf99, rfl, (show KpE cf cf99 from hke), (show WrV cf99 (tf 6).toInt from hwr), (show (cf99 33).toInt = (cf 33).toInt from by first | exact e104 | omega), (show (cf99 38).toInt = (cf 38).toInt from by first | exact e105 | omega), (show (cf99 48).toInt = (cf 48).toInt from by first | exact e106 | omega), (show (cf99 47).toInt = (cf 47).toInt from by first | exact e107 | omega)⟩) d_Mpg_reckon_151
    · simp only [List.mem_cons, List.not_mem_nil, or_false] at c72
      refine lv_aload_n S.x S.b d_Mpg_reckon_152 rfl (lv_at hl 0 rfl) ?_
      refine lv_aload_n S.x S.b d_Mpg_reckon_153 rfl (lv_at hl 0 rfl) ?_
      refine px_get S k_Mpg hT hw 0 0 17 (v := .ref (r 17)) rfl rfl rfl (by decide) m10_1 d_Mpg_reckon_154 ?_
      refine lv_iload_n S.x S.b d_Mpg_reckon_157 rfl (lv_at hl 1 rfl) ?_
      refine px_iald S hT hw 0 13 (n := 2100) (f := (na 17)) rfl gp_17 (x := p0) (vp_in_iff.mpr (by first | exact oz_a7e05de1cd hrg.2.2 hrg.2.1 g1 g2 | (constructor <;> omega))) d_Mpg_reckon_158 ?_
      refine lv_topi (fun z117 ez117 => ?_)
      have lz117 := Int32.le_toInt z117
      have uz117 := Int32.toInt_lt z117
      obtain ⟨m1, m2, hm1, hm2, hec_z117, hec_y8, hec_x8⟩ := EcV.k8 hec_p0 (by first | with_reducible rfl | with_reducible assumption | omega) ez117 rfl rfl; have hrg_z117 := EcV.rng hec_z117; have hrg_y8 := EcV.rng hec_y8; have hrg_x8 := EcV.rng hec_x8
      obtain ⟨hrk_z117, hrk_y8, hrk_x8⟩ := Rk.f8 hrk_p0 (by first | with_reducible rfl | with_reducible assumption | omega) ez117
      refine px_calli (pr := []) (px_runV (As := [.int z117]) (rest := []) S (hLR ma0 ys ns nf kn lo m1 h r g tf ta pf na ma wa ca ef ea xf xa cf z117 (show 0 ≤ lo from by first | exact g0 | omega) (show m1 ≤ (pf 13).toInt from by first | exact oz_f3248735d7 g1 hrg_y8.1 hrg.2.1 hrg_y8.2.1 hrg_x8.1 hrg_x8.2.1 | omega) (show (pf 13).toInt ≤ 2100 from by first | exact g2 | omega) (show (tf 6).toInt ≤ 2049 from by first | exact g3 | omega) (show (cf 33).toInt = kn from by first | exact g4 | omega) (show 0 ≤ kn from by first | exact g5 | omega) (show (cf 48).toInt = ns from by first | exact g6 | omega) (show (cf 38).toInt = nf from by first | exact g7 | omega) (show 0 ≤ nf from by first | exact g8 | omega) htk (FsI.le (N' := (pf 13).toInt) hfs (by first | with_reducible rfl | with_reducible assumption | omega)) hwr (KnT.eq hkt (by first | with_reducible rfl | with_reducible assumption | omega)) (FnT.eq hft (by first | with_reducible rfl | with_reducible assumption | omega)) han hec_z117 hrk_z117 _) hT (pr := []) (pcs := [wdP cs h r g tf ta pf na ma wa cf ca ef ea xf xa]) hw (oX_call (P := (fun A U H => (oP A g U H))) (pr := []) oG_P hw hA hP) (px_recv hT hw 0 0 rfl rfl rfl) m13_13 m13_10 m13_12 ms_13_0 m1_21 q_Mpg_reckon ⟨show (2 * d + 6) + 1 ≤ (2 * (d + 1) + 6) from by first | with_reducible rfl | with_reducible assumption | omega, show 8 + (7 + 11) + (100 * d + 240) ≤ (100 * (d + 1) + 240) from by first | with_reducible rfl | with_reducible assumption | omega⟩ hl.1 rfl (Nat.le_of_ble_eq_true rfl) d_Mpg_reckon_159 ⟨Nat.le_of_ble_eq_true rfl, Nat.le_of_ble_eq_true rfl⟩) hw hA (fun v121 p120 H locs hp120 hw => ?_)
      obtain ⟨cf119, rfl, e122, e123, e124, e125, e126, e127⟩ := hp120
      have e122 : KpE cf cf119 := e122
      have hke := (hke).tr e122
      have hkz_e122 := e122.2
      have e123 : WrV cf119 (tf 6).toInt := e123
      have hwr := e123
      have hw0_e123 := hwr.1
      have e124 : (cf119 33).toInt = (cf 33).toInt := e124
      have e125 : (cf119 38).toInt = (cf 38).toInt := e125
      have e126 : (cf119 48).toInt = (cf 48).toInt := e126
      have e127 : (cf119 47).toInt = (cf 47).toInt := e127
      have hw : pw D A s.heap H locs [wdP cs h r g tf ta pf na ma wa cf119 ca ef ea xf xa] := hw
      have lv121 := Int32.le_toInt v121
      have uv121 := Int32.toInt_lt v121
      refine lv_if_eq (tgt := 178) S.x S.b d_Mpg_reckon_162 (by decide) (fun c128 => ?_) (fun c128 => ?_)
      · have nc128 : v121.toInt = (0 : Int) := (i_eq (x := v121) (y := 0)).mp c128
        refine lv_aload_n S.x S.b d_Mpg_reckon_178 rfl (lv_at hl 0 rfl) ?_
        refine lv_aload_n S.x S.b d_Mpg_reckon_179 rfl (lv_at hl 0 rfl) ?_
        refine px_get S k_Mpg hT hw 0 0 19 (v := .ref (r 19)) rfl rfl rfl (by decide) m10_5 d_Mpg_reckon_180 ?_
        refine lv_iload_n S.x S.b d_Mpg_reckon_183 rfl (lv_at hl 1 rfl) ?_
        refine px_iald S hT hw 0 15 (n := 2100) (f := (ma 19)) rfl gp_19 (x := p0) (vp_in_iff.mpr (by first | exact oz_18f227bc52 hrg_x8.2.1 hrg_x8.2.2 hrg.2.1 g1 g2 | (constructor <;> omega))) d_Mpg_reckon_184 ?_
        refine lv_topi (fun z129 ez129 => ?_)
        have lz129 := Int32.le_toInt z129
        have uz129 := Int32.toInt_lt z129
        have ha_z129 : z129 = ma0 19 p0.toNatClampNeg := ez129.trans (Ann.b19 han (by first | with_reducible rfl | with_reducible assumption | omega)); have hec_z129 : EcV ta (tf 6).toInt na ma0 d m2 p0.toInt z129 := (by rw [ha_z129]; exact hec_x8)
        have hrk_z129 : Rk ta ca na ma0 kn d z129 := (by rw [ha_z129]; exact hrk_x8)
        refine px_calli (pr := []) (px_runV (As := [.int z129]) (rest := []) S (hLR ma0 ys ns nf kn m2 p0.toInt h r g tf ta pf na ma wa ca ef ea xf xa cf119 z129 (show 0 ≤ m2 from by first | exact oz_0a7da9c4d6 hrg_y8.2.1 hrg_y8.2.2 | omega) (show p0.toInt ≤ (pf 13).toInt from by first | exact oz_6996e0781a g1 hrg.2.1 | omega) (show (pf 13).toInt ≤ 2100 from by first | exact g2 | omega) (show (tf 6).toInt ≤ 2049 from by first | exact g3 | omega) (show (cf119 33).toInt = kn from by first | exact oz_1687f4cc65 g4 e124 | omega) (show 0 ≤ kn from by first | exact g5 | omega) (show (cf119 48).toInt = ns from by first | exact oz_1687f4cc65 g6 e126 | omega) (show (cf119 38).toInt = nf from by first | exact oz_1687f4cc65 g7 e125 | omega) (show 0 ≤ nf from by first | exact g8 | omega) htk (FsI.le (N' := (pf 13).toInt) hfs (by first | with_reducible rfl | with_reducible assumption | omega)) hwr (KnT.eq hkt (by first | with_reducible rfl | with_reducible assumption | omega)) (FnT.eq hft (by first | with_reducible rfl | with_reducible assumption | omega)) han hec_z129 hrk_z129 _) hT (pr := []) (pcs := [wdP cs h r g tf ta pf na ma wa cf119 ca ef ea xf xa]) hw (oX_call (P := (fun A U H => (oP A g U H))) (pr := []) oG_P hw hA hP) (px_recv hT hw 0 0 rfl rfl rfl) m13_13 m13_10 m13_12 ms_13_0 m1_21 q_Mpg_reckon ⟨show (2 * d + 6) + 1 ≤ (2 * (d + 1) + 6) from by first | with_reducible rfl | with_reducible assumption | omega, show 8 + (7 + 11) + (100 * d + 240) ≤ (100 * (d + 1) + 240) from by first | with_reducible rfl | with_reducible assumption | omega⟩ hl.1 rfl (Nat.le_of_ble_eq_true rfl) d_Mpg_reckon_185 ⟨Nat.le_of_ble_eq_true rfl, Nat.le_of_ble_eq_true rfl⟩) hw hA (fun v133 p132 H locs hp132 hw => ?_)
        obtain ⟨cf131, rfl, e134, e135, e136, e137, e138, e139⟩ := hp132
        have e134 : KpE cf119 cf131 := e134
        have hke := (hke).tr e134
        have hkz_e134 := e134.2
        have e135 : WrV cf131 (tf 6).toInt := e135
        have hwr := e135
        have hw0_e135 := hwr.1
        have e136 : (cf131 33).toInt = (cf119 33).toInt := e136
        have e137 : (cf131 38).toInt = (cf119 38).toInt := e137
        have e138 : (cf131 48).toInt = (cf119 48).toInt := e138
        have e139 : (cf131 47).toInt = (cf119 47).toInt := e139
        have hw : pw D A s.heap H locs [wdP cs h r g tf ta pf na ma wa cf131 ca ef ea xf xa] := hw
        have lv133 := Int32.le_toInt v133
        have uv133 := Int32.toInt_lt v133
        exact px_iret (v := v133) S hr rfl hlk hAe hw (Nat.le_of_ble_eq_true rfl) (Nat.le_of_ble_eq_true rfl) (⟨cf131, rfl, (show KpE cf cf131 from hke), (show WrV cf131 (tf 6).toInt from hwr), (show (cf131 33).toInt = (cf 33).toInt from by first | exact oz_1687f4cc65 e124 e136 | omega), (show (cf131 38).toInt = (cf 38).toInt from by first | exact oz_1687f4cc65 e125 e137 | omega), (show (cf131 48).toInt = (cf 48).toInt from by first | exact oz_1687f4cc65 e126 e138 | omega), (show (cf131 47).toInt = (cf 47).toInt from by first | exact oz_1687f4cc65 e127 e139 | omega)⟩) d_Mpg_reckon_188
      · have nc128 : ¬ v121.toInt = (0 : Int) := mt (i_eq (x := v121) (y := 0)).mpr c128
        refine lv_aload_n S.x S.b d_Mpg_reckon_165 rfl (lv_at hl 0 rfl) ?_
        refine lv_aload_n S.x S.b d_Mpg_reckon_166 rfl (lv_at hl 0 rfl) ?_
        refine px_get S k_Mpg hT hw 0 0 18 (v := .ref (r 18)) rfl rfl rfl (by decide) m10_3 d_Mpg_reckon_167 ?_
        refine lv_iload_n S.x S.b d_Mpg_reckon_170 rfl (lv_at hl 1 rfl) ?_
        refine px_iald S hT hw 0 14 (n := 2100) (f := (ma 18)) rfl gp_18 (x := p0) (vp_in_iff.mpr (by first | exact oz_18f227bc52 hrg_x8.2.1 hrg_x8.2.2 hrg.2.1 g1 g2 | (constructor <;> omega))) d_Mpg_reckon_171 ?_
        refine lv_topi (fun z140 ez140 => ?_)
        have lz140 := Int32.le_toInt z140
        have uz140 := Int32.toInt_lt z140
        have ha_z140 : z140 = ma0 18 p0.toNatClampNeg := ez140.trans (Ann.b18 han (by first | with_reducible rfl | with_reducible assumption | omega)); have hec_z140 : EcV ta (tf 6).toInt na ma0 d m1 m2 z140 := (by rw [ha_z140]; exact hec_y8)
        have hrk_z140 : Rk ta ca na ma0 kn d z140 := (by rw [ha_z140]; exact hrk_y8)
        refine px_calli (pr := []) (px_runV (As := [.int z140]) (rest := []) S (hLR ma0 ys ns nf kn m1 m2 h r g tf ta pf na ma wa ca ef ea xf xa cf119 z140 (show 0 ≤ m1 from by first | exact oz_0a7da9c4d6 hrg_z117.2.1 hrg_z117.2.2 | omega) (show m2 ≤ (pf 13).toInt from by first | exact oz_dc2da80b19 g1 hrg_x8.1 hrg.2.1 hrg_x8.2.1 | omega) (show (pf 13).toInt ≤ 2100 from by first | exact g2 | omega) (show (tf 6).toInt ≤ 2049 from by first | exact g3 | omega) (show (cf119 33).toInt = kn from by first | exact oz_1687f4cc65 g4 e124 | omega) (show 0 ≤ kn from by first | exact g5 | omega) (show (cf119 48).toInt = ns from by first | exact oz_1687f4cc65 g6 e126 | omega) (show (cf119 38).toInt = nf from by first | exact oz_1687f4cc65 g7 e125 | omega) (show 0 ≤ nf from by first | exact g8 | omega) htk (FsI.le (N' := (pf 13).toInt) hfs (by first | with_reducible rfl | with_reducible assumption | omega)) hwr (KnT.eq hkt (by first | with_reducible rfl | with_reducible assumption | omega)) (FnT.eq hft (by first | with_reducible rfl | with_reducible assumption | omega)) han hec_z140 hrk_z140 _) hT (pr := []) (pcs := [wdP cs h r g tf ta pf na ma wa cf119 ca ef ea xf xa]) hw (oX_call (P := (fun A U H => (oP A g U H))) (pr := []) oG_P hw hA hP) (px_recv hT hw 0 0 rfl rfl rfl) m13_13 m13_10 m13_12 ms_13_0 m1_21 q_Mpg_reckon ⟨show (2 * d + 6) + 1 ≤ (2 * (d + 1) + 6) from by first | with_reducible rfl | with_reducible assumption | omega, show 8 + (7 + 11) + (100 * d + 240) ≤ (100 * (d + 1) + 240) from by first | with_reducible rfl | with_reducible assumption | omega⟩ hl.1 rfl (Nat.le_of_ble_eq_true rfl) d_Mpg_reckon_172 ⟨Nat.le_of_ble_eq_true rfl, Nat.le_of_ble_eq_true rfl⟩) hw hA (fun v144 p143 H locs hp143 hw => ?_)
        obtain ⟨cf142, rfl, e145, e146, e147, e148, e149, e150⟩ := hp143
        have e145 : KpE cf119 cf142 := e145
        have hke := (hke).tr e145
        have hkz_e145 := e145.2
        have e146 : WrV cf142 (tf 6).toInt := e146
        have hwr := e146
        have hw0_e146 := hwr.1
        have e147 : (cf142 33).toInt = (cf119 33).toInt := e147
        have e148 : (cf142 38).toInt = (cf119 38).toInt := e148
        have e149 : (cf142 48).toInt = (cf119 48).toInt := e149
        have e150 : (cf142 47).toInt = (cf119 47).toInt := e150
        have hw : pw D A s.heap H locs [wdP cs h r g tf ta pf na ma wa cf142 ca ef ea xf xa] := hw
        have lv144 := Int32.le_toInt v144
        have uv144 := Int32.toInt_lt v144
        refine lv_goto (tgt := 188) S.x S.b d_Mpg_reckon_175 (by decide) ?_
        exact px_iret (v := v144) S hr rfl hlk hAe hw (Nat.le_of_ble_eq_true rfl) (Nat.le_of_ble_eq_true rfl) (⟨cf142, rfl, (show KpE cf cf142 from hke), (show WrV cf142 (tf 6).toInt from hwr), (show (cf142 33).toInt = (cf 33).toInt from by first | exact oz_1687f4cc65 e124 e147 | omega), (show (cf142 38).toInt = (cf 38).toInt from by first | exact oz_1687f4cc65 e125 e148 | omega), (show (cf142 48).toInt = (cf 48).toInt from by first | exact oz_1687f4cc65 e126 e149 | omega), (show (cf142 47).toInt = (cf 47).toInt from by first | exact oz_1687f4cc65 e127 e150 | omega)⟩) d_Mpg_reckon_188
theorem rkc_all (l : Launch) (D : va_G) (cs : Nat → ClassId) : ∀ d : Nat, RkC l D cs d := by
  intro d
  induction d with
  | zero => intro ma0 ys ns nf kn lo hi h r g tf ta pf na ma wa ca ef ea xf xa cf p0 g0 g1 g2 g3 g4 g5 g6 g7 g8 htk hfs hwr hkt hft han hec hrk; exact (ec_0 hec).elim
  | succ d ih => intro ma0 ys ns nf kn lo hi h r g tf ta pf na ma wa ca ef ea xf xa cf p0 g0 g1 g2 g3 g4 g5 g6 g7 g8 htk hfs hwr hkt hft han hec hrk; exact c_mp_reckon l D cs ma0 ys ns nf kn d lo hi h r g tf ta pf na ma wa ca ef ea xf xa cf p0 g0 g1 g2 g3 g4 g5 g6 g7 g8 htk hfs hwr hkt hft han hec hrk ih
set_option maxHeartbeats 4000000 in
set_option maxRecDepth 100000 in
theorem c_S_reckon (l : Launch) (D : va_G) (cs : Nat → ClassId) (ma0 : Nat → Nat → Int32) (ys : Int) (ns : Int) (nf : Int) (kn : Int) (d : Nat) (lo : Int) (hi : Int) (h : Nat) (r : Nat → Nat) (g : Nat → Nat → Option Nat) (tf : Nat → Int32) (ta : Nat → Nat → Int32) (pf : Nat → Int32) (na : Nat → Nat → Int32) (ma : Nat → Nat → Int32) (wa : Nat → Nat → Int32) (ca : Nat → Nat → Int32) (ef : Nat → Int32) (ea : Nat → Nat → Int32) (xf : Nat → Int32) (xa : Nat → Nat → Int32) (cf : Nat → Int32) (p0 : Int32)  (g0 : 0 ≤ lo) (g1 : hi ≤ (pf 13).toInt) (g2 : (pf 13).toInt ≤ 2100) (g3 : (tf 6).toInt ≤ 2049) (g4 : (cf 33).toInt = kn) (g5 : 0 ≤ kn) (g6 : (cf 48).toInt = ns) (g7 : (cf 38).toInt = nf) (g8 : 0 ≤ nf) (htk : TkI tf ta) (hfs : FsI (tf 6).toInt (pf 13).toInt na) (hwr : WrV cf (tf 6).toInt) (hkt : KnT (tf 6).toInt ca (cf 33).toInt) (hft : FnT (tf 6).toInt na ca (cf 38).toInt) (han : Ann na ma0 ma) (hec : EcV ta (tf 6).toInt na ma0 d lo hi p0) (hrk : Rk ta ca na ma0 kn d p0) : MetI l y_Mpg_reckon b_Mpg_reckon 7 (.int) D cs (2 * d + 6) (100 * d + 240) (0) (0) [.ref h, .int p0] [wdP cs h r g tf ta pf na ma wa cf ca ef ea xf xa] (oX (fun A U H => (oP A g U H)) [wdP cs h r g tf ta pf na ma wa cf ca ef ea xf xa]) (fun v ps => ∃ (cf' : Nat → Int32), (ps = [wdP cs h r g tf ta pf na ma wa cf' ca ef ea xf xa]) ∧ (KpE cf cf') ∧ (WrV cf' (tf 6).toInt) ∧ ((cf' 33).toInt = (cf 33).toInt) ∧ ((cf' 38).toInt = (cf 38).toInt) ∧ ((cf' 48).toInt = (cf 48).toInt) ∧ ((cf' 47).toInt = (cf 47).toInt)) := by
  exact rkc_all l D cs d ma0 ys ns nf kn lo hi h r g tf ta pf na ma wa ca ef ea xf xa cf p0 g0 g1 g2 g3 g4 g5 g6 g7 g8 htk hfs hwr hkt hft han hec hrk
abbrev b_Mpg_checkConstant : ByteArray := prog_16_method_83_code
def y_Mpg_checkConstant : MethodName := ⟨"HomeSystemModel$Program", "checkConstant", "(I)Z"⟩
theorem d_Mpg_checkConstant_0 : decode b_Mpg_checkConstant 0 = .ok (.aload_n 0, 1) := by decide +kernel
theorem d_Mpg_checkConstant_1 : decode b_Mpg_checkConstant 1 = .ok (.getfield 602, 3) := by decide +kernel
theorem d_Mpg_checkConstant_4 : decode b_Mpg_checkConstant 4 = .ok (.istore_n 2, 1) := by decide +kernel
theorem d_Mpg_checkConstant_5 : decode b_Mpg_checkConstant 5 = .ok (.aload_n 0, 1) := by decide +kernel
theorem d_Mpg_checkConstant_6 : decode b_Mpg_checkConstant 6 = .ok (.getfield 606, 3) := by decide +kernel
theorem d_Mpg_checkConstant_9 : decode b_Mpg_checkConstant 9 = .ok (.istore_n 3, 1) := by decide +kernel
theorem d_Mpg_checkConstant_10 : decode b_Mpg_checkConstant 10 = .ok (.aload_n 0, 1) := by decide +kernel
theorem d_Mpg_checkConstant_11 : decode b_Mpg_checkConstant 11 = .ok (.iconst 0, 1) := by decide +kernel
theorem d_Mpg_checkConstant_12 : decode b_Mpg_checkConstant 12 = .ok (.putfield 602, 3) := by decide +kernel
theorem d_Mpg_checkConstant_15 : decode b_Mpg_checkConstant 15 = .ok (.aload_n 0, 1) := by decide +kernel
theorem d_Mpg_checkConstant_16 : decode b_Mpg_checkConstant 16 = .ok (.iconst 0, 1) := by decide +kernel
theorem d_Mpg_checkConstant_17 : decode b_Mpg_checkConstant 17 = .ok (.putfield 606, 3) := by decide +kernel
theorem d_Mpg_checkConstant_20 : decode b_Mpg_checkConstant 20 = .ok (.aload_n 0, 1) := by decide +kernel
theorem d_Mpg_checkConstant_21 : decode b_Mpg_checkConstant 21 = .ok (.iload_n 1, 1) := by decide +kernel
theorem d_Mpg_checkConstant_22 : decode b_Mpg_checkConstant 22 = .ok (.invokevirtual 599, 3) := by decide +kernel
theorem d_Mpg_checkConstant_25 : decode b_Mpg_checkConstant 25 = .ok (.aload_n 0, 1) := by decide +kernel
theorem d_Mpg_checkConstant_26 : decode b_Mpg_checkConstant 26 = .ok (.getfield 602, 3) := by decide +kernel
theorem d_Mpg_checkConstant_29 : decode b_Mpg_checkConstant 29 = .ok (.ifCond .ne 29, 3) := by decide +kernel
theorem d_Mpg_checkConstant_32 : decode b_Mpg_checkConstant 32 = .ok (.aload_n 0, 1) := by decide +kernel
theorem d_Mpg_checkConstant_33 : decode b_Mpg_checkConstant 33 = .ok (.getfield 606, 3) := by decide +kernel
theorem d_Mpg_checkConstant_36 : decode b_Mpg_checkConstant 36 = .ok (.ifCond .ne 22, 3) := by decide +kernel
theorem d_Mpg_checkConstant_39 : decode b_Mpg_checkConstant 39 = .ok (.aload_n 0, 1) := by decide +kernel
theorem d_Mpg_checkConstant_40 : decode b_Mpg_checkConstant 40 = .ok (.aload_n 0, 1) := by decide +kernel
theorem d_Mpg_checkConstant_41 : decode b_Mpg_checkConstant 41 = .ok (.iload_n 1, 1) := by decide +kernel
theorem d_Mpg_checkConstant_42 : decode b_Mpg_checkConstant 42 = .ok (.invokevirtual 609, 3) := by decide +kernel
theorem d_Mpg_checkConstant_45 : decode b_Mpg_checkConstant 45 = .ok (.putfield 612, 3) := by decide +kernel
theorem d_Mpg_checkConstant_48 : decode b_Mpg_checkConstant 48 = .ok (.aload_n 0, 1) := by decide +kernel
theorem d_Mpg_checkConstant_49 : decode b_Mpg_checkConstant 49 = .ok (.getfield 225, 3) := by decide +kernel
theorem d_Mpg_checkConstant_52 : decode b_Mpg_checkConstant 52 = .ok (.iload_n 1, 1) := by decide +kernel
theorem d_Mpg_checkConstant_53 : decode b_Mpg_checkConstant 53 = .ok (.aload_n 0, 1) := by decide +kernel
theorem d_Mpg_checkConstant_54 : decode b_Mpg_checkConstant 54 = .ok (.getfield 612, 3) := by decide +kernel
theorem d_Mpg_checkConstant_57 : decode b_Mpg_checkConstant 57 = .ok (.iastore, 1) := by decide +kernel
theorem d_Mpg_checkConstant_58 : decode b_Mpg_checkConstant 58 = .ok (.aload_n 0, 1) := by decide +kernel
theorem d_Mpg_checkConstant_59 : decode b_Mpg_checkConstant 59 = .ok (.getfield 602, 3) := by decide +kernel
theorem d_Mpg_checkConstant_62 : decode b_Mpg_checkConstant 62 = .ok (.ifCond .eq 14, 3) := by decide +kernel
theorem d_Mpg_checkConstant_65 : decode b_Mpg_checkConstant 65 = .ok (.aload_n 0, 1) := by decide +kernel
theorem d_Mpg_checkConstant_66 : decode b_Mpg_checkConstant 66 = .ok (.bipush 7, 2) := by decide +kernel
theorem d_Mpg_checkConstant_68 : decode b_Mpg_checkConstant 68 = .ok (.aload_n 0, 1) := by decide +kernel
theorem d_Mpg_checkConstant_69 : decode b_Mpg_checkConstant 69 = .ok (.iload_n 1, 1) := by decide +kernel
theorem d_Mpg_checkConstant_70 : decode b_Mpg_checkConstant 70 = .ok (.invokevirtual 584, 3) := by decide +kernel
theorem d_Mpg_checkConstant_73 : decode b_Mpg_checkConstant 73 = .ok (.invokevirtual 565, 3) := by decide +kernel
theorem d_Mpg_checkConstant_76 : decode b_Mpg_checkConstant 76 = .ok (.aload_n 0, 1) := by decide +kernel
theorem d_Mpg_checkConstant_77 : decode b_Mpg_checkConstant 77 = .ok (.getfield 602, 3) := by decide +kernel
theorem d_Mpg_checkConstant_80 : decode b_Mpg_checkConstant 80 = .ok (.ifCond .ne 14, 3) := by decide +kernel
theorem d_Mpg_checkConstant_83 : decode b_Mpg_checkConstant 83 = .ok (.aload_n 0, 1) := by decide +kernel
theorem d_Mpg_checkConstant_84 : decode b_Mpg_checkConstant 84 = .ok (.getfield 606, 3) := by decide +kernel
theorem d_Mpg_checkConstant_87 : decode b_Mpg_checkConstant 87 = .ok (.ifCond .ne 7, 3) := by decide +kernel
theorem d_Mpg_checkConstant_90 : decode b_Mpg_checkConstant 90 = .ok (.iconst 1, 1) := by decide +kernel
theorem d_Mpg_checkConstant_91 : decode b_Mpg_checkConstant 91 = .ok (.goto 4, 3) := by decide +kernel
theorem d_Mpg_checkConstant_94 : decode b_Mpg_checkConstant 94 = .ok (.iconst 0, 1) := by decide +kernel
theorem d_Mpg_checkConstant_95 : decode b_Mpg_checkConstant 95 = .ok (.istore 4, 2) := by decide +kernel
theorem d_Mpg_checkConstant_97 : decode b_Mpg_checkConstant 97 = .ok (.aload_n 0, 1) := by decide +kernel
theorem d_Mpg_checkConstant_98 : decode b_Mpg_checkConstant 98 = .ok (.iload_n 2, 1) := by decide +kernel
theorem d_Mpg_checkConstant_99 : decode b_Mpg_checkConstant 99 = .ok (.putfield 602, 3) := by decide +kernel
theorem d_Mpg_checkConstant_102 : decode b_Mpg_checkConstant 102 = .ok (.aload_n 0, 1) := by decide +kernel
theorem d_Mpg_checkConstant_103 : decode b_Mpg_checkConstant 103 = .ok (.iload_n 3, 1) := by decide +kernel
theorem d_Mpg_checkConstant_104 : decode b_Mpg_checkConstant 104 = .ok (.putfield 606, 3) := by decide +kernel
theorem d_Mpg_checkConstant_107 : decode b_Mpg_checkConstant 107 = .ok (.iload 4, 2) := by decide +kernel
theorem d_Mpg_checkConstant_109 : decode b_Mpg_checkConstant 109 = .ok (.ireturn, 1) := by decide +kernel
theorem q_Mpg_checkConstant : px_y y_Mpg_checkConstant 1 := by unfold px_y; decide +kernel
set_option maxHeartbeats 4000000 in
set_option maxRecDepth 100000 in
theorem c_mp_checkConstant (l : Launch) (D : va_G) (cs : Nat → ClassId) (ma0 : Nat → Nat → Int32) (ys : Int) (ns : Int) (nf : Int) (kn : Int) (d : Nat) (lo : Int) (hi : Int) (h : Nat) (r : Nat → Nat) (g : Nat → Nat → Option Nat) (tf : Nat → Int32) (ta : Nat → Nat → Int32) (pf : Nat → Int32) (na : Nat → Nat → Int32) (wa : Nat → Nat → Int32) (ca : Nat → Nat → Int32) (ef : Nat → Int32) (ea : Nat → Nat → Int32) (xf : Nat → Int32) (xa : Nat → Nat → Int32) (ma : Nat → Nat → Int32) (cf : Nat → Int32) (p0 : Int32)  (g0 : 0 ≤ lo) (g1 : hi ≤ (pf 13).toInt) (g2 : (pf 13).toInt ≤ 2100) (g3 : (tf 6).toInt ≤ 2049) (g4 : (cf 33).toInt = kn) (g5 : 0 ≤ kn) (g6 : (cf 48).toInt = ns) (g7 : (cf 38).toInt = nf) (g8 : 0 ≤ nf) (g9 : 0 ≤ (cf 46).toInt) (g10 : (cf 46).toInt ≤ 1) (g11 : 0 ≤ (cf 47).toInt) (g12 : (cf 47).toInt ≤ 1) (htk : TkI tf ta) (hfs : FsI (tf 6).toInt (pf 13).toInt na) (hwr : WrV cf (tf 6).toInt) (hkt : KnT (tf 6).toInt ca (cf 33).toInt) (hft : FnT (tf 6).toInt na ca (cf 38).toInt) (hks : KnS ca kn ns ys) (hfp : FnP na ca nf) (han : Ann na ma0 ma) (hec : EcV ta (tf 6).toInt na ma0 d lo hi p0) (h20 : (ma0 20 p0.toNatClampNeg).toInt < 0) : MetI l y_Mpg_checkConstant b_Mpg_checkConstant 5 (.boolean) D cs (4 * d + 18) (200 * d + 640) (0) (0) [.ref h, .int p0] [wdP cs h r g tf ta pf na ma wa cf ca ef ea xf xa] (oX (fun A U H => (oP A g U H)) [wdP cs h r g tf ta pf na ma wa cf ca ef ea xf xa]) (fun v ps => ∃ (ma' : Nat → Nat → Int32) (cf' : Nat → Int32), (ps = [wdP cs h r g tf ta pf na ma' wa cf' ca ef ea xf xa]) ∧ (KpE cf cf') ∧ (WrV cf' (tf 6).toInt) ∧ ((cf' 33).toInt = (cf 33).toInt) ∧ ((cf' 38).toInt = (cf 38).toInt) ∧ ((cf' 48).toInt = (cf 48).toInt) ∧ ((cf' 46).toInt = (cf 46).toInt) ∧ ((cf' 47).toInt = (cf 47).toInt) ∧ (Ann na ma0 ma') ∧ (FrC lo hi ma ma') ∧ (v = 0 ∨ v = 1) ∧ (v.toInt = 0 → 1 ≤ (cf' 30).toInt)) := by
  refine px_enter (by decide) (Nat.le_of_ble_eq_true rfl) ?_
  intro p e s m below meth c A ls hAe S hr hlk hnm hA hT hX hw hl
  have hl : lv_has ls 5 [(0, .ref h), (1, .int p0)] := hl
  have lp0 := Int32.le_toInt p0
  have up0 := Int32.toInt_lt p0
  have cst0 : (0 : Int32).toInt = 0 := rfl
  have cst1 : (1 : Int32).toInt = 1 := rfl
  have cst7 : (7 : Int32).toInt = 7 := rfl
  have hX : (fun A U H => (oP A g U H)) A s s.heap := by rw [hAe]; exact hX
  have hP := hX
  have hZ := hP.1
  have hF0 := hP.2.1
  have hke : KpE cf cf := KpE.rf
  have hfc : FrC lo hi ma ma := FrC.rf
  have hwr0 := hwr.1
  have hk11 := hkt.1
  have hf11 := hft.1
  have hec_p0 := hec
  have hrg := EcV.rng hec
  refine lv_aload_n S.x S.b d_Mpg_checkConstant_0 rfl (lv_at hl 0 rfl) ?_
  refine px_get S k_Mpg hT hw 0 0 46 (v := .int (cf 46)) rfl rfl rfl (by decide) m10_37 d_Mpg_checkConstant_1 ?_
  refine lv_istore_n (lv' := [(2, .int (cf 46)), (0, .ref h), (1, .int p0)]) S.x S.b d_Mpg_checkConstant_4 rfl hl (by decide) rfl (fun ls hl => ?_)
  refine lv_aload_n S.x S.b d_Mpg_checkConstant_5 rfl (lv_at hl 1 rfl) ?_
  refine px_get S k_Mpg hT hw 0 0 47 (v := .int (cf 47)) rfl rfl rfl (by decide) m10_38 d_Mpg_checkConstant_6 ?_
  refine lv_istore_n (lv' := [(3, .int (cf 47)), (2, .int (cf 46)), (0, .ref h), (1, .int p0)]) S.x S.b d_Mpg_checkConstant_9 rfl hl (by decide) rfl (fun ls hl => ?_)
  refine lv_aload_n S.x S.b d_Mpg_checkConstant_10 rfl (lv_at hl 2 rfl) ?_
  refine lv_iconst (v := 0) S.x S.b d_Mpg_checkConstant_11 (by decide) ?_
  refine px_put S k_Mpg hT hw 0 0 46 rfl rfl (by decide) m10_37 rfl rfl rfl (Nat.le_of_ble_eq_true rfl) d_Mpg_checkConstant_12 (w' := wdP cs h r g tf ta pf na ma wa (upd cf 46 0) ca ef ea xf xa) (ps' := [wdP cs h r g tf ta pf na ma wa (upd cf 46 0) ca ef ea xf xa]) rfl rfl (fun H locs hw => ?_)
  refine lv_aload_n S.x S.b d_Mpg_checkConstant_15 rfl (lv_at hl 2 rfl) ?_
  refine lv_iconst (v := 0) S.x S.b d_Mpg_checkConstant_16 (by decide) ?_
  refine px_put S k_Mpg hT hw 0 0 47 rfl rfl (by decide) m10_38 rfl rfl rfl (Nat.le_of_ble_eq_true rfl) d_Mpg_checkConstant_17 (w' := wdP cs h r g tf ta pf na ma wa (upd (upd cf 46 0) 47 0) ca ef ea xf xa) (ps' := [wdP cs h r g tf ta pf na ma wa (upd (upd cf 46 0) 47 0) ca ef ea xf xa]) rfl rfl (fun H locs hw => ?_)
  refine lv_aload_n S.x S.b d_Mpg_checkConstant_20 rfl (lv_at hl 2 rfl) ?_
  refine lv_iload_n S.x S.b d_Mpg_checkConstant_21 rfl (lv_at hl 3 rfl) ?_
  refine px_callv (pr := []) (px_runV (As := [.int p0]) (rest := []) S (c_S_meet l D cs ma0 ys ns nf kn d lo hi h r g tf ta pf na wa ca ef ea xf xa ma (upd (upd cf 46 0) 47 0) p0  (show 0 ≤ lo from by first | exact g0 | omega) (show hi ≤ (pf 13).toInt from by first | exact g1 | omega) (show (pf 13).toInt ≤ 2100 from by first | exact g2 | omega) (show (tf 6).toInt ≤ 2049 from by first | exact g3 | omega) (show (cf 33).toInt = kn from by first | exact g4 | omega) (show 0 ≤ kn from by first | exact g5 | omega) (show (cf 48).toInt = ns from by first | exact g6 | omega) (show (cf 38).toInt = nf from by first | exact g7 | omega) (show 0 ≤ nf from by first | exact g8 | omega) (show 0 ≤ (0 : Int) from by first | decide | omega) (show (0 : Int) ≤ 1 from by first | decide | omega) (show 0 ≤ (0 : Int) from by first | decide | omega) (show (0 : Int) ≤ 1 from by first | decide | omega) htk (FsI.le (N' := (pf 13).toInt) hfs (by first | with_reducible rfl | with_reducible assumption | omega)) (WrV.u (WrV.u hwr (by decide) (by decide)) (by decide) (by decide)) (KnT.eq hkt (show _ = (cf 33).toInt by omega)) (FnT.eq hft (show _ = (cf 38).toInt by omega)) hks hfp han hec_p0 _) hT (pr := []) (pcs := [wdP cs h r g tf ta pf na ma wa (upd (upd cf 46 0) 47 0) ca ef ea xf xa]) hw (oX_call (P := (fun A U H => (oP A g U H))) (pr := []) oG_P hw hA hP) (px_recv hT hw 0 0 rfl rfl rfl) m13_1 m12_238 m13_0 ms_12_13 m1_21 q_Mpg_meet ⟨show (4 * d + 16) + 1 ≤ (4 * d + 18) from by first | with_reducible rfl | with_reducible assumption | omega, show 8 + (3 + 11) + (200 * d + 560) ≤ (200 * d + 640) from by first | with_reducible rfl | with_reducible assumption | omega⟩ hl.1 rfl (Nat.le_of_ble_eq_true rfl) d_Mpg_checkConstant_22 ⟨Nat.le_of_ble_eq_true rfl, Nat.le_of_ble_eq_true rfl⟩) hw hA (fun p5 H locs hp5 hw => ?_)
  obtain ⟨ma3, cf4, rfl, e7, e8, e9, e10, e11, e12, e13, e14, e15, e16, e17, e18, e19, e20, e21, e22⟩ := hp5
  have e7 : KpE (upd (upd cf 46 0) 47 0) cf4 := e7
  have hke := ((KpE.u47 (KpE.u46 hke))).tr e7
  have hkz_e7 := e7.2
  have e8 : WrV cf4 (tf 6).toInt := e8
  have hwr := e8
  have hw0_e8 := hwr.1
  have e9 : (cf4 33).toInt = (cf 33).toInt := e9
  have e10 : (cf4 38).toInt = (cf 38).toInt := e10
  have e11 : (cf4 48).toInt = (cf 48).toInt := e11
  have e12 : (cf4 57).toInt = (cf 57).toInt := e12
  have e13 : (cf4 47).toInt = 1 → (0 : Int) = 1 ∨ 1 ≤ (cf4 30).toInt := e13
  have e14 : 0 ≤ (cf4 46).toInt := e14
  have e15 : (cf4 46).toInt ≤ 1 := e15
  have e16 : 0 ≤ (cf4 47).toInt := e16
  have e17 : (cf4 47).toInt ≤ 1 := e17
  have e18 : (cf4 46).toInt = 0 → (0 : Int) = 0 := e18
  have e19 : (cf4 47).toInt = 0 → (0 : Int) = 0 := e19
  have e20 : Ann na ma0 ma3 := e20
  have han := e20
  have e21 : FrC lo hi ma ma3 := e21
  have hfc := hfc.tr e21 (by first | with_reducible rfl | with_reducible assumption | omega) (by first | with_reducible rfl | with_reducible assumption | omega)
  have e22 : MtR cf4 ta ca na ma0 kn d p0 := e22
  have hmt_p0 := e22
  have hw : pw D A s.heap H locs [wdP cs h r g tf ta pf na ma3 wa cf4 ca ef ea xf xa] := hw
  refine lv_aload_n S.x S.b d_Mpg_checkConstant_25 rfl (lv_at hl 2 rfl) ?_
  refine px_get S k_Mpg hT hw 0 0 46 (v := .int (cf4 46)) rfl rfl rfl (by decide) m10_37 d_Mpg_checkConstant_26 ?_
  refine lv_if_ne (tgt := 58) S.x S.b d_Mpg_checkConstant_29 (by decide) (fun c23 => ?_) (fun c23 => ?_)
  · have nc23 : ¬ (cf4 46).toInt = (0 : Int) := mt (i_eq (x := (cf4 46)) (y := 0)).mpr c23
    refine lv_aload_n S.x S.b d_Mpg_checkConstant_58 rfl (lv_at hl 2 rfl) ?_
    refine px_get S k_Mpg hT hw 0 0 46 (v := .int (cf4 46)) rfl rfl rfl (by decide) m10_37 d_Mpg_checkConstant_59 ?_
    refine lv_if_eq (tgt := 76) S.x S.b d_Mpg_checkConstant_62 (by decide) (fun c24 => ?_) (fun c24 => ?_)
    · have nc24 : (cf4 46).toInt = (0 : Int) := (i_eq (x := (cf4 46)) (y := 0)).mp c24
      refine lv_aload_n S.x S.b d_Mpg_checkConstant_76 rfl (lv_at hl 2 rfl) ?_
      refine px_get S k_Mpg hT hw 0 0 46 (v := .int (cf4 46)) rfl rfl rfl (by decide) m10_37 d_Mpg_checkConstant_77 ?_
      refine lv_if_ne (tgt := 94) S.x S.b d_Mpg_checkConstant_80 (by decide) (fun c25 => ?_) (fun c25 => ?_)
      · have nc25 : ¬ (cf4 46).toInt = (0 : Int) := mt (i_eq (x := (cf4 46)) (y := 0)).mpr c25
        refine lv_iconst (v := 0) S.x S.b d_Mpg_checkConstant_94 (by decide) ?_
        refine lv_istore (lv' := [(4, .int 0), (3, .int (cf 47)), (2, .int (cf 46)), (0, .ref h), (1, .int p0)]) S.x S.b d_Mpg_checkConstant_95 hl (by decide) rfl (fun ls hl => ?_)
        refine lv_aload_n S.x S.b d_Mpg_checkConstant_97 rfl (lv_at hl 3 rfl) ?_
        refine lv_iload_n S.x S.b d_Mpg_checkConstant_98 rfl (lv_at hl 2 rfl) ?_
        refine px_put S k_Mpg hT hw 0 0 46 rfl rfl (by decide) m10_37 rfl (z_nar (by first | with_reducible rfl | with_reducible assumption | omega)) (z_fit (by first | with_reducible rfl | with_reducible assumption | omega)) (Nat.le_of_ble_eq_true rfl) d_Mpg_checkConstant_99 (w' := wdP cs h r g tf ta pf na ma3 wa (upd cf4 46 (cf 46)) ca ef ea xf xa) (ps' := [wdP cs h r g tf ta pf na ma3 wa (upd cf4 46 (cf 46)) ca ef ea xf xa]) rfl rfl (fun H locs hw => ?_)
        refine lv_aload_n S.x S.b d_Mpg_checkConstant_102 rfl (lv_at hl 3 rfl) ?_
        refine lv_iload_n S.x S.b d_Mpg_checkConstant_103 rfl (lv_at hl 1 rfl) ?_
        refine px_put S k_Mpg hT hw 0 0 47 rfl rfl (by decide) m10_38 rfl (z_nar (by first | with_reducible rfl | with_reducible assumption | omega)) (z_fit (by first | with_reducible rfl | with_reducible assumption | omega)) (Nat.le_of_ble_eq_true rfl) d_Mpg_checkConstant_104 (w' := wdP cs h r g tf ta pf na ma3 wa (upd (upd cf4 46 (cf 46)) 47 (cf 47)) ca ef ea xf xa) (ps' := [wdP cs h r g tf ta pf na ma3 wa (upd (upd cf4 46 (cf 46)) 47 (cf 47)) ca ef ea xf xa]) rfl rfl (fun H locs hw => ?_)
        refine lv_iload S.x S.b d_Mpg_checkConstant_107 (lv_at hl 0 rfl) ?_
        exact px_iret (v := 0) S hr rfl hlk hAe hw (Nat.le_of_ble_eq_true rfl) (Nat.le_of_ble_eq_true rfl) (⟨ma3, (upd (upd cf4 46 (cf 46)) 47 (cf 47)), rfl, (show KpE cf (upd (upd cf4 46 (cf 46)) 47 (cf 47)) from (KpE.u47 (KpE.u46 hke))), (show WrV (upd (upd cf4 46 (cf 46)) 47 (cf 47)) (tf 6).toInt from (WrV.u (WrV.u hwr (by decide) (by decide)) (by decide) (by decide))), (show (cf4 33).toInt = (cf 33).toInt from by first | exact e9 | omega), (show (cf4 38).toInt = (cf 38).toInt from by first | exact e10 | omega), (show (cf4 48).toInt = (cf 48).toInt from by first | exact e11 | omega), (show (cf 46).toInt = (cf 46).toInt from rfl), (show (cf 47).toInt = (cf 47).toInt from rfl), (show Ann na ma0 ma3 from han), (show FrC lo hi ma ma3 from hfc), (show (0 : Int32) = 0 ∨ (0 : Int32) = 1 from by first | exact Or.inl rfl | exact Or.inr rfl | exact z_or (by first | with_reducible rfl | with_reducible assumption | omega)), (show (0 : Int) = 0 → 1 ≤ (cf4 30).toInt from by first | with_reducible rfl | with_reducible assumption | omega)⟩) d_Mpg_checkConstant_109
      · have nc25 : (cf4 46).toInt = (0 : Int) := (i_eq (x := (cf4 46)) (y := 0)).mp c25
        refine lv_aload_n S.x S.b d_Mpg_checkConstant_83 rfl (lv_at hl 2 rfl) ?_
        refine px_get S k_Mpg hT hw 0 0 47 (v := .int (cf4 47)) rfl rfl rfl (by decide) m10_38 d_Mpg_checkConstant_84 ?_
        refine lv_if_ne (tgt := 94) S.x S.b d_Mpg_checkConstant_87 (by decide) (fun c26 => ?_) (fun c26 => ?_)
        · have nc26 : ¬ (cf4 47).toInt = (0 : Int) := mt (i_eq (x := (cf4 47)) (y := 0)).mpr c26
          refine lv_iconst (v := 0) S.x S.b d_Mpg_checkConstant_94 (by decide) ?_
          refine lv_istore (lv' := [(4, .int 0), (3, .int (cf 47)), (2, .int (cf 46)), (0, .ref h), (1, .int p0)]) S.x S.b d_Mpg_checkConstant_95 hl (by decide) rfl (fun ls hl => ?_)
          refine lv_aload_n S.x S.b d_Mpg_checkConstant_97 rfl (lv_at hl 3 rfl) ?_
          refine lv_iload_n S.x S.b d_Mpg_checkConstant_98 rfl (lv_at hl 2 rfl) ?_
          refine px_put S k_Mpg hT hw 0 0 46 rfl rfl (by decide) m10_37 rfl (z_nar (by first | with_reducible rfl | with_reducible assumption | omega)) (z_fit (by first | with_reducible rfl | with_reducible assumption | omega)) (Nat.le_of_ble_eq_true rfl) d_Mpg_checkConstant_99 (w' := wdP cs h r g tf ta pf na ma3 wa (upd cf4 46 (cf 46)) ca ef ea xf xa) (ps' := [wdP cs h r g tf ta pf na ma3 wa (upd cf4 46 (cf 46)) ca ef ea xf xa]) rfl rfl (fun H locs hw => ?_)
          refine lv_aload_n S.x S.b d_Mpg_checkConstant_102 rfl (lv_at hl 3 rfl) ?_
          refine lv_iload_n S.x S.b d_Mpg_checkConstant_103 rfl (lv_at hl 1 rfl) ?_
          refine px_put S k_Mpg hT hw 0 0 47 rfl rfl (by decide) m10_38 rfl (z_nar (by first | with_reducible rfl | with_reducible assumption | omega)) (z_fit (by first | with_reducible rfl | with_reducible assumption | omega)) (Nat.le_of_ble_eq_true rfl) d_Mpg_checkConstant_104 (w' := wdP cs h r g tf ta pf na ma3 wa (upd (upd cf4 46 (cf 46)) 47 (cf 47)) ca ef ea xf xa) (ps' := [wdP cs h r g tf ta pf na ma3 wa (upd (upd cf4 46 (cf 46)) 47 (cf 47)) ca ef ea xf xa]) rfl rfl (fun H locs hw => ?_)
          refine lv_iload S.x S.b d_Mpg_checkConstant_107 (lv_at hl 0 rfl) ?_
          exact px_iret (v := 0) S hr rfl hlk hAe hw (Nat.le_of_ble_eq_true rfl) (Nat.le_of_ble_eq_true rfl) (⟨ma3, (upd (upd cf4 46 (cf 46)) 47 (cf 47)), rfl, (show KpE cf (upd (upd cf4 46 (cf 46)) 47 (cf 47)) from (KpE.u47 (KpE.u46 hke))), (show WrV (upd (upd cf4 46 (cf 46)) 47 (cf 47)) (tf 6).toInt from (WrV.u (WrV.u hwr (by decide) (by decide)) (by decide) (by decide))), (show (cf4 33).toInt = (cf 33).toInt from by first | exact e9 | omega), (show (cf4 38).toInt = (cf 38).toInt from by first | exact e10 | omega), (show (cf4 48).toInt = (cf 48).toInt from by first | exact e11 | omega), (show (cf 46).toInt = (cf 46).toInt from rfl), (show (cf 47).toInt = (cf 47).toInt from rfl), (show Ann na ma0 ma3 from han), (show FrC lo hi ma ma3 from hfc), (show (0 : Int32) = 0 ∨ (0 : Int32) = 1 from by first | exact Or.inl rfl | exact Or.inr rfl | exact z_or (by first | with_reducible rfl | with_reducible assumption | omega)), (show (0 : Int) = 0 → 1 ≤ (cf4 30).toInt from by first | with_reducible rfl | with_reducible assumption | omega)⟩) d_Mpg_checkConstant_109
        · have nc26 : (cf4 47).toInt = (0 : Int) := (i_eq (x := (cf4 47)) (y := 0)).mp c26
          refine lv_iconst (v := 1) S.x S.b d_Mpg_checkConstant_90 (by decide) ?_
          refine lv_goto (tgt := 95) S.x S.b d_Mpg_checkConstant_91 (by decide) ?_
          refine lv_istore (lv' := [(4, .int 1), (3, .int (cf 47)), (2, .int (cf 46)), (0, .ref h), (1, .int p0)]) S.x S.b d_Mpg_checkConstant_95 hl (by decide) rfl (fun ls hl => ?_)
          refine lv_aload_n S.x S.b d_Mpg_checkConstant_97 rfl (lv_at hl 3 rfl) ?_
          refine lv_iload_n S.x S.b d_Mpg_checkConstant_98 rfl (lv_at hl 2 rfl) ?_
          refine px_put S k_Mpg hT hw 0 0 46 rfl rfl (by decide) m10_37 rfl (z_nar (by first | with_reducible rfl | with_reducible assumption | omega)) (z_fit (by first | with_reducible rfl | with_reducible assumption | omega)) (Nat.le_of_ble_eq_true rfl) d_Mpg_checkConstant_99 (w' := wdP cs h r g tf ta pf na ma3 wa (upd cf4 46 (cf 46)) ca ef ea xf xa) (ps' := [wdP cs h r g tf ta pf na ma3 wa (upd cf4 46 (cf 46)) ca ef ea xf xa]) rfl rfl (fun H locs hw => ?_)
          refine lv_aload_n S.x S.b d_Mpg_checkConstant_102 rfl (lv_at hl 3 rfl) ?_
          refine lv_iload_n S.x S.b d_Mpg_checkConstant_103 rfl (lv_at hl 1 rfl) ?_
          refine px_put S k_Mpg hT hw 0 0 47 rfl rfl (by decide) m10_38 rfl (z_nar (by first | with_reducible rfl | with_reducible assumption | omega)) (z_fit (by first | with_reducible rfl | with_reducible assumption | omega)) (Nat.le_of_ble_eq_true rfl) d_Mpg_checkConstant_104 (w' := wdP cs h r g tf ta pf na ma3 wa (upd (upd cf4 46 (cf 46)) 47 (cf 47)) ca ef ea xf xa) (ps' := [wdP cs h r g tf ta pf na ma3 wa (upd (upd cf4 46 (cf 46)) 47 (cf 47)) ca ef ea xf xa]) rfl rfl (fun H locs hw => ?_)
          refine lv_iload S.x S.b d_Mpg_checkConstant_107 (lv_at hl 0 rfl) ?_
          exact px_iret (v := 1) S hr rfl hlk hAe hw (Nat.le_of_ble_eq_true rfl) (Nat.le_of_ble_eq_true rfl) (⟨ma3, (upd (upd cf4 46 (cf 46)) 47 (cf 47)), rfl, (show KpE cf (upd (upd cf4 46 (cf 46)) 47 (cf 47)) from (KpE.u47 (KpE.u46 hke))), (show WrV (upd (upd cf4 46 (cf 46)) 47 (cf 47)) (tf 6).toInt from (WrV.u (WrV.u hwr (by decide) (by decide)) (by decide) (by decide))), (show (cf4 33).toInt = (cf 33).toInt from by first | exact e9 | omega), (show (cf4 38).toInt = (cf 38).toInt from by first | exact e10 | omega), (show (cf4 48).toInt = (cf 48).toInt from by first | exact e11 | omega), (show (cf 46).toInt = (cf 46).toInt from rfl), (show (cf 47).toInt = (cf 47).toInt from rfl), (show Ann na ma0 ma3 from han), (show FrC lo hi ma ma3 from hfc), (show (1 : Int32) = 0 ∨ (1 : Int32) = 1 from by first | exact Or.inl rfl | exact Or.inr rfl | exact z_or (by first | with_reducible rfl | with_reducible assumption | omega)), (show (1 : Int) = 0 → 1 ≤ (cf4 30).toInt from by first | with_reducible rfl | with_reducible assumption | omega)⟩) d_Mpg_checkConstant_109
    · have nc24 : ¬ (cf4 46).toInt = (0 : Int) := mt (i_eq (x := (cf4 46)) (y := 0)).mpr c24
      refine lv_aload_n S.x S.b d_Mpg_checkConstant_65 rfl (lv_at hl 2 rfl) ?_
      refine lv_bipush (v := 7) S.x S.b d_Mpg_checkConstant_66 (by decide) ?_
      refine lv_aload_n S.x S.b d_Mpg_checkConstant_68 rfl (lv_at hl 2 rfl) ?_
      refine lv_iload_n S.x S.b d_Mpg_checkConstant_69 rfl (lv_at hl 3 rfl) ?_
      refine px_calli (pr := []) (px_runV (As := [.int p0]) (rest := [.int 7, .ref h]) S (c_mp_first l D cs h r g tf ta pf na ma3 wa cf4 ca ef ea xf xa p0  (show 0 ≤ p0.toInt from by first | exact hrg.2.2 | omega) (show p0.toInt < (pf 13).toInt from by first | exact oz_7319c2f99d g1 hrg.2.1 | omega) (show (pf 13).toInt ≤ 2100 from by first | exact g2 | omega) htk (FsI.le (N' := (pf 13).toInt) hfs (by first | with_reducible rfl | with_reducible assumption | omega)) _) hT (pr := []) (pcs := [wdP cs h r g tf ta pf na ma3 wa cf4 ca ef ea xf xa]) hw px_X.tt (px_recv hT hw 0 0 rfl rfl rfl) m13_9 m13_6 m13_8 ms_12_15 m1_21 q_Mpg_first ⟨show 0 + 1 ≤ (4 * d + 18) from by first | with_reducible rfl | with_reducible assumption | omega, show 8 + (2 + 11) + 0 ≤ (200 * d + 640) from by first | with_reducible rfl | with_reducible assumption | omega⟩ hl.1 rfl (Nat.le_of_ble_eq_true rfl) d_Mpg_checkConstant_70 ⟨Nat.le_of_ble_eq_true rfl, Nat.le_of_ble_eq_true rfl⟩) hw hA (fun v28 p27 H locs hp27 hw => ?_)
      obtain ⟨rfl, e29, e30⟩ := hp27
      have e29 : 0 ≤ v28.toInt := e29
      have e30 : v28.toInt < (tf 6).toInt := e30
      have hw : pw D A s.heap H locs [wdP cs h r g tf ta pf na ma3 wa cf4 ca ef ea xf xa] := hw
      have lv28 := Int32.le_toInt v28
      have uv28 := Int32.toInt_lt v28
      refine px_callv (pr := []) (px_runV (As := [.int 7, .int v28]) (rest := []) S (c_mp_bad l D cs h r g tf ta pf na ma3 wa ca ef ea xf xa cf4 7 v28  (show 1 ≤ (7 : Int) from by first | decide | omega) (show 0 ≤ v28.toInt from by first | exact e29 | omega) (show v28.toInt < (tf 6).toInt from by first | exact e30 | omega) htk hwr _) hT (pr := []) (pcs := [wdP cs h r g tf ta pf na ma3 wa cf4 ca ef ea xf xa]) hw px_X.tt (px_recv hT hw 0 0 rfl rfl rfl) m12_173 m12_170 m12_172 ms_11_12 m1_21 q_Mpg_bad ⟨show 0 + 1 ≤ (4 * d + 18) from by first | with_reducible rfl | with_reducible assumption | omega, show 8 + (3 + 11) + 0 ≤ (200 * d + 640) from by first | with_reducible rfl | with_reducible assumption | omega⟩ hl.1 rfl (Nat.le_of_ble_eq_true rfl) d_Mpg_checkConstant_73 ⟨Nat.le_of_ble_eq_true rfl, Nat.le_of_ble_eq_true rfl⟩) hw hA (fun p33 H locs hp33 hw => ?_)
      obtain ⟨cf32, rfl, e35, e36, e37, e38, e39, e40, e41, e42, e43, e44, e45, e46, e47, e48, e49, e50, e51, e52, e53⟩ := hp33
      have e35 : KpE cf4 cf32 := e35
      have hke := (hke).tr e35
      have hkz_e35 := e35.2
      have e36 : WrV cf32 (tf 6).toInt := e36
      have hwr := e36
      have hw0_e36 := hwr.1
      have e37 : 1 ≤ (cf32 30).toInt := e37
      have e38 : (cf32 33).toInt = (cf4 33).toInt := e38
      have e39 : (cf32 38).toInt = (cf4 38).toInt := e39
      have e40 : (cf32 48).toInt = (cf4 48).toInt := e40
      have e41 : (cf32 46).toInt = (cf4 46).toInt := e41
      have e42 : (cf32 47).toInt = (cf4 47).toInt := e42
      have e43 : (cf32 57).toInt = (cf4 57).toInt := e43
      have e44 : (cf32 37).toInt = (cf4 37).toInt := e44
      have e45 : (cf32 42).toInt = (cf4 42).toInt := e45
      have e46 : (cf32 43).toInt = (cf4 43).toInt := e46
      have e47 : (cf32 44).toInt = (cf4 44).toInt := e47
      have e48 : (cf32 45).toInt = (cf4 45).toInt := e48
      have e49 : (cf32 54).toInt = (cf4 54).toInt := e49
      have e50 : (cf32 55).toInt = (cf4 55).toInt := e50
      have e51 : (cf32 58).toInt = (cf4 58).toInt := e51
      have e52 : (cf32 59).toInt = (cf4 59).toInt := e52
      have e53 : (cf32 41).toInt = (cf4 41).toInt := e53
      have hw : pw D A s.heap H locs [wdP cs h r g tf ta pf na ma3 wa cf32 ca ef ea xf xa] := hw
      refine lv_aload_n S.x S.b d_Mpg_checkConstant_76 rfl (lv_at hl 2 rfl) ?_
      refine px_get S k_Mpg hT hw 0 0 46 (v := .int (cf32 46)) rfl rfl rfl (by decide) m10_37 d_Mpg_checkConstant_77 ?_
      refine lv_if_ne (tgt := 94) S.x S.b d_Mpg_checkConstant_80 (by decide) (fun c54 => ?_) (fun c54 => ?_)
      · have nc54 : ¬ (cf32 46).toInt = (0 : Int) := mt (i_eq (x := (cf32 46)) (y := 0)).mpr c54
        refine lv_iconst (v := 0) S.x S.b d_Mpg_checkConstant_94 (by decide) ?_
        refine lv_istore (lv' := [(4, .int 0), (3, .int (cf 47)), (2, .int (cf 46)), (0, .ref h), (1, .int p0)]) S.x S.b d_Mpg_checkConstant_95 hl (by decide) rfl (fun ls hl => ?_)
        refine lv_aload_n S.x S.b d_Mpg_checkConstant_97 rfl (lv_at hl 3 rfl) ?_
        refine lv_iload_n S.x S.b d_Mpg_checkConstant_98 rfl (lv_at hl 2 rfl) ?_
        refine px_put S k_Mpg hT hw 0 0 46 rfl rfl (by decide) m10_37 rfl (z_nar (by first | with_reducible rfl | with_reducible assumption | omega)) (z_fit (by first | with_reducible rfl | with_reducible assumption | omega)) (Nat.le_of_ble_eq_true rfl) d_Mpg_checkConstant_99 (w' := wdP cs h r g tf ta pf na ma3 wa (upd cf32 46 (cf 46)) ca ef ea xf xa) (ps' := [wdP cs h r g tf ta pf na ma3 wa (upd cf32 46 (cf 46)) ca ef ea xf xa]) rfl rfl (fun H locs hw => ?_)
        refine lv_aload_n S.x S.b d_Mpg_checkConstant_102 rfl (lv_at hl 3 rfl) ?_
        refine lv_iload_n S.x S.b d_Mpg_checkConstant_103 rfl (lv_at hl 1 rfl) ?_
        refine px_put S k_Mpg hT hw 0 0 47 rfl rfl (by decide) m10_38 rfl (z_nar (by first | with_reducible rfl | with_reducible assumption | omega)) (z_fit (by first | with_reducible rfl | with_reducible assumption | omega)) (Nat.le_of_ble_eq_true rfl) d_Mpg_checkConstant_104 (w' := wdP cs h r g tf ta pf na ma3 wa (upd (upd cf32 46 (cf 46)) 47 (cf 47)) ca ef ea xf xa) (ps' := [wdP cs h r g tf ta pf na ma3 wa (upd (upd cf32 46 (cf 46)) 47 (cf 47)) ca ef ea xf xa]) rfl rfl (fun H locs hw => ?_)
        refine lv_iload S.x S.b d_Mpg_checkConstant_107 (lv_at hl 0 rfl) ?_
        exact px_iret (v := 0) S hr rfl hlk hAe hw (Nat.le_of_ble_eq_true rfl) (Nat.le_of_ble_eq_true rfl) (⟨ma3, (upd (upd cf32 46 (cf 46)) 47 (cf 47)), rfl, (show KpE cf (upd (upd cf32 46 (cf 46)) 47 (cf 47)) from (KpE.u47 (KpE.u46 hke))), (show WrV (upd (upd cf32 46 (cf 46)) 47 (cf 47)) (tf 6).toInt from (WrV.u (WrV.u hwr (by decide) (by decide)) (by decide) (by decide))), (show (cf32 33).toInt = (cf 33).toInt from by first | exact oz_1687f4cc65 e9 e38 | omega), (show (cf32 38).toInt = (cf 38).toInt from by first | exact oz_1687f4cc65 e10 e39 | omega), (show (cf32 48).toInt = (cf 48).toInt from by first | exact oz_1687f4cc65 e11 e40 | omega), (show (cf 46).toInt = (cf 46).toInt from rfl), (show (cf 47).toInt = (cf 47).toInt from rfl), (show Ann na ma0 ma3 from han), (show FrC lo hi ma ma3 from hfc), (show (0 : Int32) = 0 ∨ (0 : Int32) = 1 from by first | exact Or.inl rfl | exact Or.inr rfl | exact z_or (by first | with_reducible rfl | with_reducible assumption | omega)), (show (0 : Int) = 0 → 1 ≤ (cf32 30).toInt from by first | with_reducible rfl | with_reducible assumption | omega)⟩) d_Mpg_checkConstant_109
      · have nc54 : (cf32 46).toInt = (0 : Int) := (i_eq (x := (cf32 46)) (y := 0)).mp c54
        refine lv_aload_n S.x S.b d_Mpg_checkConstant_83 rfl (lv_at hl 2 rfl) ?_
        refine px_get S k_Mpg hT hw 0 0 47 (v := .int (cf32 47)) rfl rfl rfl (by decide) m10_38 d_Mpg_checkConstant_84 ?_
        refine lv_if_ne (tgt := 94) S.x S.b d_Mpg_checkConstant_87 (by decide) (fun c55 => ?_) (fun c55 => ?_)
        · have nc55 : ¬ (cf32 47).toInt = (0 : Int) := mt (i_eq (x := (cf32 47)) (y := 0)).mpr c55
          refine lv_iconst (v := 0) S.x S.b d_Mpg_checkConstant_94 (by decide) ?_
          refine lv_istore (lv' := [(4, .int 0), (3, .int (cf 47)), (2, .int (cf 46)), (0, .ref h), (1, .int p0)]) S.x S.b d_Mpg_checkConstant_95 hl (by decide) rfl (fun ls hl => ?_)
          refine lv_aload_n S.x S.b d_Mpg_checkConstant_97 rfl (lv_at hl 3 rfl) ?_
          refine lv_iload_n S.x S.b d_Mpg_checkConstant_98 rfl (lv_at hl 2 rfl) ?_
          refine px_put S k_Mpg hT hw 0 0 46 rfl rfl (by decide) m10_37 rfl (z_nar (by first | with_reducible rfl | with_reducible assumption | omega)) (z_fit (by first | with_reducible rfl | with_reducible assumption | omega)) (Nat.le_of_ble_eq_true rfl) d_Mpg_checkConstant_99 (w' := wdP cs h r g tf ta pf na ma3 wa (upd cf32 46 (cf 46)) ca ef ea xf xa) (ps' := [wdP cs h r g tf ta pf na ma3 wa (upd cf32 46 (cf 46)) ca ef ea xf xa]) rfl rfl (fun H locs hw => ?_)
          refine lv_aload_n S.x S.b d_Mpg_checkConstant_102 rfl (lv_at hl 3 rfl) ?_
          refine lv_iload_n S.x S.b d_Mpg_checkConstant_103 rfl (lv_at hl 1 rfl) ?_
          refine px_put S k_Mpg hT hw 0 0 47 rfl rfl (by decide) m10_38 rfl (z_nar (by first | with_reducible rfl | with_reducible assumption | omega)) (z_fit (by first | with_reducible rfl | with_reducible assumption | omega)) (Nat.le_of_ble_eq_true rfl) d_Mpg_checkConstant_104 (w' := wdP cs h r g tf ta pf na ma3 wa (upd (upd cf32 46 (cf 46)) 47 (cf 47)) ca ef ea xf xa) (ps' := [wdP cs h r g tf ta pf na ma3 wa (upd (upd cf32 46 (cf 46)) 47 (cf 47)) ca ef ea xf xa]) rfl rfl (fun H locs hw => ?_)
          refine lv_iload S.x S.b d_Mpg_checkConstant_107 (lv_at hl 0 rfl) ?_
          exact px_iret (v := 0) S hr rfl hlk hAe hw (Nat.le_of_ble_eq_true rfl) (Nat.le_of_ble_eq_true rfl) (⟨ma3, (upd (upd cf32 46 (cf 46)) 47 (cf 47)), rfl, (show KpE cf (upd (upd cf32 46 (cf 46)) 47 (cf 47)) from (KpE.u47 (KpE.u46 hke))), (show WrV (upd (upd cf32 46 (cf 46)) 47 (cf 47)) (tf 6).toInt from (WrV.u (WrV.u hwr (by decide) (by decide)) (by decide) (by decide))), (show (cf32 33).toInt = (cf 33).toInt from by first | exact oz_1687f4cc65 e9 e38 | omega), (show (cf32 38).toInt = (cf 38).toInt from by first | exact oz_1687f4cc65 e10 e39 | omega), (show (cf32 48).toInt = (cf 48).toInt from by first | exact oz_1687f4cc65 e11 e40 | omega), (show (cf 46).toInt = (cf 46).toInt from rfl), (show (cf 47).toInt = (cf 47).toInt from rfl), (show Ann na ma0 ma3 from han), (show FrC lo hi ma ma3 from hfc), (show (0 : Int32) = 0 ∨ (0 : Int32) = 1 from by first | exact Or.inl rfl | exact Or.inr rfl | exact z_or (by first | with_reducible rfl | with_reducible assumption | omega)), (show (0 : Int) = 0 → 1 ≤ (cf32 30).toInt from by first | with_reducible rfl | with_reducible assumption | omega)⟩) d_Mpg_checkConstant_109
        · have nc55 : (cf32 47).toInt = (0 : Int) := (i_eq (x := (cf32 47)) (y := 0)).mp c55
          refine lv_iconst (v := 1) S.x S.b d_Mpg_checkConstant_90 (by decide) ?_
          refine lv_goto (tgt := 95) S.x S.b d_Mpg_checkConstant_91 (by decide) ?_
          refine lv_istore (lv' := [(4, .int 1), (3, .int (cf 47)), (2, .int (cf 46)), (0, .ref h), (1, .int p0)]) S.x S.b d_Mpg_checkConstant_95 hl (by decide) rfl (fun ls hl => ?_)
          refine lv_aload_n S.x S.b d_Mpg_checkConstant_97 rfl (lv_at hl 3 rfl) ?_
          refine lv_iload_n S.x S.b d_Mpg_checkConstant_98 rfl (lv_at hl 2 rfl) ?_
          refine px_put S k_Mpg hT hw 0 0 46 rfl rfl (by decide) m10_37 rfl (z_nar (by first | with_reducible rfl | with_reducible assumption | omega)) (z_fit (by first | with_reducible rfl | with_reducible assumption | omega)) (Nat.le_of_ble_eq_true rfl) d_Mpg_checkConstant_99 (w' := wdP cs h r g tf ta pf na ma3 wa (upd cf32 46 (cf 46)) ca ef ea xf xa) (ps' := [wdP cs h r g tf ta pf na ma3 wa (upd cf32 46 (cf 46)) ca ef ea xf xa]) rfl rfl (fun H locs hw => ?_)
          refine lv_aload_n S.x S.b d_Mpg_checkConstant_102 rfl (lv_at hl 3 rfl) ?_
          refine lv_iload_n S.x S.b d_Mpg_checkConstant_103 rfl (lv_at hl 1 rfl) ?_
          refine px_put S k_Mpg hT hw 0 0 47 rfl rfl (by decide) m10_38 rfl (z_nar (by first | with_reducible rfl | with_reducible assumption | omega)) (z_fit (by first | with_reducible rfl | with_reducible assumption | omega)) (Nat.le_of_ble_eq_true rfl) d_Mpg_checkConstant_104 (w' := wdP cs h r g tf ta pf na ma3 wa (upd (upd cf32 46 (cf 46)) 47 (cf 47)) ca ef ea xf xa) (ps' := [wdP cs h r g tf ta pf na ma3 wa (upd (upd cf32 46 (cf 46)) 47 (cf 47)) ca ef ea xf xa]) rfl rfl (fun H locs hw => ?_)
          refine lv_iload S.x S.b d_Mpg_checkConstant_107 (lv_at hl 0 rfl) ?_
          exact px_iret (v := 1) S hr rfl hlk hAe hw (Nat.le_of_ble_eq_true rfl) (Nat.le_of_ble_eq_true rfl) (⟨ma3, (upd (upd cf32 46 (cf 46)) 47 (cf 47)), rfl, (show KpE cf (upd (upd cf32 46 (cf 46)) 47 (cf 47)) from (KpE.u47 (KpE.u46 hke))), (show WrV (upd (upd cf32 46 (cf 46)) 47 (cf 47)) (tf 6).toInt from (WrV.u (WrV.u hwr (by decide) (by decide)) (by decide) (by decide))), (show (cf32 33).toInt = (cf 33).toInt from by first | exact oz_1687f4cc65 e9 e38 | omega), (show (cf32 38).toInt = (cf 38).toInt from by first | exact oz_1687f4cc65 e10 e39 | omega), (show (cf32 48).toInt = (cf 48).toInt from by first | exact oz_1687f4cc65 e11 e40 | omega), (show (cf 46).toInt = (cf 46).toInt from rfl), (show (cf 47).toInt = (cf 47).toInt from rfl), (show Ann na ma0 ma3 from han), (show FrC lo hi ma ma3 from hfc), (show (1 : Int32) = 0 ∨ (1 : Int32) = 1 from by first | exact Or.inl rfl | exact Or.inr rfl | exact z_or (by first | with_reducible rfl | with_reducible assumption | omega)), (show (1 : Int) = 0 → 1 ≤ (cf32 30).toInt from by first | with_reducible rfl | with_reducible assumption | omega)⟩) d_Mpg_checkConstant_109
  · have nc23 : (cf4 46).toInt = (0 : Int) := (i_eq (x := (cf4 46)) (y := 0)).mp c23
    refine lv_aload_n S.x S.b d_Mpg_checkConstant_32 rfl (lv_at hl 2 rfl) ?_
    refine px_get S k_Mpg hT hw 0 0 47 (v := .int (cf4 47)) rfl rfl rfl (by decide) m10_38 d_Mpg_checkConstant_33 ?_
    refine lv_if_ne (tgt := 58) S.x S.b d_Mpg_checkConstant_36 (by decide) (fun c56 => ?_) (fun c56 => ?_)
    · have nc56 : ¬ (cf4 47).toInt = (0 : Int) := mt (i_eq (x := (cf4 47)) (y := 0)).mpr c56
      refine lv_aload_n S.x S.b d_Mpg_checkConstant_58 rfl (lv_at hl 2 rfl) ?_
      refine px_get S k_Mpg hT hw 0 0 46 (v := .int (cf4 46)) rfl rfl rfl (by decide) m10_37 d_Mpg_checkConstant_59 ?_
      refine lv_if_eq (tgt := 76) S.x S.b d_Mpg_checkConstant_62 (by decide) (fun c57 => ?_) (fun c57 => ?_)
      · have nc57 : (cf4 46).toInt = (0 : Int) := (i_eq (x := (cf4 46)) (y := 0)).mp c57
        refine lv_aload_n S.x S.b d_Mpg_checkConstant_76 rfl (lv_at hl 2 rfl) ?_
        refine px_get S k_Mpg hT hw 0 0 46 (v := .int (cf4 46)) rfl rfl rfl (by decide) m10_37 d_Mpg_checkConstant_77 ?_
        refine lv_if_ne (tgt := 94) S.x S.b d_Mpg_checkConstant_80 (by decide) (fun c58 => ?_) (fun c58 => ?_)
        · have nc58 : ¬ (cf4 46).toInt = (0 : Int) := mt (i_eq (x := (cf4 46)) (y := 0)).mpr c58
          refine lv_iconst (v := 0) S.x S.b d_Mpg_checkConstant_94 (by decide) ?_
          refine lv_istore (lv' := [(4, .int 0), (3, .int (cf 47)), (2, .int (cf 46)), (0, .ref h), (1, .int p0)]) S.x S.b d_Mpg_checkConstant_95 hl (by decide) rfl (fun ls hl => ?_)
          refine lv_aload_n S.x S.b d_Mpg_checkConstant_97 rfl (lv_at hl 3 rfl) ?_
          refine lv_iload_n S.x S.b d_Mpg_checkConstant_98 rfl (lv_at hl 2 rfl) ?_
          refine px_put S k_Mpg hT hw 0 0 46 rfl rfl (by decide) m10_37 rfl (z_nar (by first | with_reducible rfl | with_reducible assumption | omega)) (z_fit (by first | with_reducible rfl | with_reducible assumption | omega)) (Nat.le_of_ble_eq_true rfl) d_Mpg_checkConstant_99 (w' := wdP cs h r g tf ta pf na ma3 wa (upd cf4 46 (cf 46)) ca ef ea xf xa) (ps' := [wdP cs h r g tf ta pf na ma3 wa (upd cf4 46 (cf 46)) ca ef ea xf xa]) rfl rfl (fun H locs hw => ?_)
          refine lv_aload_n S.x S.b d_Mpg_checkConstant_102 rfl (lv_at hl 3 rfl) ?_
          refine lv_iload_n S.x S.b d_Mpg_checkConstant_103 rfl (lv_at hl 1 rfl) ?_
          refine px_put S k_Mpg hT hw 0 0 47 rfl rfl (by decide) m10_38 rfl (z_nar (by first | with_reducible rfl | with_reducible assumption | omega)) (z_fit (by first | with_reducible rfl | with_reducible assumption | omega)) (Nat.le_of_ble_eq_true rfl) d_Mpg_checkConstant_104 (w' := wdP cs h r g tf ta pf na ma3 wa (upd (upd cf4 46 (cf 46)) 47 (cf 47)) ca ef ea xf xa) (ps' := [wdP cs h r g tf ta pf na ma3 wa (upd (upd cf4 46 (cf 46)) 47 (cf 47)) ca ef ea xf xa]) rfl rfl (fun H locs hw => ?_)
          refine lv_iload S.x S.b d_Mpg_checkConstant_107 (lv_at hl 0 rfl) ?_
          exact px_iret (v := 0) S hr rfl hlk hAe hw (Nat.le_of_ble_eq_true rfl) (Nat.le_of_ble_eq_true rfl) (⟨ma3, (upd (upd cf4 46 (cf 46)) 47 (cf 47)), rfl, (show KpE cf (upd (upd cf4 46 (cf 46)) 47 (cf 47)) from (KpE.u47 (KpE.u46 hke))), (show WrV (upd (upd cf4 46 (cf 46)) 47 (cf 47)) (tf 6).toInt from (WrV.u (WrV.u hwr (by decide) (by decide)) (by decide) (by decide))), (show (cf4 33).toInt = (cf 33).toInt from by first | exact e9 | omega), (show (cf4 38).toInt = (cf 38).toInt from by first | exact e10 | omega), (show (cf4 48).toInt = (cf 48).toInt from by first | exact e11 | omega), (show (cf 46).toInt = (cf 46).toInt from rfl), (show (cf 47).toInt = (cf 47).toInt from rfl), (show Ann na ma0 ma3 from han), (show FrC lo hi ma ma3 from hfc), (show (0 : Int32) = 0 ∨ (0 : Int32) = 1 from by first | exact Or.inl rfl | exact Or.inr rfl | exact z_or (by first | with_reducible rfl | with_reducible assumption | omega)), (show (0 : Int) = 0 → 1 ≤ (cf4 30).toInt from by first | with_reducible rfl | with_reducible assumption | omega)⟩) d_Mpg_checkConstant_109
        · have nc58 : (cf4 46).toInt = (0 : Int) := (i_eq (x := (cf4 46)) (y := 0)).mp c58
          refine lv_aload_n S.x S.b d_Mpg_checkConstant_83 rfl (lv_at hl 2 rfl) ?_
          refine px_get S k_Mpg hT hw 0 0 47 (v := .int (cf4 47)) rfl rfl rfl (by decide) m10_38 d_Mpg_checkConstant_84 ?_
          refine lv_if_ne (tgt := 94) S.x S.b d_Mpg_checkConstant_87 (by decide) (fun c59 => ?_) (fun c59 => ?_)
          · have nc59 : ¬ (cf4 47).toInt = (0 : Int) := mt (i_eq (x := (cf4 47)) (y := 0)).mpr c59
            refine lv_iconst (v := 0) S.x S.b d_Mpg_checkConstant_94 (by decide) ?_
            refine lv_istore (lv' := [(4, .int 0), (3, .int (cf 47)), (2, .int (cf 46)), (0, .ref h), (1, .int p0)]) S.x S.b d_Mpg_checkConstant_95 hl (by decide) rfl (fun ls hl => ?_)
            refine lv_aload_n S.x S.b d_Mpg_checkConstant_97 rfl (lv_at hl 3 rfl) ?_
            refine lv_iload_n S.x S.b d_Mpg_checkConstant_98 rfl (lv_at hl 2 rfl) ?_
            refine px_put S k_Mpg hT hw 0 0 46 rfl rfl (by decide) m10_37 rfl (z_nar (by first | with_reducible rfl | with_reducible assumption | omega)) (z_fit (by first | with_reducible rfl | with_reducible assumption | omega)) (Nat.le_of_ble_eq_true rfl) d_Mpg_checkConstant_99 (w' := wdP cs h r g tf ta pf na ma3 wa (upd cf4 46 (cf 46)) ca ef ea xf xa) (ps' := [wdP cs h r g tf ta pf na ma3 wa (upd cf4 46 (cf 46)) ca ef ea xf xa]) rfl rfl (fun H locs hw => ?_)
            refine lv_aload_n S.x S.b d_Mpg_checkConstant_102 rfl (lv_at hl 3 rfl) ?_
            refine lv_iload_n S.x S.b d_Mpg_checkConstant_103 rfl (lv_at hl 1 rfl) ?_
            refine px_put S k_Mpg hT hw 0 0 47 rfl rfl (by decide) m10_38 rfl (z_nar (by first | with_reducible rfl | with_reducible assumption | omega)) (z_fit (by first | with_reducible rfl | with_reducible assumption | omega)) (Nat.le_of_ble_eq_true rfl) d_Mpg_checkConstant_104 (w' := wdP cs h r g tf ta pf na ma3 wa (upd (upd cf4 46 (cf 46)) 47 (cf 47)) ca ef ea xf xa) (ps' := [wdP cs h r g tf ta pf na ma3 wa (upd (upd cf4 46 (cf 46)) 47 (cf 47)) ca ef ea xf xa]) rfl rfl (fun H locs hw => ?_)
            refine lv_iload S.x S.b d_Mpg_checkConstant_107 (lv_at hl 0 rfl) ?_
            exact px_iret (v := 0) S hr rfl hlk hAe hw (Nat.le_of_ble_eq_true rfl) (Nat.le_of_ble_eq_true rfl) (⟨ma3, (upd (upd cf4 46 (cf 46)) 47 (cf 47)), rfl, (show KpE cf (upd (upd cf4 46 (cf 46)) 47 (cf 47)) from (KpE.u47 (KpE.u46 hke))), (show WrV (upd (upd cf4 46 (cf 46)) 47 (cf 47)) (tf 6).toInt from (WrV.u (WrV.u hwr (by decide) (by decide)) (by decide) (by decide))), (show (cf4 33).toInt = (cf 33).toInt from by first | exact e9 | omega), (show (cf4 38).toInt = (cf 38).toInt from by first | exact e10 | omega), (show (cf4 48).toInt = (cf 48).toInt from by first | exact e11 | omega), (show (cf 46).toInt = (cf 46).toInt from rfl), (show (cf 47).toInt = (cf 47).toInt from rfl), (show Ann na ma0 ma3 from han), (show FrC lo hi ma ma3 from hfc), (show (0 : Int32) = 0 ∨ (0 : Int32) = 1 from by first | exact Or.inl rfl | exact Or.inr rfl | exact z_or (by first | with_reducible rfl | with_reducible assumption | omega)), (show (0 : Int) = 0 → 1 ≤ (cf4 30).toInt from by first | with_reducible rfl | with_reducible assumption | omega)⟩) d_Mpg_checkConstant_109
          · have nc59 : (cf4 47).toInt = (0 : Int) := (i_eq (x := (cf4 47)) (y := 0)).mp c59
            refine lv_iconst (v := 1) S.x S.b d_Mpg_checkConstant_90 (by decide) ?_
            refine lv_goto (tgt := 95) S.x S.b d_Mpg_checkConstant_91 (by decide) ?_
            refine lv_istore (lv' := [(4, .int 1), (3, .int (cf 47)), (2, .int (cf 46)), (0, .ref h), (1, .int p0)]) S.x S.b d_Mpg_checkConstant_95 hl (by decide) rfl (fun ls hl => ?_)
            refine lv_aload_n S.x S.b d_Mpg_checkConstant_97 rfl (lv_at hl 3 rfl) ?_
            refine lv_iload_n S.x S.b d_Mpg_checkConstant_98 rfl (lv_at hl 2 rfl) ?_
            refine px_put S k_Mpg hT hw 0 0 46 rfl rfl (by decide) m10_37 rfl (z_nar (by first | with_reducible rfl | with_reducible assumption | omega)) (z_fit (by first | with_reducible rfl | with_reducible assumption | omega)) (Nat.le_of_ble_eq_true rfl) d_Mpg_checkConstant_99 (w' := wdP cs h r g tf ta pf na ma3 wa (upd cf4 46 (cf 46)) ca ef ea xf xa) (ps' := [wdP cs h r g tf ta pf na ma3 wa (upd cf4 46 (cf 46)) ca ef ea xf xa]) rfl rfl (fun H locs hw => ?_)
            refine lv_aload_n S.x S.b d_Mpg_checkConstant_102 rfl (lv_at hl 3 rfl) ?_
            refine lv_iload_n S.x S.b d_Mpg_checkConstant_103 rfl (lv_at hl 1 rfl) ?_
            refine px_put S k_Mpg hT hw 0 0 47 rfl rfl (by decide) m10_38 rfl (z_nar (by first | with_reducible rfl | with_reducible assumption | omega)) (z_fit (by first | with_reducible rfl | with_reducible assumption | omega)) (Nat.le_of_ble_eq_true rfl) d_Mpg_checkConstant_104 (w' := wdP cs h r g tf ta pf na ma3 wa (upd (upd cf4 46 (cf 46)) 47 (cf 47)) ca ef ea xf xa) (ps' := [wdP cs h r g tf ta pf na ma3 wa (upd (upd cf4 46 (cf 46)) 47 (cf 47)) ca ef ea xf xa]) rfl rfl (fun H locs hw => ?_)
            refine lv_iload S.x S.b d_Mpg_checkConstant_107 (lv_at hl 0 rfl) ?_
            exact px_iret (v := 1) S hr rfl hlk hAe hw (Nat.le_of_ble_eq_true rfl) (Nat.le_of_ble_eq_true rfl) (⟨ma3, (upd (upd cf4 46 (cf 46)) 47 (cf 47)), rfl, (show KpE cf (upd (upd cf4 46 (cf 46)) 47 (cf 47)) from (KpE.u47 (KpE.u46 hke))), (show WrV (upd (upd cf4 46 (cf 46)) 47 (cf 47)) (tf 6).toInt from (WrV.u (WrV.u hwr (by decide) (by decide)) (by decide) (by decide))), (show (cf4 33).toInt = (cf 33).toInt from by first | exact e9 | omega), (show (cf4 38).toInt = (cf 38).toInt from by first | exact e10 | omega), (show (cf4 48).toInt = (cf 48).toInt from by first | exact e11 | omega), (show (cf 46).toInt = (cf 46).toInt from rfl), (show (cf 47).toInt = (cf 47).toInt from rfl), (show Ann na ma0 ma3 from han), (show FrC lo hi ma ma3 from hfc), (show (1 : Int32) = 0 ∨ (1 : Int32) = 1 from by first | exact Or.inl rfl | exact Or.inr rfl | exact z_or (by first | with_reducible rfl | with_reducible assumption | omega)), (show (1 : Int) = 0 → 1 ≤ (cf4 30).toInt from by first | with_reducible rfl | with_reducible assumption | omega)⟩) d_Mpg_checkConstant_109
      · have nc57 : ¬ (cf4 46).toInt = (0 : Int) := mt (i_eq (x := (cf4 46)) (y := 0)).mpr c57
        refine lv_aload_n S.x S.b d_Mpg_checkConstant_65 rfl (lv_at hl 2 rfl) ?_
        refine lv_bipush (v := 7) S.x S.b d_Mpg_checkConstant_66 (by decide) ?_
        refine lv_aload_n S.x S.b d_Mpg_checkConstant_68 rfl (lv_at hl 2 rfl) ?_
        refine lv_iload_n S.x S.b d_Mpg_checkConstant_69 rfl (lv_at hl 3 rfl) ?_
        refine px_calli (pr := []) (px_runV (As := [.int p0]) (rest := [.int 7, .ref h]) S (c_mp_first l D cs h r g tf ta pf na ma3 wa cf4 ca ef ea xf xa p0  (show 0 ≤ p0.toInt from by first | exact hrg.2.2 | omega) (show p0.toInt < (pf 13).toInt from by first | exact oz_7319c2f99d g1 hrg.2.1 | omega) (show (pf 13).toInt ≤ 2100 from by first | exact g2 | omega) htk (FsI.le (N' := (pf 13).toInt) hfs (by first | with_reducible rfl | with_reducible assumption | omega)) _) hT (pr := []) (pcs := [wdP cs h r g tf ta pf na ma3 wa cf4 ca ef ea xf xa]) hw px_X.tt (px_recv hT hw 0 0 rfl rfl rfl) m13_9 m13_6 m13_8 ms_12_15 m1_21 q_Mpg_first ⟨show 0 + 1 ≤ (4 * d + 18) from by first | with_reducible rfl | with_reducible assumption | omega, show 8 + (2 + 11) + 0 ≤ (200 * d + 640) from by first | with_reducible rfl | with_reducible assumption | omega⟩ hl.1 rfl (Nat.le_of_ble_eq_true rfl) d_Mpg_checkConstant_70 ⟨Nat.le_of_ble_eq_true rfl, Nat.le_of_ble_eq_true rfl⟩) hw hA (fun v61 p60 H locs hp60 hw => ?_)
        obtain ⟨rfl, e62, e63⟩ := hp60
        have e62 : 0 ≤ v61.toInt := e62
        have e63 : v61.toInt < (tf 6).toInt := e63
        have hw : pw D A s.heap H locs [wdP cs h r g tf ta pf na ma3 wa cf4 ca ef ea xf xa] := hw
        have lv61 := Int32.le_toInt v61
        have uv61 := Int32.toInt_lt v61
        refine px_callv (pr := []) (px_runV (As := [.int 7, .int v61]) (rest := []) S (c_mp_bad l D cs h r g tf ta pf na ma3 wa ca ef ea xf xa cf4 7 v61  (show 1 ≤ (7 : Int) from by first | decide | omega) (show 0 ≤ v61.toInt from by first | exact e62 | omega) (show v61.toInt < (tf 6).toInt from by first | exact e63 | omega) htk hwr _) hT (pr := []) (pcs := [wdP cs h r g tf ta pf na ma3 wa cf4 ca ef ea xf xa]) hw px_X.tt (px_recv hT hw 0 0 rfl rfl rfl) m12_173 m12_170 m12_172 ms_11_12 m1_21 q_Mpg_bad ⟨show 0 + 1 ≤ (4 * d + 18) from by first | with_reducible rfl | with_reducible assumption | omega, show 8 + (3 + 11) + 0 ≤ (200 * d + 640) from by first | with_reducible rfl | with_reducible assumption | omega⟩ hl.1 rfl (Nat.le_of_ble_eq_true rfl) d_Mpg_checkConstant_73 ⟨Nat.le_of_ble_eq_true rfl, Nat.le_of_ble_eq_true rfl⟩) hw hA (fun p66 H locs hp66 hw => ?_)
        obtain ⟨cf65, rfl, e68, e69, e70, e71, e72, e73, e74, e75, e76, e77, e78, e79, e80, e81, e82, e83, e84, e85, e86⟩ := hp66
        have e68 : KpE cf4 cf65 := e68
        have hke := (hke).tr e68
        have hkz_e68 := e68.2
        have e69 : WrV cf65 (tf 6).toInt := e69
        have hwr := e69
        have hw0_e69 := hwr.1
        have e70 : 1 ≤ (cf65 30).toInt := e70
        have e71 : (cf65 33).toInt = (cf4 33).toInt := e71
        have e72 : (cf65 38).toInt = (cf4 38).toInt := e72
        have e73 : (cf65 48).toInt = (cf4 48).toInt := e73
        have e74 : (cf65 46).toInt = (cf4 46).toInt := e74
        have e75 : (cf65 47).toInt = (cf4 47).toInt := e75
        have e76 : (cf65 57).toInt = (cf4 57).toInt := e76
        have e77 : (cf65 37).toInt = (cf4 37).toInt := e77
        have e78 : (cf65 42).toInt = (cf4 42).toInt := e78
        have e79 : (cf65 43).toInt = (cf4 43).toInt := e79
        have e80 : (cf65 44).toInt = (cf4 44).toInt := e80
        have e81 : (cf65 45).toInt = (cf4 45).toInt := e81
        have e82 : (cf65 54).toInt = (cf4 54).toInt := e82
        have e83 : (cf65 55).toInt = (cf4 55).toInt := e83
        have e84 : (cf65 58).toInt = (cf4 58).toInt := e84
        have e85 : (cf65 59).toInt = (cf4 59).toInt := e85
        have e86 : (cf65 41).toInt = (cf4 41).toInt := e86
        have hw : pw D A s.heap H locs [wdP cs h r g tf ta pf na ma3 wa cf65 ca ef ea xf xa] := hw
        refine lv_aload_n S.x S.b d_Mpg_checkConstant_76 rfl (lv_at hl 2 rfl) ?_
        refine px_get S k_Mpg hT hw 0 0 46 (v := .int (cf65 46)) rfl rfl rfl (by decide) m10_37 d_Mpg_checkConstant_77 ?_
        refine lv_if_ne (tgt := 94) S.x S.b d_Mpg_checkConstant_80 (by decide) (fun c87 => ?_) (fun c87 => ?_)
        · have nc87 : ¬ (cf65 46).toInt = (0 : Int) := mt (i_eq (x := (cf65 46)) (y := 0)).mpr c87
          refine lv_iconst (v := 0) S.x S.b d_Mpg_checkConstant_94 (by decide) ?_
          refine lv_istore (lv' := [(4, .int 0), (3, .int (cf 47)), (2, .int (cf 46)), (0, .ref h), (1, .int p0)]) S.x S.b d_Mpg_checkConstant_95 hl (by decide) rfl (fun ls hl => ?_)
          refine lv_aload_n S.x S.b d_Mpg_checkConstant_97 rfl (lv_at hl 3 rfl) ?_
          refine lv_iload_n S.x S.b d_Mpg_checkConstant_98 rfl (lv_at hl 2 rfl) ?_
          refine px_put S k_Mpg hT hw 0 0 46 rfl rfl (by decide) m10_37 rfl (z_nar (by first | with_reducible rfl | with_reducible assumption | omega)) (z_fit (by first | with_reducible rfl | with_reducible assumption | omega)) (Nat.le_of_ble_eq_true rfl) d_Mpg_checkConstant_99 (w' := wdP cs h r g tf ta pf na ma3 wa (upd cf65 46 (cf 46)) ca ef ea xf xa) (ps' := [wdP cs h r g tf ta pf na ma3 wa (upd cf65 46 (cf 46)) ca ef ea xf xa]) rfl rfl (fun H locs hw => ?_)
          refine lv_aload_n S.x S.b d_Mpg_checkConstant_102 rfl (lv_at hl 3 rfl) ?_
          refine lv_iload_n S.x S.b d_Mpg_checkConstant_103 rfl (lv_at hl 1 rfl) ?_
          refine px_put S k_Mpg hT hw 0 0 47 rfl rfl (by decide) m10_38 rfl (z_nar (by first | with_reducible rfl | with_reducible assumption | omega)) (z_fit (by first | with_reducible rfl | with_reducible assumption | omega)) (Nat.le_of_ble_eq_true rfl) d_Mpg_checkConstant_104 (w' := wdP cs h r g tf ta pf na ma3 wa (upd (upd cf65 46 (cf 46)) 47 (cf 47)) ca ef ea xf xa) (ps' := [wdP cs h r g tf ta pf na ma3 wa (upd (upd cf65 46 (cf 46)) 47 (cf 47)) ca ef ea xf xa]) rfl rfl (fun H locs hw => ?_)
          refine lv_iload S.x S.b d_Mpg_checkConstant_107 (lv_at hl 0 rfl) ?_
          exact px_iret (v := 0) S hr rfl hlk hAe hw (Nat.le_of_ble_eq_true rfl) (Nat.le_of_ble_eq_true rfl) (⟨ma3, (upd (upd cf65 46 (cf 46)) 47 (cf 47)), rfl, (show KpE cf (upd (upd cf65 46 (cf 46)) 47 (cf 47)) from (KpE.u47 (KpE.u46 hke))), (show WrV (upd (upd cf65 46 (cf 46)) 47 (cf 47)) (tf 6).toInt from (WrV.u (WrV.u hwr (by decide) (by decide)) (by decide) (by decide))), (show (cf65 33).toInt = (cf 33).toInt from by first | exact oz_1687f4cc65 e9 e71 | omega), (show (cf65 38).toInt = (cf 38).toInt from by first | exact oz_1687f4cc65 e10 e72 | omega), (show (cf65 48).toInt = (cf 48).toInt from by first | exact oz_1687f4cc65 e11 e73 | omega), (show (cf 46).toInt = (cf 46).toInt from rfl), (show (cf 47).toInt = (cf 47).toInt from rfl), (show Ann na ma0 ma3 from han), (show FrC lo hi ma ma3 from hfc), (show (0 : Int32) = 0 ∨ (0 : Int32) = 1 from by first | exact Or.inl rfl | exact Or.inr rfl | exact z_or (by first | with_reducible rfl | with_reducible assumption | omega)), (show (0 : Int) = 0 → 1 ≤ (cf65 30).toInt from by first | with_reducible rfl | with_reducible assumption | omega)⟩) d_Mpg_checkConstant_109
        · have nc87 : (cf65 46).toInt = (0 : Int) := (i_eq (x := (cf65 46)) (y := 0)).mp c87
          refine lv_aload_n S.x S.b d_Mpg_checkConstant_83 rfl (lv_at hl 2 rfl) ?_
          refine px_get S k_Mpg hT hw 0 0 47 (v := .int (cf65 47)) rfl rfl rfl (by decide) m10_38 d_Mpg_checkConstant_84 ?_
          refine lv_if_ne (tgt := 94) S.x S.b d_Mpg_checkConstant_87 (by decide) (fun c88 => ?_) (fun c88 => ?_)
          · have nc88 : ¬ (cf65 47).toInt = (0 : Int) := mt (i_eq (x := (cf65 47)) (y := 0)).mpr c88
            refine lv_iconst (v := 0) S.x S.b d_Mpg_checkConstant_94 (by decide) ?_
            refine lv_istore (lv' := [(4, .int 0), (3, .int (cf 47)), (2, .int (cf 46)), (0, .ref h), (1, .int p0)]) S.x S.b d_Mpg_checkConstant_95 hl (by decide) rfl (fun ls hl => ?_)
            refine lv_aload_n S.x S.b d_Mpg_checkConstant_97 rfl (lv_at hl 3 rfl) ?_
            refine lv_iload_n S.x S.b d_Mpg_checkConstant_98 rfl (lv_at hl 2 rfl) ?_
            refine px_put S k_Mpg hT hw 0 0 46 rfl rfl (by decide) m10_37 rfl (z_nar (by first | with_reducible rfl | with_reducible assumption | omega)) (z_fit (by first | with_reducible rfl | with_reducible assumption | omega)) (Nat.le_of_ble_eq_true rfl) d_Mpg_checkConstant_99 (w' := wdP cs h r g tf ta pf na ma3 wa (upd cf65 46 (cf 46)) ca ef ea xf xa) (ps' := [wdP cs h r g tf ta pf na ma3 wa (upd cf65 46 (cf 46)) ca ef ea xf xa]) rfl rfl (fun H locs hw => ?_)
            refine lv_aload_n S.x S.b d_Mpg_checkConstant_102 rfl (lv_at hl 3 rfl) ?_
            refine lv_iload_n S.x S.b d_Mpg_checkConstant_103 rfl (lv_at hl 1 rfl) ?_
            refine px_put S k_Mpg hT hw 0 0 47 rfl rfl (by decide) m10_38 rfl (z_nar (by first | with_reducible rfl | with_reducible assumption | omega)) (z_fit (by first | with_reducible rfl | with_reducible assumption | omega)) (Nat.le_of_ble_eq_true rfl) d_Mpg_checkConstant_104 (w' := wdP cs h r g tf ta pf na ma3 wa (upd (upd cf65 46 (cf 46)) 47 (cf 47)) ca ef ea xf xa) (ps' := [wdP cs h r g tf ta pf na ma3 wa (upd (upd cf65 46 (cf 46)) 47 (cf 47)) ca ef ea xf xa]) rfl rfl (fun H locs hw => ?_)
            refine lv_iload S.x S.b d_Mpg_checkConstant_107 (lv_at hl 0 rfl) ?_
            exact px_iret (v := 0) S hr rfl hlk hAe hw (Nat.le_of_ble_eq_true rfl) (Nat.le_of_ble_eq_true rfl) (⟨ma3, (upd (upd cf65 46 (cf 46)) 47 (cf 47)), rfl, (show KpE cf (upd (upd cf65 46 (cf 46)) 47 (cf 47)) from (KpE.u47 (KpE.u46 hke))), (show WrV (upd (upd cf65 46 (cf 46)) 47 (cf 47)) (tf 6).toInt from (WrV.u (WrV.u hwr (by decide) (by decide)) (by decide) (by decide))), (show (cf65 33).toInt = (cf 33).toInt from by first | exact oz_1687f4cc65 e9 e71 | omega), (show (cf65 38).toInt = (cf 38).toInt from by first | exact oz_1687f4cc65 e10 e72 | omega), (show (cf65 48).toInt = (cf 48).toInt from by first | exact oz_1687f4cc65 e11 e73 | omega), (show (cf 46).toInt = (cf 46).toInt from rfl), (show (cf 47).toInt = (cf 47).toInt from rfl), (show Ann na ma0 ma3 from han), (show FrC lo hi ma ma3 from hfc), (show (0 : Int32) = 0 ∨ (0 : Int32) = 1 from by first | exact Or.inl rfl | exact Or.inr rfl | exact z_or (by first | with_reducible rfl | with_reducible assumption | omega)), (show (0 : Int) = 0 → 1 ≤ (cf65 30).toInt from by first | with_reducible rfl | with_reducible assumption | omega)⟩) d_Mpg_checkConstant_109
          · have nc88 : (cf65 47).toInt = (0 : Int) := (i_eq (x := (cf65 47)) (y := 0)).mp c88
            refine lv_iconst (v := 1) S.x S.b d_Mpg_checkConstant_90 (by decide) ?_
            refine lv_goto (tgt := 95) S.x S.b d_Mpg_checkConstant_91 (by decide) ?_
            refine lv_istore (lv' := [(4, .int 1), (3, .int (cf 47)), (2, .int (cf 46)), (0, .ref h), (1, .int p0)]) S.x S.b d_Mpg_checkConstant_95 hl (by decide) rfl (fun ls hl => ?_)
            refine lv_aload_n S.x S.b d_Mpg_checkConstant_97 rfl (lv_at hl 3 rfl) ?_
            refine lv_iload_n S.x S.b d_Mpg_checkConstant_98 rfl (lv_at hl 2 rfl) ?_
            refine px_put S k_Mpg hT hw 0 0 46 rfl rfl (by decide) m10_37 rfl (z_nar (by first | with_reducible rfl | with_reducible assumption | omega)) (z_fit (by first | with_reducible rfl | with_reducible assumption | omega)) (Nat.le_of_ble_eq_true rfl) d_Mpg_checkConstant_99 (w' := wdP cs h r g tf ta pf na ma3 wa (upd cf65 46 (cf 46)) ca ef ea xf xa) (ps' := [wdP cs h r g tf ta pf na ma3 wa (upd cf65 46 (cf 46)) ca ef ea xf xa]) rfl rfl (fun H locs hw => ?_)
            refine lv_aload_n S.x S.b d_Mpg_checkConstant_102 rfl (lv_at hl 3 rfl) ?_
            refine lv_iload_n S.x S.b d_Mpg_checkConstant_103 rfl (lv_at hl 1 rfl) ?_
            refine px_put S k_Mpg hT hw 0 0 47 rfl rfl (by decide) m10_38 rfl (z_nar (by first | with_reducible rfl | with_reducible assumption | omega)) (z_fit (by first | with_reducible rfl | with_reducible assumption | omega)) (Nat.le_of_ble_eq_true rfl) d_Mpg_checkConstant_104 (w' := wdP cs h r g tf ta pf na ma3 wa (upd (upd cf65 46 (cf 46)) 47 (cf 47)) ca ef ea xf xa) (ps' := [wdP cs h r g tf ta pf na ma3 wa (upd (upd cf65 46 (cf 46)) 47 (cf 47)) ca ef ea xf xa]) rfl rfl (fun H locs hw => ?_)
            refine lv_iload S.x S.b d_Mpg_checkConstant_107 (lv_at hl 0 rfl) ?_
            exact px_iret (v := 1) S hr rfl hlk hAe hw (Nat.le_of_ble_eq_true rfl) (Nat.le_of_ble_eq_true rfl) (⟨ma3, (upd (upd cf65 46 (cf 46)) 47 (cf 47)), rfl, (show KpE cf (upd (upd cf65 46 (cf 46)) 47 (cf 47)) from (KpE.u47 (KpE.u46 hke))), (show WrV (upd (upd cf65 46 (cf 46)) 47 (cf 47)) (tf 6).toInt from (WrV.u (WrV.u hwr (by decide) (by decide)) (by decide) (by decide))), (show (cf65 33).toInt = (cf 33).toInt from by first | exact oz_1687f4cc65 e9 e71 | omega), (show (cf65 38).toInt = (cf 38).toInt from by first | exact oz_1687f4cc65 e10 e72 | omega), (show (cf65 48).toInt = (cf 48).toInt from by first | exact oz_1687f4cc65 e11 e73 | omega), (show (cf 46).toInt = (cf 46).toInt from rfl), (show (cf 47).toInt = (cf 47).toInt from rfl), (show Ann na ma0 ma3 from han), (show FrC lo hi ma ma3 from hfc), (show (1 : Int32) = 0 ∨ (1 : Int32) = 1 from by first | exact Or.inl rfl | exact Or.inr rfl | exact z_or (by first | with_reducible rfl | with_reducible assumption | omega)), (show (1 : Int) = 0 → 1 ≤ (cf65 30).toInt from by first | with_reducible rfl | with_reducible assumption | omega)⟩) d_Mpg_checkConstant_109
    · have nc56 : (cf4 47).toInt = (0 : Int) := (i_eq (x := (cf4 47)) (y := 0)).mp c56
      refine lv_aload_n S.x S.b d_Mpg_checkConstant_39 rfl (lv_at hl 2 rfl) ?_
      refine lv_aload_n S.x S.b d_Mpg_checkConstant_40 rfl (lv_at hl 2 rfl) ?_
      have hrk_p0 := hmt_p0 (by first | with_reducible rfl | with_reducible assumption | omega) (by first | with_reducible rfl | with_reducible assumption | omega)
      refine lv_iload_n S.x S.b d_Mpg_checkConstant_41 rfl (lv_at hl 3 rfl) ?_
      refine px_calli (pr := []) (px_runV (As := [.int p0]) (rest := [.ref h]) S (c_S_reckon l D cs ma0 ys ns nf kn d lo hi h r g tf ta pf na ma3 wa ca ef ea xf xa cf4 p0  (show 0 ≤ lo from by first | exact g0 | omega) (show hi ≤ (pf 13).toInt from by first | exact g1 | omega) (show (pf 13).toInt ≤ 2100 from by first | exact g2 | omega) (show (tf 6).toInt ≤ 2049 from by first | exact g3 | omega) (show (cf4 33).toInt = kn from by first | exact oz_1687f4cc65 g4 e9 | omega) (show 0 ≤ kn from by first | exact g5 | omega) (show (cf4 48).toInt = ns from by first | exact oz_1687f4cc65 g6 e11 | omega) (show (cf4 38).toInt = nf from by first | exact oz_1687f4cc65 g7 e10 | omega) (show 0 ≤ nf from by first | exact g8 | omega) htk (FsI.le (N' := (pf 13).toInt) hfs (by first | with_reducible rfl | with_reducible assumption | omega)) hwr (KnT.eq hkt (by first | with_reducible rfl | with_reducible assumption | omega)) (FnT.eq hft (by first | with_reducible rfl | with_reducible assumption | omega)) han hec_p0 hrk_p0 _) hT (pr := []) (pcs := [wdP cs h r g tf ta pf na ma3 wa cf4 ca ef ea xf xa]) hw (oX_call (P := (fun A U H => (oP A g U H))) (pr := []) oG_P hw hA hP) (px_recv hT hw 0 0 rfl rfl rfl) m13_13 m13_10 m13_12 ms_13_0 m1_21 q_Mpg_reckon ⟨show (2 * d + 6) + 1 ≤ (4 * d + 18) from by first | with_reducible rfl | with_reducible assumption | omega, show 8 + (7 + 11) + (100 * d + 240) ≤ (200 * d + 640) from by first | with_reducible rfl | with_reducible assumption | omega⟩ hl.1 rfl (Nat.le_of_ble_eq_true rfl) d_Mpg_checkConstant_42 ⟨Nat.le_of_ble_eq_true rfl, Nat.le_of_ble_eq_true rfl⟩) hw hA (fun v92 p91 H locs hp91 hw => ?_)
      obtain ⟨cf90, rfl, e93, e94, e95, e96, e97, e98⟩ := hp91
      have e93 : KpE cf4 cf90 := e93
      have hke := (hke).tr e93
      have hkz_e93 := e93.2
      have e94 : WrV cf90 (tf 6).toInt := e94
      have hwr := e94
      have hw0_e94 := hwr.1
      have e95 : (cf90 33).toInt = (cf4 33).toInt := e95
      have e96 : (cf90 38).toInt = (cf4 38).toInt := e96
      have e97 : (cf90 48).toInt = (cf4 48).toInt := e97
      have e98 : (cf90 47).toInt = (cf4 47).toInt := e98
      have hw : pw D A s.heap H locs [wdP cs h r g tf ta pf na ma3 wa cf90 ca ef ea xf xa] := hw
      have lv92 := Int32.le_toInt v92
      have uv92 := Int32.toInt_lt v92
      refine px_put S k_Mpg hT hw 0 0 57 rfl rfl (by decide) m10_54 rfl rfl rfl (Nat.le_of_ble_eq_true rfl) d_Mpg_checkConstant_45 (w' := wdP cs h r g tf ta pf na ma3 wa (upd cf90 57 v92) ca ef ea xf xa) (ps' := [wdP cs h r g tf ta pf na ma3 wa (upd cf90 57 v92) ca ef ea xf xa]) rfl rfl (fun H locs hw => ?_)
      refine lv_aload_n S.x S.b d_Mpg_checkConstant_48 rfl (lv_at hl 2 rfl) ?_
      refine px_get S k_Mpg hT hw 0 0 20 (v := .ref (r 20)) rfl rfl rfl (by decide) m10_6 d_Mpg_checkConstant_49 ?_
      refine lv_iload_n S.x S.b d_Mpg_checkConstant_52 rfl (lv_at hl 3 rfl) ?_
      refine lv_aload_n S.x S.b d_Mpg_checkConstant_53 rfl (lv_at hl 2 rfl) ?_
      refine px_get S k_Mpg hT hw 0 0 57 (v := .int v92) rfl rfl rfl (by decide) m10_54 d_Mpg_checkConstant_54 ?_
      refine px_iast S hT hw 0 16 (n := 2100) (f := (ma3 20)) (x := p0) (y := v92) rfl gp_20 (vp_in_iff.mpr (by constructor <;> omega)) d_Mpg_checkConstant_57 (w' := wdP cs h r g tf ta pf na (va_up ma3 20 (upd (ma3 20) p0.toNatClampNeg v92)) wa (upd cf90 57 v92) ca ef ea xf xa) (ps' := [wdP cs h r g tf ta pf na (va_up ma3 20 (upd (ma3 20) p0.toNatClampNeg v92)) wa (upd cf90 57 v92) ca ef ea xf xa]) sp_20 rfl (fun H locs hw => ?_)
      obtain ⟨ma99, hu_ma99⟩ : ∃ y : Nat → Nat → Int32, y = va_up ma3 20 (upd (ma3 20) p0.toNatClampNeg v92) := ⟨_, rfl⟩
      have hw : pw D A s.heap _ _ [wdP cs h r g tf ta pf na ma99 wa (upd cf90 57 v92) ca ef ea xf xa] := (by rw [hu_ma99]; exact hw)
      have hf1_ma99 : FrC p0.toInt (p0.toInt + 1) ma3 ma99 := (by rw [hu_ma99]; exact FrC.w FrC.rf (by first | with_reducible rfl | with_reducible assumption | omega) (by first | with_reducible rfl | with_reducible assumption | omega) (by first | with_reducible rfl | with_reducible assumption | omega))
      have han : Ann na ma0 ma99 := (by rw [hu_ma99]; exact Ann.w20 han (by first | with_reducible rfl | with_reducible assumption | omega))
      have hfc := hfc.tr hf1_ma99 (by first | with_reducible rfl | with_reducible assumption | omega) (by first | with_reducible rfl | with_reducible assumption | omega)
      have hv_20_p0 : ma99 20 p0.toNatClampNeg = v92 := (by rw [hu_ma99, va_up_s, pk_us])
      have hnhv_20_p0 : (ma99 20 p0.toNatClampNeg).toInt = v92.toInt := (by rw [hv_20_p0])
      refine lv_aload_n S.x S.b d_Mpg_checkConstant_58 rfl (lv_at hl 2 rfl) ?_
      refine px_get S k_Mpg hT hw 0 0 46 (v := .int (cf90 46)) rfl rfl rfl (by decide) m10_37 d_Mpg_checkConstant_59 ?_
      refine lv_if_eq (tgt := 76) S.x S.b d_Mpg_checkConstant_62 (by decide) (fun c100 => ?_) (fun c100 => ?_)
      · have nc100 : (cf90 46).toInt = (0 : Int) := (i_eq (x := (cf90 46)) (y := 0)).mp c100
        refine lv_aload_n S.x S.b d_Mpg_checkConstant_76 rfl (lv_at hl 2 rfl) ?_
        refine px_get S k_Mpg hT hw 0 0 46 (v := .int (cf90 46)) rfl rfl rfl (by decide) m10_37 d_Mpg_checkConstant_77 ?_
        refine lv_if_ne (tgt := 94) S.x S.b d_Mpg_checkConstant_80 (by decide) (fun c101 => ?_) (fun c101 => ?_)
        · have nc101 : ¬ (cf90 46).toInt = (0 : Int) := mt (i_eq (x := (cf90 46)) (y := 0)).mpr c101
          refine lv_iconst (v := 0) S.x S.b d_Mpg_checkConstant_94 (by decide) ?_
          refine lv_istore (lv' := [(4, .int 0), (3, .int (cf 47)), (2, .int (cf 46)), (0, .ref h), (1, .int p0)]) S.x S.b d_Mpg_checkConstant_95 hl (by decide) rfl (fun ls hl => ?_)
          refine lv_aload_n S.x S.b d_Mpg_checkConstant_97 rfl (lv_at hl 3 rfl) ?_
          refine lv_iload_n S.x S.b d_Mpg_checkConstant_98 rfl (lv_at hl 2 rfl) ?_
          refine px_put S k_Mpg hT hw 0 0 46 rfl rfl (by decide) m10_37 rfl (z_nar (by first | with_reducible rfl | with_reducible assumption | omega)) (z_fit (by first | with_reducible rfl | with_reducible assumption | omega)) (Nat.le_of_ble_eq_true rfl) d_Mpg_checkConstant_99 (w' := wdP cs h r g tf ta pf na ma99 wa (upd (upd cf90 46 (cf 46)) 57 v92) ca ef ea xf xa) (ps' := [wdP cs h r g tf ta pf na ma99 wa (upd (upd cf90 46 (cf 46)) 57 v92) ca ef ea xf xa]) rfl rfl (fun H locs hw => ?_)
          refine lv_aload_n S.x S.b d_Mpg_checkConstant_102 rfl (lv_at hl 3 rfl) ?_
          refine lv_iload_n S.x S.b d_Mpg_checkConstant_103 rfl (lv_at hl 1 rfl) ?_
          refine px_put S k_Mpg hT hw 0 0 47 rfl rfl (by decide) m10_38 rfl (z_nar (by first | with_reducible rfl | with_reducible assumption | omega)) (z_fit (by first | with_reducible rfl | with_reducible assumption | omega)) (Nat.le_of_ble_eq_true rfl) d_Mpg_checkConstant_104 (w' := wdP cs h r g tf ta pf na ma99 wa (upd (upd (upd cf90 46 (cf 46)) 47 (cf 47)) 57 v92) ca ef ea xf xa) (ps' := [wdP cs h r g tf ta pf na ma99 wa (upd (upd (upd cf90 46 (cf 46)) 47 (cf 47)) 57 v92) ca ef ea xf xa]) rfl rfl (fun H locs hw => ?_)
          refine lv_iload S.x S.b d_Mpg_checkConstant_107 (lv_at hl 0 rfl) ?_
          exact px_iret (v := 0) S hr rfl hlk hAe hw (Nat.le_of_ble_eq_true rfl) (Nat.le_of_ble_eq_true rfl) (⟨ma99, (upd (upd (upd cf90 46 (cf 46)) 47 (cf 47)) 57 v92), rfl, (show KpE cf (upd (upd (upd cf90 46 (cf 46)) 47 (cf 47)) 57 v92) from (KpE.u57 (KpE.u47 (KpE.u46 hke)))), (show WrV (upd (upd (upd cf90 46 (cf 46)) 47 (cf 47)) 57 v92) (tf 6).toInt from (WrV.u (WrV.u (WrV.u hwr (by decide) (by decide)) (by decide) (by decide)) (by decide) (by decide))), (show (cf90 33).toInt = (cf 33).toInt from by first | exact oz_1687f4cc65 e9 e95 | omega), (show (cf90 38).toInt = (cf 38).toInt from by first | exact oz_1687f4cc65 e10 e96 | omega), (show (cf90 48).toInt = (cf 48).toInt from by first | exact oz_1687f4cc65 e11 e97 | omega), (show (cf 46).toInt = (cf 46).toInt from rfl), (show (cf 47).toInt = (cf 47).toInt from rfl), (show Ann na ma0 ma99 from han), (show FrC lo hi ma ma99 from hfc), (show (0 : Int32) = 0 ∨ (0 : Int32) = 1 from by first | exact Or.inl rfl | exact Or.inr rfl | exact z_or (by first | with_reducible rfl | with_reducible assumption | omega)), (show (0 : Int) = 0 → 1 ≤ (cf90 30).toInt from by first | with_reducible rfl | with_reducible assumption | omega)⟩) d_Mpg_checkConstant_109
        · have nc101 : (cf90 46).toInt = (0 : Int) := (i_eq (x := (cf90 46)) (y := 0)).mp c101
          refine lv_aload_n S.x S.b d_Mpg_checkConstant_83 rfl (lv_at hl 2 rfl) ?_
          refine px_get S k_Mpg hT hw 0 0 47 (v := .int (cf90 47)) rfl rfl rfl (by decide) m10_38 d_Mpg_checkConstant_84 ?_
          refine lv_if_ne (tgt := 94) S.x S.b d_Mpg_checkConstant_87 (by decide) (fun c102 => ?_) (fun c102 => ?_)
          · have nc102 : ¬ (cf90 47).toInt = (0 : Int) := mt (i_eq (x := (cf90 47)) (y := 0)).mpr c102
            refine lv_iconst (v := 0) S.x S.b d_Mpg_checkConstant_94 (by decide) ?_
            refine lv_istore (lv' := [(4, .int 0), (3, .int (cf 47)), (2, .int (cf 46)), (0, .ref h), (1, .int p0)]) S.x S.b d_Mpg_checkConstant_95 hl (by decide) rfl (fun ls hl => ?_)
            refine lv_aload_n S.x S.b d_Mpg_checkConstant_97 rfl (lv_at hl 3 rfl) ?_
            refine lv_iload_n S.x S.b d_Mpg_checkConstant_98 rfl (lv_at hl 2 rfl) ?_
            refine px_put S k_Mpg hT hw 0 0 46 rfl rfl (by decide) m10_37 rfl (z_nar (by first | with_reducible rfl | with_reducible assumption | omega)) (z_fit (by first | with_reducible rfl | with_reducible assumption | omega)) (Nat.le_of_ble_eq_true rfl) d_Mpg_checkConstant_99 (w' := wdP cs h r g tf ta pf na ma99 wa (upd (upd cf90 46 (cf 46)) 57 v92) ca ef ea xf xa) (ps' := [wdP cs h r g tf ta pf na ma99 wa (upd (upd cf90 46 (cf 46)) 57 v92) ca ef ea xf xa]) rfl rfl (fun H locs hw => ?_)
            refine lv_aload_n S.x S.b d_Mpg_checkConstant_102 rfl (lv_at hl 3 rfl) ?_
            refine lv_iload_n S.x S.b d_Mpg_checkConstant_103 rfl (lv_at hl 1 rfl) ?_
            refine px_put S k_Mpg hT hw 0 0 47 rfl rfl (by decide) m10_38 rfl (z_nar (by first | with_reducible rfl | with_reducible assumption | omega)) (z_fit (by first | with_reducible rfl | with_reducible assumption | omega)) (Nat.le_of_ble_eq_true rfl) d_Mpg_checkConstant_104 (w' := wdP cs h r g tf ta pf na ma99 wa (upd (upd (upd cf90 46 (cf 46)) 47 (cf 47)) 57 v92) ca ef ea xf xa) (ps' := [wdP cs h r g tf ta pf na ma99 wa (upd (upd (upd cf90 46 (cf 46)) 47 (cf 47)) 57 v92) ca ef ea xf xa]) rfl rfl (fun H locs hw => ?_)
            refine lv_iload S.x S.b d_Mpg_checkConstant_107 (lv_at hl 0 rfl) ?_
            exact px_iret (v := 0) S hr rfl hlk hAe hw (Nat.le_of_ble_eq_true rfl) (Nat.le_of_ble_eq_true rfl) (⟨ma99, (upd (upd (upd cf90 46 (cf 46)) 47 (cf 47)) 57 v92), rfl, (show KpE cf (upd (upd (upd cf90 46 (cf 46)) 47 (cf 47)) 57 v92) from (KpE.u57 (KpE.u47 (KpE.u46 hke)))), (show WrV (upd (upd (upd cf90 46 (cf 46)) 47 (cf 47)) 57 v92) (tf 6).toInt from (WrV.u (WrV.u (WrV.u hwr (by decide) (by decide)) (by decide) (by decide)) (by decide) (by decide))), (show (cf90 33).toInt = (cf 33).toInt from by first | exact oz_1687f4cc65 e9 e95 | omega), (show (cf90 38).toInt = (cf 38).toInt from by first | exact oz_1687f4cc65 e10 e96 | omega), (show (cf90 48).toInt = (cf 48).toInt from by first | exact oz_1687f4cc65 e11 e97 | omega), (show (cf 46).toInt = (cf 46).toInt from rfl), (show (cf 47).toInt = (cf 47).toInt from rfl), (show Ann na ma0 ma99 from han), (show FrC lo hi ma ma99 from hfc), (show (0 : Int32) = 0 ∨ (0 : Int32) = 1 from by first | exact Or.inl rfl | exact Or.inr rfl | exact z_or (by first | with_reducible rfl | with_reducible assumption | omega)), (show (0 : Int) = 0 → 1 ≤ (cf90 30).toInt from by first | with_reducible rfl | with_reducible assumption | omega)⟩) d_Mpg_checkConstant_109
          · have nc102 : (cf90 47).toInt = (0 : Int) := (i_eq (x := (cf90 47)) (y := 0)).mp c102
            refine lv_iconst (v := 1) S.x S.b d_Mpg_checkConstant_90 (by decide) ?_
            refine lv_goto (tgt := 95) S.x S.b d_Mpg_checkConstant_91 (by decide) ?_
            refine lv_istore (lv' := [(4, .int 1), (3, .int (cf 47)), (2, .int (cf 46)), (0, .ref h), (1, .int p0)]) S.x S.b d_Mpg_checkConstant_95 hl (by decide) rfl (fun ls hl => ?_)
            refine lv_aload_n S.x S.b d_Mpg_checkConstant_97 rfl (lv_at hl 3 rfl) ?_
            refine lv_iload_n S.x S.b d_Mpg_checkConstant_98 rfl (lv_at hl 2 rfl) ?_
            refine px_put S k_Mpg hT hw 0 0 46 rfl rfl (by decide) m10_37 rfl (z_nar (by first | with_reducible rfl | with_reducible assumption | omega)) (z_fit (by first | with_reducible rfl | with_reducible assumption | omega)) (Nat.le_of_ble_eq_true rfl) d_Mpg_checkConstant_99 (w' := wdP cs h r g tf ta pf na ma99 wa (upd (upd cf90 46 (cf 46)) 57 v92) ca ef ea xf xa) (ps' := [wdP cs h r g tf ta pf na ma99 wa (upd (upd cf90 46 (cf 46)) 57 v92) ca ef ea xf xa]) rfl rfl (fun H locs hw => ?_)
            refine lv_aload_n S.x S.b d_Mpg_checkConstant_102 rfl (lv_at hl 3 rfl) ?_
            refine lv_iload_n S.x S.b d_Mpg_checkConstant_103 rfl (lv_at hl 1 rfl) ?_
            refine px_put S k_Mpg hT hw 0 0 47 rfl rfl (by decide) m10_38 rfl (z_nar (by first | with_reducible rfl | with_reducible assumption | omega)) (z_fit (by first | with_reducible rfl | with_reducible assumption | omega)) (Nat.le_of_ble_eq_true rfl) d_Mpg_checkConstant_104 (w' := wdP cs h r g tf ta pf na ma99 wa (upd (upd (upd cf90 46 (cf 46)) 47 (cf 47)) 57 v92) ca ef ea xf xa) (ps' := [wdP cs h r g tf ta pf na ma99 wa (upd (upd (upd cf90 46 (cf 46)) 47 (cf 47)) 57 v92) ca ef ea xf xa]) rfl rfl (fun H locs hw => ?_)
            refine lv_iload S.x S.b d_Mpg_checkConstant_107 (lv_at hl 0 rfl) ?_
            exact px_iret (v := 1) S hr rfl hlk hAe hw (Nat.le_of_ble_eq_true rfl) (Nat.le_of_ble_eq_true rfl) (⟨ma99, (upd (upd (upd cf90 46 (cf 46)) 47 (cf 47)) 57 v92), rfl, (show KpE cf (upd (upd (upd cf90 46 (cf 46)) 47 (cf 47)) 57 v92) from (KpE.u57 (KpE.u47 (KpE.u46 hke)))), (show WrV (upd (upd (upd cf90 46 (cf 46)) 47 (cf 47)) 57 v92) (tf 6).toInt from (WrV.u (WrV.u (WrV.u hwr (by decide) (by decide)) (by decide) (by decide)) (by decide) (by decide))), (show (cf90 33).toInt = (cf 33).toInt from by first | exact oz_1687f4cc65 e9 e95 | omega), (show (cf90 38).toInt = (cf 38).toInt from by first | exact oz_1687f4cc65 e10 e96 | omega), (show (cf90 48).toInt = (cf 48).toInt from by first | exact oz_1687f4cc65 e11 e97 | omega), (show (cf 46).toInt = (cf 46).toInt from rfl), (show (cf 47).toInt = (cf 47).toInt from rfl), (show Ann na ma0 ma99 from han), (show FrC lo hi ma ma99 from hfc), (show (1 : Int32) = 0 ∨ (1 : Int32) = 1 from by first | exact Or.inl rfl | exact Or.inr rfl | exact z_or (by first | with_reducible rfl | with_reducible assumption | omega)), (show (1 : Int) = 0 → 1 ≤ (cf90 30).toInt from by first | with_reducible rfl | with_reducible assumption | omega)⟩) d_Mpg_checkConstant_109
      · have nc100 : ¬ (cf90 46).toInt = (0 : Int) := mt (i_eq (x := (cf90 46)) (y := 0)).mpr c100
        refine lv_aload_n S.x S.b d_Mpg_checkConstant_65 rfl (lv_at hl 2 rfl) ?_
        refine lv_bipush (v := 7) S.x S.b d_Mpg_checkConstant_66 (by decide) ?_
        refine lv_aload_n S.x S.b d_Mpg_checkConstant_68 rfl (lv_at hl 2 rfl) ?_
        refine lv_iload_n S.x S.b d_Mpg_checkConstant_69 rfl (lv_at hl 3 rfl) ?_
        refine px_calli (pr := []) (px_runV (As := [.int p0]) (rest := [.int 7, .ref h]) S (c_mp_first l D cs h r g tf ta pf na ma99 wa (upd cf90 57 v92) ca ef ea xf xa p0  (show 0 ≤ p0.toInt from by first | exact hrg.2.2 | omega) (show p0.toInt < (pf 13).toInt from by first | exact oz_7319c2f99d g1 hrg.2.1 | omega) (show (pf 13).toInt ≤ 2100 from by first | exact g2 | omega) htk (FsI.le (N' := (pf 13).toInt) hfs (by first | with_reducible rfl | with_reducible assumption | omega)) _) hT (pr := []) (pcs := [wdP cs h r g tf ta pf na ma99 wa (upd cf90 57 v92) ca ef ea xf xa]) hw px_X.tt (px_recv hT hw 0 0 rfl rfl rfl) m13_9 m13_6 m13_8 ms_12_15 m1_21 q_Mpg_first ⟨show 0 + 1 ≤ (4 * d + 18) from by first | with_reducible rfl | with_reducible assumption | omega, show 8 + (2 + 11) + 0 ≤ (200 * d + 640) from by first | with_reducible rfl | with_reducible assumption | omega⟩ hl.1 rfl (Nat.le_of_ble_eq_true rfl) d_Mpg_checkConstant_70 ⟨Nat.le_of_ble_eq_true rfl, Nat.le_of_ble_eq_true rfl⟩) hw hA (fun v104 p103 H locs hp103 hw => ?_)
        obtain ⟨rfl, e105, e106⟩ := hp103
        have e105 : 0 ≤ v104.toInt := e105
        have e106 : v104.toInt < (tf 6).toInt := e106
        have hw : pw D A s.heap H locs [wdP cs h r g tf ta pf na ma99 wa (upd cf90 57 v92) ca ef ea xf xa] := hw
        have lv104 := Int32.le_toInt v104
        have uv104 := Int32.toInt_lt v104
        refine px_callv (pr := []) (px_runV (As := [.int 7, .int v104]) (rest := []) S (c_mp_bad l D cs h r g tf ta pf na ma99 wa ca ef ea xf xa (upd cf90 57 v92) 7 v104  (show 1 ≤ (7 : Int) from by first | decide | omega) (show 0 ≤ v104.toInt from by first | exact e105 | omega) (show v104.toInt < (tf 6).toInt from by first | exact e106 | omega) htk (WrV.u hwr (by decide) (by decide)) _) hT (pr := []) (pcs := [wdP cs h r g tf ta pf na ma99 wa (upd cf90 57 v92) ca ef ea xf xa]) hw px_X.tt (px_recv hT hw 0 0 rfl rfl rfl) m12_173 m12_170 m12_172 ms_11_12 m1_21 q_Mpg_bad ⟨show 0 + 1 ≤ (4 * d + 18) from by first | with_reducible rfl | with_reducible assumption | omega, show 8 + (3 + 11) + 0 ≤ (200 * d + 640) from by first | with_reducible rfl | with_reducible assumption | omega⟩ hl.1 rfl (Nat.le_of_ble_eq_true rfl) d_Mpg_checkConstant_73 ⟨Nat.le_of_ble_eq_true rfl, Nat.le_of_ble_eq_true rfl⟩) hw hA (fun p109 H locs hp109 hw => ?_)
        obtain ⟨cf108, rfl, e111, e112, e113, e114, e115, e116, e117, e118, e119, e120, e121, e122, e123, e124, e125, e126, e127, e128, e129⟩ := hp109
        have e111 : KpE (upd cf90 57 v92) cf108 := e111
        have hke := ((KpE.u57 hke)).tr e111
        have hkz_e111 := e111.2
        have e112 : WrV cf108 (tf 6).toInt := e112
        have hwr := e112
        have hw0_e112 := hwr.1
        have e113 : 1 ≤ (cf108 30).toInt := e113
        have e114 : (cf108 33).toInt = (cf90 33).toInt := e114
        have e115 : (cf108 38).toInt = (cf90 38).toInt := e115
        have e116 : (cf108 48).toInt = (cf90 48).toInt := e116
        have e117 : (cf108 46).toInt = (cf90 46).toInt := e117
        have e118 : (cf108 47).toInt = (cf90 47).toInt := e118
        have e119 : (cf108 57).toInt = v92.toInt := e119
        have e120 : (cf108 37).toInt = (cf90 37).toInt := e120
        have e121 : (cf108 42).toInt = (cf90 42).toInt := e121
        have e122 : (cf108 43).toInt = (cf90 43).toInt := e122
        have e123 : (cf108 44).toInt = (cf90 44).toInt := e123
        have e124 : (cf108 45).toInt = (cf90 45).toInt := e124
        have e125 : (cf108 54).toInt = (cf90 54).toInt := e125
        have e126 : (cf108 55).toInt = (cf90 55).toInt := e126
        have e127 : (cf108 58).toInt = (cf90 58).toInt := e127
        have e128 : (cf108 59).toInt = (cf90 59).toInt := e128
        have e129 : (cf108 41).toInt = (cf90 41).toInt := e129
        have hw : pw D A s.heap H locs [wdP cs h r g tf ta pf na ma99 wa cf108 ca ef ea xf xa] := hw
        refine lv_aload_n S.x S.b d_Mpg_checkConstant_76 rfl (lv_at hl 2 rfl) ?_
        refine px_get S k_Mpg hT hw 0 0 46 (v := .int (cf108 46)) rfl rfl rfl (by decide) m10_37 d_Mpg_checkConstant_77 ?_
        refine lv_if_ne (tgt := 94) S.x S.b d_Mpg_checkConstant_80 (by decide) (fun c130 => ?_) (fun c130 => ?_)
        · have nc130 : ¬ (cf108 46).toInt = (0 : Int) := mt (i_eq (x := (cf108 46)) (y := 0)).mpr c130
          refine lv_iconst (v := 0) S.x S.b d_Mpg_checkConstant_94 (by decide) ?_
          refine lv_istore (lv' := [(4, .int 0), (3, .int (cf 47)), (2, .int (cf 46)), (0, .ref h), (1, .int p0)]) S.x S.b d_Mpg_checkConstant_95 hl (by decide) rfl (fun ls hl => ?_)
          refine lv_aload_n S.x S.b d_Mpg_checkConstant_97 rfl (lv_at hl 3 rfl) ?_
          refine lv_iload_n S.x S.b d_Mpg_checkConstant_98 rfl (lv_at hl 2 rfl) ?_
          refine px_put S k_Mpg hT hw 0 0 46 rfl rfl (by decide) m10_37 rfl (z_nar (by first | with_reducible rfl | with_reducible assumption | omega)) (z_fit (by first | with_reducible rfl | with_reducible assumption | omega)) (Nat.le_of_ble_eq_true rfl) d_Mpg_checkConstant_99 (w' := wdP cs h r g tf ta pf na ma99 wa (upd cf108 46 (cf 46)) ca ef ea xf xa) (ps' := [wdP cs h r g tf ta pf na ma99 wa (upd cf108 46 (cf 46)) ca ef ea xf xa]) rfl rfl (fun H locs hw => ?_)
          refine lv_aload_n S.x S.b d_Mpg_checkConstant_102 rfl (lv_at hl 3 rfl) ?_
          refine lv_iload_n S.x S.b d_Mpg_checkConstant_103 rfl (lv_at hl 1 rfl) ?_
          refine px_put S k_Mpg hT hw 0 0 47 rfl rfl (by decide) m10_38 rfl (z_nar (by first | with_reducible rfl | with_reducible assumption | omega)) (z_fit (by first | with_reducible rfl | with_reducible assumption | omega)) (Nat.le_of_ble_eq_true rfl) d_Mpg_checkConstant_104 (w' := wdP cs h r g tf ta pf na ma99 wa (upd (upd cf108 46 (cf 46)) 47 (cf 47)) ca ef ea xf xa) (ps' := [wdP cs h r g tf ta pf na ma99 wa (upd (upd cf108 46 (cf 46)) 47 (cf 47)) ca ef ea xf xa]) rfl rfl (fun H locs hw => ?_)
          refine lv_iload S.x S.b d_Mpg_checkConstant_107 (lv_at hl 0 rfl) ?_
          exact px_iret (v := 0) S hr rfl hlk hAe hw (Nat.le_of_ble_eq_true rfl) (Nat.le_of_ble_eq_true rfl) (⟨ma99, (upd (upd cf108 46 (cf 46)) 47 (cf 47)), rfl, (show KpE cf (upd (upd cf108 46 (cf 46)) 47 (cf 47)) from (KpE.u47 (KpE.u46 hke))), (show WrV (upd (upd cf108 46 (cf 46)) 47 (cf 47)) (tf 6).toInt from (WrV.u (WrV.u hwr (by decide) (by decide)) (by decide) (by decide))), (show (cf108 33).toInt = (cf 33).toInt from by first | exact oz_e13fc83238 e9 e114 e95 | omega), (show (cf108 38).toInt = (cf 38).toInt from by first | exact oz_e13fc83238 e10 e115 e96 | omega), (show (cf108 48).toInt = (cf 48).toInt from by first | exact oz_e13fc83238 e11 e116 e97 | omega), (show (cf 46).toInt = (cf 46).toInt from rfl), (show (cf 47).toInt = (cf 47).toInt from rfl), (show Ann na ma0 ma99 from han), (show FrC lo hi ma ma99 from hfc), (show (0 : Int32) = 0 ∨ (0 : Int32) = 1 from by first | exact Or.inl rfl | exact Or.inr rfl | exact z_or (by first | with_reducible rfl | with_reducible assumption | omega)), (show (0 : Int) = 0 → 1 ≤ (cf108 30).toInt from by first | with_reducible rfl | with_reducible assumption | omega)⟩) d_Mpg_checkConstant_109
        · have nc130 : (cf108 46).toInt = (0 : Int) := (i_eq (x := (cf108 46)) (y := 0)).mp c130
          refine lv_aload_n S.x S.b d_Mpg_checkConstant_83 rfl (lv_at hl 2 rfl) ?_
          refine px_get S k_Mpg hT hw 0 0 47 (v := .int (cf108 47)) rfl rfl rfl (by decide) m10_38 d_Mpg_checkConstant_84 ?_
          refine lv_if_ne (tgt := 94) S.x S.b d_Mpg_checkConstant_87 (by decide) (fun c131 => ?_) (fun c131 => ?_)
          · have nc131 : ¬ (cf108 47).toInt = (0 : Int) := mt (i_eq (x := (cf108 47)) (y := 0)).mpr c131
            refine lv_iconst (v := 0) S.x S.b d_Mpg_checkConstant_94 (by decide) ?_
            refine lv_istore (lv' := [(4, .int 0), (3, .int (cf 47)), (2, .int (cf 46)), (0, .ref h), (1, .int p0)]) S.x S.b d_Mpg_checkConstant_95 hl (by decide) rfl (fun ls hl => ?_)
            refine lv_aload_n S.x S.b d_Mpg_checkConstant_97 rfl (lv_at hl 3 rfl) ?_
            refine lv_iload_n S.x S.b d_Mpg_checkConstant_98 rfl (lv_at hl 2 rfl) ?_
            refine px_put S k_Mpg hT hw 0 0 46 rfl rfl (by decide) m10_37 rfl (z_nar (by first | with_reducible rfl | with_reducible assumption | omega)) (z_fit (by first | with_reducible rfl | with_reducible assumption | omega)) (Nat.le_of_ble_eq_true rfl) d_Mpg_checkConstant_99 (w' := wdP cs h r g tf ta pf na ma99 wa (upd cf108 46 (cf 46)) ca ef ea xf xa) (ps' := [wdP cs h r g tf ta pf na ma99 wa (upd cf108 46 (cf 46)) ca ef ea xf xa]) rfl rfl (fun H locs hw => ?_)
            refine lv_aload_n S.x S.b d_Mpg_checkConstant_102 rfl (lv_at hl 3 rfl) ?_
            refine lv_iload_n S.x S.b d_Mpg_checkConstant_103 rfl (lv_at hl 1 rfl) ?_
            refine px_put S k_Mpg hT hw 0 0 47 rfl rfl (by decide) m10_38 rfl (z_nar (by first | with_reducible rfl | with_reducible assumption | omega)) (z_fit (by first | with_reducible rfl | with_reducible assumption | omega)) (Nat.le_of_ble_eq_true rfl) d_Mpg_checkConstant_104 (w' := wdP cs h r g tf ta pf na ma99 wa (upd (upd cf108 46 (cf 46)) 47 (cf 47)) ca ef ea xf xa) (ps' := [wdP cs h r g tf ta pf na ma99 wa (upd (upd cf108 46 (cf 46)) 47 (cf 47)) ca ef ea xf xa]) rfl rfl (fun H locs hw => ?_)
            refine lv_iload S.x S.b d_Mpg_checkConstant_107 (lv_at hl 0 rfl) ?_
            exact px_iret (v := 0) S hr rfl hlk hAe hw (Nat.le_of_ble_eq_true rfl) (Nat.le_of_ble_eq_true rfl) (⟨ma99, (upd (upd cf108 46 (cf 46)) 47 (cf 47)), rfl, (show KpE cf (upd (upd cf108 46 (cf 46)) 47 (cf 47)) from (KpE.u47 (KpE.u46 hke))), (show WrV (upd (upd cf108 46 (cf 46)) 47 (cf 47)) (tf 6).toInt from (WrV.u (WrV.u hwr (by decide) (by decide)) (by decide) (by decide))), (show (cf108 33).toInt = (cf 33).toInt from by first | exact oz_e13fc83238 e9 e114 e95 | omega), (show (cf108 38).toInt = (cf 38).toInt from by first | exact oz_e13fc83238 e10 e115 e96 | omega), (show (cf108 48).toInt = (cf 48).toInt from by first | exact oz_e13fc83238 e11 e116 e97 | omega), (show (cf 46).toInt = (cf 46).toInt from rfl), (show (cf 47).toInt = (cf 47).toInt from rfl), (show Ann na ma0 ma99 from han), (show FrC lo hi ma ma99 from hfc), (show (0 : Int32) = 0 ∨ (0 : Int32) = 1 from by first | exact Or.inl rfl | exact Or.inr rfl | exact z_or (by first | with_reducible rfl | with_reducible assumption | omega)), (show (0 : Int) = 0 → 1 ≤ (cf108 30).toInt from by first | with_reducible rfl | with_reducible assumption | omega)⟩) d_Mpg_checkConstant_109
          · have nc131 : (cf108 47).toInt = (0 : Int) := (i_eq (x := (cf108 47)) (y := 0)).mp c131
            refine lv_iconst (v := 1) S.x S.b d_Mpg_checkConstant_90 (by decide) ?_
            refine lv_goto (tgt := 95) S.x S.b d_Mpg_checkConstant_91 (by decide) ?_
            refine lv_istore (lv' := [(4, .int 1), (3, .int (cf 47)), (2, .int (cf 46)), (0, .ref h), (1, .int p0)]) S.x S.b d_Mpg_checkConstant_95 hl (by decide) rfl (fun ls hl => ?_)
            refine lv_aload_n S.x S.b d_Mpg_checkConstant_97 rfl (lv_at hl 3 rfl) ?_
            refine lv_iload_n S.x S.b d_Mpg_checkConstant_98 rfl (lv_at hl 2 rfl) ?_
            refine px_put S k_Mpg hT hw 0 0 46 rfl rfl (by decide) m10_37 rfl (z_nar (by first | with_reducible rfl | with_reducible assumption | omega)) (z_fit (by first | with_reducible rfl | with_reducible assumption | omega)) (Nat.le_of_ble_eq_true rfl) d_Mpg_checkConstant_99 (w' := wdP cs h r g tf ta pf na ma99 wa (upd cf108 46 (cf 46)) ca ef ea xf xa) (ps' := [wdP cs h r g tf ta pf na ma99 wa (upd cf108 46 (cf 46)) ca ef ea xf xa]) rfl rfl (fun H locs hw => ?_)
            refine lv_aload_n S.x S.b d_Mpg_checkConstant_102 rfl (lv_at hl 3 rfl) ?_
            refine lv_iload_n S.x S.b d_Mpg_checkConstant_103 rfl (lv_at hl 1 rfl) ?_
            refine px_put S k_Mpg hT hw 0 0 47 rfl rfl (by decide) m10_38 rfl (z_nar (by first | with_reducible rfl | with_reducible assumption | omega)) (z_fit (by first | with_reducible rfl | with_reducible assumption | omega)) (Nat.le_of_ble_eq_true rfl) d_Mpg_checkConstant_104 (w' := wdP cs h r g tf ta pf na ma99 wa (upd (upd cf108 46 (cf 46)) 47 (cf 47)) ca ef ea xf xa) (ps' := [wdP cs h r g tf ta pf na ma99 wa (upd (upd cf108 46 (cf 46)) 47 (cf 47)) ca ef ea xf xa]) rfl rfl (fun H locs hw => ?_)
            refine lv_iload S.x S.b d_Mpg_checkConstant_107 (lv_at hl 0 rfl) ?_
            exact px_iret (v := 1) S hr rfl hlk hAe hw (Nat.le_of_ble_eq_true rfl) (Nat.le_of_ble_eq_true rfl) (⟨ma99, (upd (upd cf108 46 (cf 46)) 47 (cf 47)), rfl, (show KpE cf (upd (upd cf108 46 (cf 46)) 47 (cf 47)) from (KpE.u47 (KpE.u46 hke))), (show WrV (upd (upd cf108 46 (cf 46)) 47 (cf 47)) (tf 6).toInt from (WrV.u (WrV.u hwr (by decide) (by decide)) (by decide) (by decide))), (show (cf108 33).toInt = (cf 33).toInt from by first | exact oz_e13fc83238 e9 e114 e95 | omega), (show (cf108 38).toInt = (cf 38).toInt from by first | exact oz_e13fc83238 e10 e115 e96 | omega), (show (cf108 48).toInt = (cf 48).toInt from by first | exact oz_e13fc83238 e11 e116 e97 | omega), (show (cf 46).toInt = (cf 46).toInt from rfl), (show (cf 47).toInt = (cf 47).toInt from rfl), (show Ann na ma0 ma99 from han), (show FrC lo hi ma ma99 from hfc), (show (1 : Int32) = 0 ∨ (1 : Int32) = 1 from by first | exact Or.inl rfl | exact Or.inr rfl | exact z_or (by first | with_reducible rfl | with_reducible assumption | omega)), (show (1 : Int) = 0 → 1 ≤ (cf108 30).toInt from by first | with_reducible rfl | with_reducible assumption | omega)⟩) d_Mpg_checkConstant_109
