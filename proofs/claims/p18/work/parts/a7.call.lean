theorem oz_0f2ac8ea3f {a0 a1 a2 a3 : Int} (h0 : a1 = a2) (h1 : a0 < a3) (h2 : a2 = a3) : a0 < a1 := by omega
theorem oz_ec25f4eec3 {a0 a1 a2 a3 a4 a5 : Int} (h0 : a0 = a1 - (1 : Int)) (h1 : a1 + a2 + 1 ≤ a3) (h2 : 0 ≤ a2) (h3 : a3 ≤ a4) (h4 : a4 ≤ a5) (h5 : a5 ≤ 2100) : a0 ≤ 4000 := by omega
theorem oz_891c5e5184 {a0 : Int} (h0 : ¬ a0 < (0 : Int)) (h1 : a0 ≤ 9) : 0 ≤ a0 ∧ a0 < ((15 : Nat) : Int) := by omega
theorem oz_2634073f30 {a0 a1 a2 a3 a4 : Int} (h0 : a0 + a1 + 1 ≤ a2) (h1 : 0 ≤ a1) (h2 : a2 ≤ a3) (h3 : a3 ≤ a4) (h4 : a4 ≤ 2100) : a0 ≤ 4000 := by omega
theorem oz_bbb5b20c1a {a0 a1 a2 : Int} (h0 : a2 ≤ a1) (h1 : a0 ≤ a2) : a0 ≤ a1 := by omega
theorem oz_3b93307734 {a0 a1 a2 : Int} (h0 : a2 = a1) (h1 : a0 < a2) : a0 < a1 := by omega
theorem oz_5323360a91 {a0 : Int}  : (0 : Int) + a0 + 1 ≤ (a0 + 1) := by omega
theorem oz_a1bc7e1f12 {a0 : Int}  : a0 + 1 ≤ (a0 + 1) := by omega
theorem oz_8cd8185cc8 {a0 a1 : Int} (h0 : a0 < a1) : (a0 + 1) ≤ a1 := by omega
theorem oz_f437a3dc8c {a0 a1 : Int} (h0 : 0 ≤ a1) (h1 : a0 < (0 : Int)) : a0 < a1 := by omega
theorem oz_46b89dfbf6 {a0 : Int} (h0 : 0 ≤ a0) : (-1 : Int) < a0 := by omega
theorem m12_214 : Cond.methodLink "HomeSystemModel$Program" 577 ⟨"HomeSystemModel$Program", "check", "(IZ)I"⟩ ∈ AL := AL_12 (List.mem_of_getElem? (i := 214) rfl) rfl
theorem m12_217 : Cond.code ⟨"HomeSystemModel$Program", "check", "(IZ)I"⟩ prog_16_method_74_code 8 (Option.some FieldType.int) ∈ AL := AL_12 (List.mem_of_getElem? (i := 217) rfl) rfl
theorem ms_12_7 : Cond.selects "HomeSystemModel$Program" ⟨"HomeSystemModel$Program", "check", "(IZ)I"⟩ ⟨"HomeSystemModel$Program", "check", "(IZ)I"⟩ ∈ AL := AL_p (q := (⟨"HomeSystemModel$Program", "check", "(IZ)I"⟩, 69)) (by unfold lw_privs; exact List.mem_append_right _ (List.mem_append_right _ (List.mem_append_right _ (List.mem_append_right _ (List.mem_append_right _ (List.mem_append_right _ (List.mem_append_right _ (List.mem_append_right _ (List.mem_append_right _ (List.mem_append_right _ (List.mem_append_right _ (List.mem_append_left _ (List.mem_of_getElem? (i := 7) rfl)))))))))))))
theorem m12_216 : Cond.instanceMethod ⟨"HomeSystemModel$Program", "check", "(IZ)I"⟩ ∈ AL := AL_12 (List.mem_of_getElem? (i := 216) rfl) rfl
theorem m12_226 : Cond.methodLink "HomeSystemModel$Program" 587 ⟨"HomeSystemModel$Program", "taken", "(III)I"⟩ ∈ AL := AL_12 (List.mem_of_getElem? (i := 226) rfl) rfl
theorem m12_229 : Cond.code ⟨"HomeSystemModel$Program", "taken", "(III)I"⟩ prog_16_method_78_code 6 (Option.some FieldType.int) ∈ AL := AL_12 (List.mem_of_getElem? (i := 229) rfl) rfl
theorem ms_12_10 : Cond.selects "HomeSystemModel$Program" ⟨"HomeSystemModel$Program", "taken", "(III)I"⟩ ⟨"HomeSystemModel$Program", "taken", "(III)I"⟩ ∈ AL := AL_p (q := (⟨"HomeSystemModel$Program", "taken", "(III)I"⟩, 69)) (by unfold lw_privs; exact List.mem_append_right _ (List.mem_append_right _ (List.mem_append_right _ (List.mem_append_right _ (List.mem_append_right _ (List.mem_append_right _ (List.mem_append_right _ (List.mem_append_right _ (List.mem_append_right _ (List.mem_append_right _ (List.mem_append_right _ (List.mem_append_left _ (List.mem_of_getElem? (i := 10) rfl)))))))))))))
theorem m12_228 : Cond.instanceMethod ⟨"HomeSystemModel$Program", "taken", "(III)I"⟩ ∈ AL := AL_12 (List.mem_of_getElem? (i := 228) rfl) rfl
theorem m12_230 : Cond.methodLink "HomeSystemModel$Program" 590 ⟨"HomeSystemModel$Program", "checkArgument", "(II)V"⟩ ∈ AL := AL_12 (List.mem_of_getElem? (i := 230) rfl) rfl
theorem m12_233 : Cond.code ⟨"HomeSystemModel$Program", "checkArgument", "(II)V"⟩ prog_16_method_80_code 5 (Option.none : Option Jvm.ClassFile.FieldType) ∈ AL := AL_12 (List.mem_of_getElem? (i := 233) rfl) rfl
theorem ms_12_11 : Cond.selects "HomeSystemModel$Program" ⟨"HomeSystemModel$Program", "checkArgument", "(II)V"⟩ ⟨"HomeSystemModel$Program", "checkArgument", "(II)V"⟩ ∈ AL := AL_p (q := (⟨"HomeSystemModel$Program", "checkArgument", "(II)V"⟩, 69)) (by unfold lw_privs; exact List.mem_append_right _ (List.mem_append_right _ (List.mem_append_right _ (List.mem_append_right _ (List.mem_append_right _ (List.mem_append_right _ (List.mem_append_right _ (List.mem_append_right _ (List.mem_append_right _ (List.mem_append_right _ (List.mem_append_right _ (List.mem_append_left _ (List.mem_of_getElem? (i := 11) rfl)))))))))))))
theorem m12_232 : Cond.instanceMethod ⟨"HomeSystemModel$Program", "checkArgument", "(II)V"⟩ ∈ AL := AL_12 (List.mem_of_getElem? (i := 232) rfl) rfl
abbrev b_Mpg_check : ByteArray := prog_16_method_74_code
def y_Mpg_check : MethodName := ⟨"HomeSystemModel$Program", "check", "(IZ)I"⟩
theorem d_Mpg_check_0 : decode b_Mpg_check 0 = .ok (.iconst 1, 1) := by decide +kernel
theorem d_Mpg_check_1 : decode b_Mpg_check 1 = .ok (.istore_n 3, 1) := by decide +kernel
theorem d_Mpg_check_2 : decode b_Mpg_check 2 = .ok (.aload_n 0, 1) := by decide +kernel
theorem d_Mpg_check_3 : decode b_Mpg_check 3 = .ok (.getfield 207, 3) := by decide +kernel
theorem d_Mpg_check_6 : decode b_Mpg_check 6 = .ok (.iload_n 1, 1) := by decide +kernel
theorem d_Mpg_check_7 : decode b_Mpg_check 7 = .ok (.baload, 1) := by decide +kernel
theorem d_Mpg_check_8 : decode b_Mpg_check 8 = .ok (.tableswitch 256 1 8 #[48, 51, 60, 69, 89, 153, 181, 217], 48) := by decide +kernel
theorem d_Mpg_check_56 : decode b_Mpg_check 56 = .ok (.goto 245, 3) := by decide +kernel
theorem d_Mpg_check_59 : decode b_Mpg_check 59 = .ok (.aload_n 0, 1) := by decide +kernel
theorem d_Mpg_check_60 : decode b_Mpg_check 60 = .ok (.iload_n 1, 1) := by decide +kernel
theorem d_Mpg_check_61 : decode b_Mpg_check 61 = .ok (.invokevirtual 568, 3) := by decide +kernel
theorem d_Mpg_check_64 : decode b_Mpg_check 64 = .ok (.istore_n 3, 1) := by decide +kernel
theorem d_Mpg_check_65 : decode b_Mpg_check 65 = .ok (.goto 236, 3) := by decide +kernel
theorem d_Mpg_check_68 : decode b_Mpg_check 68 = .ok (.aload_n 0, 1) := by decide +kernel
theorem d_Mpg_check_69 : decode b_Mpg_check 69 = .ok (.iload_n 1, 1) := by decide +kernel
theorem d_Mpg_check_70 : decode b_Mpg_check 70 = .ok (.invokevirtual 571, 3) := by decide +kernel
theorem d_Mpg_check_73 : decode b_Mpg_check 73 = .ok (.istore_n 3, 1) := by decide +kernel
theorem d_Mpg_check_74 : decode b_Mpg_check 74 = .ok (.goto 227, 3) := by decide +kernel
theorem d_Mpg_check_77 : decode b_Mpg_check 77 = .ok (.aload_n 0, 1) := by decide +kernel
theorem d_Mpg_check_78 : decode b_Mpg_check 78 = .ok (.iload_n 1, 1) := by decide +kernel
theorem d_Mpg_check_79 : decode b_Mpg_check 79 = .ok (.invokevirtual 574, 3) := by decide +kernel
theorem d_Mpg_check_82 : decode b_Mpg_check 82 = .ok (.aload_n 0, 1) := by decide +kernel
theorem d_Mpg_check_83 : decode b_Mpg_check 83 = .ok (.aload_n 0, 1) := by decide +kernel
theorem d_Mpg_check_84 : decode b_Mpg_check 84 = .ok (.getfield 216, 3) := by decide +kernel
theorem d_Mpg_check_87 : decode b_Mpg_check 87 = .ok (.iload_n 1, 1) := by decide +kernel
theorem d_Mpg_check_88 : decode b_Mpg_check 88 = .ok (.iaload, 1) := by decide +kernel
theorem d_Mpg_check_89 : decode b_Mpg_check 89 = .ok (.iconst 1, 1) := by decide +kernel
theorem d_Mpg_check_90 : decode b_Mpg_check 90 = .ok (.invokevirtual 577, 3) := by decide +kernel
theorem d_Mpg_check_93 : decode b_Mpg_check 93 = .ok (.pop, 1) := by decide +kernel
theorem d_Mpg_check_94 : decode b_Mpg_check 94 = .ok (.goto 207, 3) := by decide +kernel
theorem d_Mpg_check_97 : decode b_Mpg_check 97 = .ok (.aload_n 0, 1) := by decide +kernel
theorem d_Mpg_check_98 : decode b_Mpg_check 98 = .ok (.getfield 198, 3) := by decide +kernel
theorem d_Mpg_check_101 : decode b_Mpg_check 101 = .ok (.aload_n 0, 1) := by decide +kernel
theorem d_Mpg_check_102 : decode b_Mpg_check 102 = .ok (.getfield 210, 3) := by decide +kernel
theorem d_Mpg_check_105 : decode b_Mpg_check 105 = .ok (.iload_n 1, 1) := by decide +kernel
theorem d_Mpg_check_106 : decode b_Mpg_check 106 = .ok (.iaload, 1) := by decide +kernel
theorem d_Mpg_check_107 : decode b_Mpg_check 107 = .ok (.iaload, 1) := by decide +kernel
theorem d_Mpg_check_108 : decode b_Mpg_check 108 = .ok (.iconst 2, 1) := by decide +kernel
theorem d_Mpg_check_109 : decode b_Mpg_check 109 = .ok (.if_icmp .ne 7, 3) := by decide +kernel
theorem d_Mpg_check_112 : decode b_Mpg_check 112 = .ok (.iconst 1, 1) := by decide +kernel
theorem d_Mpg_check_113 : decode b_Mpg_check 113 = .ok (.goto 4, 3) := by decide +kernel
theorem d_Mpg_check_116 : decode b_Mpg_check 116 = .ok (.iconst 0, 1) := by decide +kernel
theorem d_Mpg_check_117 : decode b_Mpg_check 117 = .ok (.istore 4, 2) := by decide +kernel
theorem d_Mpg_check_119 : decode b_Mpg_check 119 = .ok (.aload_n 0, 1) := by decide +kernel
theorem d_Mpg_check_120 : decode b_Mpg_check 120 = .ok (.aload_n 0, 1) := by decide +kernel
theorem d_Mpg_check_121 : decode b_Mpg_check 121 = .ok (.getfield 216, 3) := by decide +kernel
theorem d_Mpg_check_124 : decode b_Mpg_check 124 = .ok (.iload_n 1, 1) := by decide +kernel
theorem d_Mpg_check_125 : decode b_Mpg_check 125 = .ok (.iaload, 1) := by decide +kernel
theorem d_Mpg_check_126 : decode b_Mpg_check 126 = .ok (.iload 4, 2) := by decide +kernel
theorem d_Mpg_check_128 : decode b_Mpg_check 128 = .ok (.ifCond .ne 7, 3) := by decide +kernel
theorem d_Mpg_check_131 : decode b_Mpg_check 131 = .ok (.iconst 1, 1) := by decide +kernel
theorem d_Mpg_check_132 : decode b_Mpg_check 132 = .ok (.goto 4, 3) := by decide +kernel
theorem d_Mpg_check_135 : decode b_Mpg_check 135 = .ok (.iconst 0, 1) := by decide +kernel
theorem d_Mpg_check_136 : decode b_Mpg_check 136 = .ok (.invokevirtual 577, 3) := by decide +kernel
theorem d_Mpg_check_139 : decode b_Mpg_check 139 = .ok (.istore 5, 2) := by decide +kernel
theorem d_Mpg_check_141 : decode b_Mpg_check 141 = .ok (.iload 4, 2) := by decide +kernel
theorem d_Mpg_check_143 : decode b_Mpg_check 143 = .ok (.ifCond .eq 158, 3) := by decide +kernel
theorem d_Mpg_check_146 : decode b_Mpg_check 146 = .ok (.aload_n 0, 1) := by decide +kernel
theorem d_Mpg_check_147 : decode b_Mpg_check 147 = .ok (.aload_n 0, 1) := by decide +kernel
theorem d_Mpg_check_148 : decode b_Mpg_check 148 = .ok (.getfield 216, 3) := by decide +kernel
theorem d_Mpg_check_151 : decode b_Mpg_check 151 = .ok (.iload_n 1, 1) := by decide +kernel
theorem d_Mpg_check_152 : decode b_Mpg_check 152 = .ok (.iaload, 1) := by decide +kernel
theorem d_Mpg_check_153 : decode b_Mpg_check 153 = .ok (.iload 5, 2) := by decide +kernel
theorem d_Mpg_check_155 : decode b_Mpg_check 155 = .ok (.invokevirtual 581, 3) := by decide +kernel
theorem d_Mpg_check_158 : decode b_Mpg_check 158 = .ok (.goto 143, 3) := by decide +kernel
theorem d_Mpg_check_161 : decode b_Mpg_check 161 = .ok (.aload_n 0, 1) := by decide +kernel
theorem d_Mpg_check_162 : decode b_Mpg_check 162 = .ok (.aload_n 0, 1) := by decide +kernel
theorem d_Mpg_check_163 : decode b_Mpg_check 163 = .ok (.getfield 216, 3) := by decide +kernel
theorem d_Mpg_check_166 : decode b_Mpg_check 166 = .ok (.iload_n 1, 1) := by decide +kernel
theorem d_Mpg_check_167 : decode b_Mpg_check 167 = .ok (.iaload, 1) := by decide +kernel
theorem d_Mpg_check_168 : decode b_Mpg_check 168 = .ok (.iconst 0, 1) := by decide +kernel
theorem d_Mpg_check_169 : decode b_Mpg_check 169 = .ok (.invokevirtual 577, 3) := by decide +kernel
theorem d_Mpg_check_172 : decode b_Mpg_check 172 = .ok (.istore 6, 2) := by decide +kernel
theorem d_Mpg_check_174 : decode b_Mpg_check 174 = .ok (.aload_n 0, 1) := by decide +kernel
theorem d_Mpg_check_175 : decode b_Mpg_check 175 = .ok (.aload_n 0, 1) := by decide +kernel
theorem d_Mpg_check_176 : decode b_Mpg_check 176 = .ok (.getfield 216, 3) := by decide +kernel
theorem d_Mpg_check_179 : decode b_Mpg_check 179 = .ok (.iload_n 1, 1) := by decide +kernel
theorem d_Mpg_check_180 : decode b_Mpg_check 180 = .ok (.iaload, 1) := by decide +kernel
theorem d_Mpg_check_181 : decode b_Mpg_check 181 = .ok (.iload 6, 2) := by decide +kernel
theorem d_Mpg_check_183 : decode b_Mpg_check 183 = .ok (.invokevirtual 581, 3) := by decide +kernel
theorem d_Mpg_check_186 : decode b_Mpg_check 186 = .ok (.goto 115, 3) := by decide +kernel
theorem d_Mpg_check_189 : decode b_Mpg_check 189 = .ok (.aload_n 0, 1) := by decide +kernel
theorem d_Mpg_check_190 : decode b_Mpg_check 190 = .ok (.getfield 216, 3) := by decide +kernel
theorem d_Mpg_check_193 : decode b_Mpg_check 193 = .ok (.iload_n 1, 1) := by decide +kernel
theorem d_Mpg_check_194 : decode b_Mpg_check 194 = .ok (.iaload, 1) := by decide +kernel
theorem d_Mpg_check_195 : decode b_Mpg_check 195 = .ok (.istore 7, 2) := by decide +kernel
theorem d_Mpg_check_197 : decode b_Mpg_check 197 = .ok (.iload 7, 2) := by decide +kernel
theorem d_Mpg_check_199 : decode b_Mpg_check 199 = .ok (.ifCond .lt 23, 3) := by decide +kernel
theorem d_Mpg_check_202 : decode b_Mpg_check 202 = .ok (.aload_n 0, 1) := by decide +kernel
theorem d_Mpg_check_203 : decode b_Mpg_check 203 = .ok (.iload 7, 2) := by decide +kernel
theorem d_Mpg_check_205 : decode b_Mpg_check 205 = .ok (.iconst 1, 1) := by decide +kernel
theorem d_Mpg_check_206 : decode b_Mpg_check 206 = .ok (.invokevirtual 577, 3) := by decide +kernel
theorem d_Mpg_check_209 : decode b_Mpg_check 209 = .ok (.pop, 1) := by decide +kernel
theorem d_Mpg_check_210 : decode b_Mpg_check 210 = .ok (.aload_n 0, 1) := by decide +kernel
theorem d_Mpg_check_211 : decode b_Mpg_check 211 = .ok (.getfield 228, 3) := by decide +kernel
theorem d_Mpg_check_214 : decode b_Mpg_check 214 = .ok (.iload 7, 2) := by decide +kernel
theorem d_Mpg_check_216 : decode b_Mpg_check 216 = .ok (.iaload, 1) := by decide +kernel
theorem d_Mpg_check_217 : decode b_Mpg_check 217 = .ok (.istore 7, 2) := by decide +kernel
theorem d_Mpg_check_219 : decode b_Mpg_check 219 = .ok (.goto (-22), 3) := by decide +kernel
theorem d_Mpg_check_222 : decode b_Mpg_check 222 = .ok (.goto 79, 3) := by decide +kernel
theorem d_Mpg_check_225 : decode b_Mpg_check 225 = .ok (.aload_n 0, 1) := by decide +kernel
theorem d_Mpg_check_226 : decode b_Mpg_check 226 = .ok (.aload_n 0, 1) := by decide +kernel
theorem d_Mpg_check_227 : decode b_Mpg_check 227 = .ok (.getfield 216, 3) := by decide +kernel
theorem d_Mpg_check_230 : decode b_Mpg_check 230 = .ok (.iload_n 1, 1) := by decide +kernel
theorem d_Mpg_check_231 : decode b_Mpg_check 231 = .ok (.iaload, 1) := by decide +kernel
theorem d_Mpg_check_232 : decode b_Mpg_check 232 = .ok (.iconst 1, 1) := by decide +kernel
theorem d_Mpg_check_233 : decode b_Mpg_check 233 = .ok (.invokevirtual 577, 3) := by decide +kernel
theorem d_Mpg_check_236 : decode b_Mpg_check 236 = .ok (.pop, 1) := by decide +kernel
theorem d_Mpg_check_237 : decode b_Mpg_check 237 = .ok (.aload_n 0, 1) := by decide +kernel
theorem d_Mpg_check_238 : decode b_Mpg_check 238 = .ok (.aload_n 0, 1) := by decide +kernel
theorem d_Mpg_check_239 : decode b_Mpg_check 239 = .ok (.getfield 219, 3) := by decide +kernel
theorem d_Mpg_check_242 : decode b_Mpg_check 242 = .ok (.iload_n 1, 1) := by decide +kernel
theorem d_Mpg_check_243 : decode b_Mpg_check 243 = .ok (.iaload, 1) := by decide +kernel
theorem d_Mpg_check_244 : decode b_Mpg_check 244 = .ok (.iconst 1, 1) := by decide +kernel
theorem d_Mpg_check_245 : decode b_Mpg_check 245 = .ok (.invokevirtual 577, 3) := by decide +kernel
theorem d_Mpg_check_248 : decode b_Mpg_check 248 = .ok (.pop, 1) := by decide +kernel
theorem d_Mpg_check_249 : decode b_Mpg_check 249 = .ok (.aload_n 0, 1) := by decide +kernel
theorem d_Mpg_check_250 : decode b_Mpg_check 250 = .ok (.aload_n 0, 1) := by decide +kernel
theorem d_Mpg_check_251 : decode b_Mpg_check 251 = .ok (.getfield 222, 3) := by decide +kernel
theorem d_Mpg_check_254 : decode b_Mpg_check 254 = .ok (.iload_n 1, 1) := by decide +kernel
theorem d_Mpg_check_255 : decode b_Mpg_check 255 = .ok (.iaload, 1) := by decide +kernel
theorem d_Mpg_check_256 : decode b_Mpg_check 256 = .ok (.iconst 1, 1) := by decide +kernel
theorem d_Mpg_check_257 : decode b_Mpg_check 257 = .ok (.invokevirtual 577, 3) := by decide +kernel
theorem d_Mpg_check_260 : decode b_Mpg_check 260 = .ok (.pop, 1) := by decide +kernel
theorem d_Mpg_check_261 : decode b_Mpg_check 261 = .ok (.goto 40, 3) := by decide +kernel
theorem d_Mpg_check_264 : decode b_Mpg_check 264 = .ok (.aload_n 0, 1) := by decide +kernel
theorem d_Mpg_check_265 : decode b_Mpg_check 265 = .ok (.aload_n 0, 1) := by decide +kernel
theorem d_Mpg_check_266 : decode b_Mpg_check 266 = .ok (.getfield 216, 3) := by decide +kernel
theorem d_Mpg_check_269 : decode b_Mpg_check 269 = .ok (.iload_n 1, 1) := by decide +kernel
theorem d_Mpg_check_270 : decode b_Mpg_check 270 = .ok (.iaload, 1) := by decide +kernel
theorem d_Mpg_check_271 : decode b_Mpg_check 271 = .ok (.iconst 0, 1) := by decide +kernel
theorem d_Mpg_check_272 : decode b_Mpg_check 272 = .ok (.invokevirtual 577, 3) := by decide +kernel
theorem d_Mpg_check_275 : decode b_Mpg_check 275 = .ok (.istore 7, 2) := by decide +kernel
theorem d_Mpg_check_277 : decode b_Mpg_check 277 = .ok (.aload_n 0, 1) := by decide +kernel
theorem d_Mpg_check_278 : decode b_Mpg_check 278 = .ok (.aload_n 0, 1) := by decide +kernel
theorem d_Mpg_check_279 : decode b_Mpg_check 279 = .ok (.getfield 216, 3) := by decide +kernel
theorem d_Mpg_check_282 : decode b_Mpg_check 282 = .ok (.iload_n 1, 1) := by decide +kernel
theorem d_Mpg_check_283 : decode b_Mpg_check 283 = .ok (.iaload, 1) := by decide +kernel
theorem d_Mpg_check_284 : decode b_Mpg_check 284 = .ok (.iload 7, 2) := by decide +kernel
theorem d_Mpg_check_286 : decode b_Mpg_check 286 = .ok (.invokevirtual 581, 3) := by decide +kernel
theorem d_Mpg_check_289 : decode b_Mpg_check 289 = .ok (.aload_n 0, 1) := by decide +kernel
theorem d_Mpg_check_290 : decode b_Mpg_check 290 = .ok (.aload_n 0, 1) := by decide +kernel
theorem d_Mpg_check_291 : decode b_Mpg_check 291 = .ok (.getfield 219, 3) := by decide +kernel
theorem d_Mpg_check_294 : decode b_Mpg_check 294 = .ok (.iload_n 1, 1) := by decide +kernel
theorem d_Mpg_check_295 : decode b_Mpg_check 295 = .ok (.iaload, 1) := by decide +kernel
theorem d_Mpg_check_296 : decode b_Mpg_check 296 = .ok (.iconst 1, 1) := by decide +kernel
theorem d_Mpg_check_297 : decode b_Mpg_check 297 = .ok (.invokevirtual 577, 3) := by decide +kernel
theorem d_Mpg_check_300 : decode b_Mpg_check 300 = .ok (.pop, 1) := by decide +kernel
theorem d_Mpg_check_301 : decode b_Mpg_check 301 = .ok (.iload_n 2, 1) := by decide +kernel
theorem d_Mpg_check_302 : decode b_Mpg_check 302 = .ok (.ifCond .eq 26, 3) := by decide +kernel
theorem d_Mpg_check_305 : decode b_Mpg_check 305 = .ok (.iload_n 3, 1) := by decide +kernel
theorem d_Mpg_check_306 : decode b_Mpg_check 306 = .ok (.iconst 2, 1) := by decide +kernel
theorem d_Mpg_check_307 : decode b_Mpg_check 307 = .ok (.if_icmp .eq 8, 3) := by decide +kernel
theorem d_Mpg_check_310 : decode b_Mpg_check 310 = .ok (.iload_n 3, 1) := by decide +kernel
theorem d_Mpg_check_311 : decode b_Mpg_check 311 = .ok (.iconst 3, 1) := by decide +kernel
theorem d_Mpg_check_312 : decode b_Mpg_check 312 = .ok (.if_icmp .ne 16, 3) := by decide +kernel
theorem d_Mpg_check_315 : decode b_Mpg_check 315 = .ok (.aload_n 0, 1) := by decide +kernel
theorem d_Mpg_check_316 : decode b_Mpg_check 316 = .ok (.iconst 3, 1) := by decide +kernel
theorem d_Mpg_check_317 : decode b_Mpg_check 317 = .ok (.aload_n 0, 1) := by decide +kernel
theorem d_Mpg_check_318 : decode b_Mpg_check 318 = .ok (.iload_n 1, 1) := by decide +kernel
theorem d_Mpg_check_319 : decode b_Mpg_check 319 = .ok (.invokevirtual 584, 3) := by decide +kernel
theorem d_Mpg_check_322 : decode b_Mpg_check 322 = .ok (.invokevirtual 565, 3) := by decide +kernel
theorem d_Mpg_check_325 : decode b_Mpg_check 325 = .ok (.goto 23, 3) := by decide +kernel
theorem d_Mpg_check_328 : decode b_Mpg_check 328 = .ok (.iload_n 2, 1) := by decide +kernel
theorem d_Mpg_check_329 : decode b_Mpg_check 329 = .ok (.ifCond .eq 19, 3) := by decide +kernel
theorem d_Mpg_check_332 : decode b_Mpg_check 332 = .ok (.iload_n 3, 1) := by decide +kernel
theorem d_Mpg_check_333 : decode b_Mpg_check 333 = .ok (.iconst 4, 1) := by decide +kernel
theorem d_Mpg_check_334 : decode b_Mpg_check 334 = .ok (.if_icmp .ne 14, 3) := by decide +kernel
theorem d_Mpg_check_337 : decode b_Mpg_check 337 = .ok (.aload_n 0, 1) := by decide +kernel
theorem d_Mpg_check_338 : decode b_Mpg_check 338 = .ok (.iconst 5, 1) := by decide +kernel
theorem d_Mpg_check_339 : decode b_Mpg_check 339 = .ok (.aload_n 0, 1) := by decide +kernel
theorem d_Mpg_check_340 : decode b_Mpg_check 340 = .ok (.getfield 210, 3) := by decide +kernel
theorem d_Mpg_check_343 : decode b_Mpg_check 343 = .ok (.iload_n 1, 1) := by decide +kernel
theorem d_Mpg_check_344 : decode b_Mpg_check 344 = .ok (.iaload, 1) := by decide +kernel
theorem d_Mpg_check_345 : decode b_Mpg_check 345 = .ok (.invokevirtual 565, 3) := by decide +kernel
theorem d_Mpg_check_348 : decode b_Mpg_check 348 = .ok (.iload_n 3, 1) := by decide +kernel
theorem d_Mpg_check_349 : decode b_Mpg_check 349 = .ok (.ireturn, 1) := by decide +kernel
theorem q_Mpg_check : px_y y_Mpg_check 2 := by unfold px_y; decide +kernel
def ChkC (l : Launch) (D : va_G) (cs : Nat → ClassId) (d : Nat) : Prop := ∀ (ma0 : Nat → Nat → Int32) (ys : Int) (ns : Int) (nf : Int) (kn : Int) (lo : Int) (hi : Int) (h : Nat) (r : Nat → Nat) (g : Nat → Nat → Option Nat) (tf : Nat → Int32) (ta : Nat → Nat → Int32) (pf : Nat → Int32) (na : Nat → Nat → Int32) (wa : Nat → Nat → Int32) (ca : Nat → Nat → Int32) (ef : Nat → Int32) (ea : Nat → Nat → Int32) (xf : Nat → Int32) (xa : Nat → Nat → Int32) (ma : Nat → Nat → Int32) (cf : Nat → Int32) (p0 p1 : Int32)  (g0 : 0 ≤ lo) (g1 : hi ≤ (pf 13).toInt) (g2 : (pf 13).toInt ≤ 2100) (g3 : (tf 6).toInt ≤ 2049) (g4 : (cf 33).toInt = kn) (g5 : 0 ≤ kn) (g6 : (cf 48).toInt = ns) (g7 : (cf 38).toInt = nf) (g8 : 0 ≤ nf) (g9 : 0 ≤ p1.toInt) (g10 : p1.toInt ≤ 1) (htk : TkI tf ta) (hfs : FsI (tf 6).toInt (pf 13).toInt na) (hwr : WrV cf (tf 6).toInt) (hkt : KnT (tf 6).toInt ca (cf 33).toInt) (hft : FnT (tf 6).toInt na ca (cf 38).toInt) (hks : KnS ca kn ns ys) (hfp : FnP na ca nf) (han : Ann na ma0 ma) (hec : EcV ta (tf 6).toInt na ma0 d lo hi p0), MetI l y_Mpg_check b_Mpg_check 8 (.int) D cs (4 * d + 12) (200 * d + 420) (0) (0) [.ref h, .int p0, .int p1] [wdP cs h r g tf ta pf na ma wa cf ca ef ea xf xa] (oX (fun A U H => (oP A g U H)) [wdP cs h r g tf ta pf na ma wa cf ca ef ea xf xa]) (fun v ps => ∃ (ma' : Nat → Nat → Int32) (cf' : Nat → Int32), (ps = [wdP cs h r g tf ta pf na ma' wa cf' ca ef ea xf xa]) ∧ (KpE cf cf') ∧ (WrV cf' (tf 6).toInt) ∧ ((cf' 33).toInt = (cf 33).toInt) ∧ ((cf' 38).toInt = (cf 38).toInt) ∧ ((cf' 48).toInt = (cf 48).toInt) ∧ ((cf' 46).toInt = (cf 46).toInt) ∧ ((cf' 47).toInt = (cf 47).toInt) ∧ ((cf' 57).toInt = (cf 57).toInt) ∧ (Ann na ma0 ma') ∧ (FrC lo hi ma ma') ∧ (0 ≤ v.toInt) ∧ (v.toInt ≤ 4) ∧ (NmJ ta ca na ma' kn p0 v.toInt) ∧ (ZTy cf' (Gk ta ca na ma0 ns ys nf) na ma' lo hi p0 v.toInt) ∧ (ZNm cf' p1.toInt v.toInt))
abbrev b_Mpg_checkArgument : ByteArray := prog_16_method_80_code
def y_Mpg_checkArgument : MethodName := ⟨"HomeSystemModel$Program", "checkArgument", "(II)V"⟩
theorem d_Mpg_checkArgument_0 : decode b_Mpg_checkArgument 0 = .ok (.iload_n 2, 1) := by decide +kernel
theorem d_Mpg_checkArgument_1 : decode b_Mpg_checkArgument 1 = .ok (.bipush 105, 2) := by decide +kernel
theorem d_Mpg_checkArgument_3 : decode b_Mpg_checkArgument 3 = .ok (.if_icmp .ne 13, 3) := by decide +kernel
theorem d_Mpg_checkArgument_6 : decode b_Mpg_checkArgument 6 = .ok (.aload_n 0, 1) := by decide +kernel
theorem d_Mpg_checkArgument_7 : decode b_Mpg_checkArgument 7 = .ok (.iload_n 1, 1) := by decide +kernel
theorem d_Mpg_checkArgument_8 : decode b_Mpg_checkArgument 8 = .ok (.iconst 1, 1) := by decide +kernel
theorem d_Mpg_checkArgument_9 : decode b_Mpg_checkArgument 9 = .ok (.invokevirtual 577, 3) := by decide +kernel
theorem d_Mpg_checkArgument_12 : decode b_Mpg_checkArgument 12 = .ok (.pop, 1) := by decide +kernel
theorem d_Mpg_checkArgument_13 : decode b_Mpg_checkArgument 13 = .ok (.goto 79, 3) := by decide +kernel
theorem d_Mpg_checkArgument_16 : decode b_Mpg_checkArgument 16 = .ok (.iload_n 2, 1) := by decide +kernel
theorem d_Mpg_checkArgument_17 : decode b_Mpg_checkArgument 17 = .ok (.bipush 107, 2) := by decide +kernel
theorem d_Mpg_checkArgument_19 : decode b_Mpg_checkArgument 19 = .ok (.if_icmp .ne 12, 3) := by decide +kernel
theorem d_Mpg_checkArgument_31 : decode b_Mpg_checkArgument 31 = .ok (.aload_n 0, 1) := by decide +kernel
theorem d_Mpg_checkArgument_32 : decode b_Mpg_checkArgument 32 = .ok (.iload_n 1, 1) := by decide +kernel
theorem d_Mpg_checkArgument_33 : decode b_Mpg_checkArgument 33 = .ok (.iconst 0, 1) := by decide +kernel
theorem d_Mpg_checkArgument_34 : decode b_Mpg_checkArgument 34 = .ok (.invokevirtual 577, 3) := by decide +kernel
theorem d_Mpg_checkArgument_37 : decode b_Mpg_checkArgument 37 = .ok (.istore_n 3, 1) := by decide +kernel
theorem d_Mpg_checkArgument_38 : decode b_Mpg_checkArgument 38 = .ok (.iload_n 2, 1) := by decide +kernel
theorem d_Mpg_checkArgument_39 : decode b_Mpg_checkArgument 39 = .ok (.bipush 32, 2) := by decide +kernel
theorem d_Mpg_checkArgument_41 : decode b_Mpg_checkArgument 41 = .ok (.if_icmp .eq 29, 3) := by decide +kernel
theorem d_Mpg_checkArgument_44 : decode b_Mpg_checkArgument 44 = .ok (.iload_n 3, 1) := by decide +kernel
theorem d_Mpg_checkArgument_45 : decode b_Mpg_checkArgument 45 = .ok (.ifCond .eq 25, 3) := by decide +kernel
theorem d_Mpg_checkArgument_48 : decode b_Mpg_checkArgument 48 = .ok (.iload_n 3, 1) := by decide +kernel
theorem d_Mpg_checkArgument_49 : decode b_Mpg_checkArgument 49 = .ok (.iconst 2, 1) := by decide +kernel
theorem d_Mpg_checkArgument_50 : decode b_Mpg_checkArgument 50 = .ok (.if_icmp .ne 9, 3) := by decide +kernel
theorem d_Mpg_checkArgument_53 : decode b_Mpg_checkArgument 53 = .ok (.iload_n 2, 1) := by decide +kernel
theorem d_Mpg_checkArgument_54 : decode b_Mpg_checkArgument 54 = .ok (.bipush 99, 2) := by decide +kernel
theorem d_Mpg_checkArgument_56 : decode b_Mpg_checkArgument 56 = .ok (.if_icmp .ne 14, 3) := by decide +kernel
theorem d_Mpg_checkArgument_59 : decode b_Mpg_checkArgument 59 = .ok (.iload_n 3, 1) := by decide +kernel
theorem d_Mpg_checkArgument_60 : decode b_Mpg_checkArgument 60 = .ok (.iconst 3, 1) := by decide +kernel
theorem d_Mpg_checkArgument_61 : decode b_Mpg_checkArgument 61 = .ok (.if_icmp .ne 13, 3) := by decide +kernel
theorem d_Mpg_checkArgument_64 : decode b_Mpg_checkArgument 64 = .ok (.iload_n 2, 1) := by decide +kernel
theorem d_Mpg_checkArgument_65 : decode b_Mpg_checkArgument 65 = .ok (.bipush 115, 2) := by decide +kernel
theorem d_Mpg_checkArgument_67 : decode b_Mpg_checkArgument 67 = .ok (.if_icmp .eq 7, 3) := by decide +kernel
theorem d_Mpg_checkArgument_70 : decode b_Mpg_checkArgument 70 = .ok (.iconst 1, 1) := by decide +kernel
theorem d_Mpg_checkArgument_71 : decode b_Mpg_checkArgument 71 = .ok (.goto 4, 3) := by decide +kernel
theorem d_Mpg_checkArgument_74 : decode b_Mpg_checkArgument 74 = .ok (.iconst 0, 1) := by decide +kernel
theorem d_Mpg_checkArgument_75 : decode b_Mpg_checkArgument 75 = .ok (.istore 4, 2) := by decide +kernel
theorem d_Mpg_checkArgument_77 : decode b_Mpg_checkArgument 77 = .ok (.iload 4, 2) := by decide +kernel
theorem d_Mpg_checkArgument_79 : decode b_Mpg_checkArgument 79 = .ok (.ifCond .ne 13, 3) := by decide +kernel
theorem d_Mpg_checkArgument_82 : decode b_Mpg_checkArgument 82 = .ok (.aload_n 0, 1) := by decide +kernel
theorem d_Mpg_checkArgument_83 : decode b_Mpg_checkArgument 83 = .ok (.iconst 3, 1) := by decide +kernel
theorem d_Mpg_checkArgument_84 : decode b_Mpg_checkArgument 84 = .ok (.aload_n 0, 1) := by decide +kernel
theorem d_Mpg_checkArgument_85 : decode b_Mpg_checkArgument 85 = .ok (.iload_n 1, 1) := by decide +kernel
theorem d_Mpg_checkArgument_86 : decode b_Mpg_checkArgument 86 = .ok (.invokevirtual 584, 3) := by decide +kernel
theorem d_Mpg_checkArgument_89 : decode b_Mpg_checkArgument 89 = .ok (.invokevirtual 565, 3) := by decide +kernel
theorem d_Mpg_checkArgument_92 : decode b_Mpg_checkArgument 92 = .ok (.return_, 1) := by decide +kernel
theorem q_Mpg_checkArgument : px_y y_Mpg_checkArgument 2 := by unfold px_y; decide +kernel
set_option maxHeartbeats 4000000 in
set_option maxRecDepth 100000 in
theorem c_mp_checkArgument (l : Launch) (D : va_G) (cs : Nat → ClassId) (ma0 : Nat → Nat → Int32) (ys : Int) (ns : Int) (nf : Int) (kn : Int) (d : Nat) (lo : Int) (hi : Int) (h : Nat) (r : Nat → Nat) (g : Nat → Nat → Option Nat) (tf : Nat → Int32) (ta : Nat → Nat → Int32) (pf : Nat → Int32) (na : Nat → Nat → Int32) (wa : Nat → Nat → Int32) (ca : Nat → Nat → Int32) (ef : Nat → Int32) (ea : Nat → Nat → Int32) (xf : Nat → Int32) (xa : Nat → Nat → Int32) (ma : Nat → Nat → Int32) (cf : Nat → Int32) (p0 p1 : Int32)  (g0 : 0 ≤ lo) (g1 : hi ≤ (pf 13).toInt) (g2 : (pf 13).toInt ≤ 2100) (g3 : (tf 6).toInt ≤ 2049) (g4 : (cf 33).toInt = kn) (g5 : 0 ≤ kn) (g6 : (cf 48).toInt = ns) (g7 : (cf 38).toInt = nf) (g8 : 0 ≤ nf) (g9 : p1.toInt = 32 ∨ p1.toInt = 105 ∨ p1.toInt = 115 ∨ p1.toInt = 97 ∨ p1.toInt = 99) (htk : TkI tf ta) (hfs : FsI (tf 6).toInt (pf 13).toInt na) (hwr : WrV cf (tf 6).toInt) (hkt : KnT (tf 6).toInt ca (cf 33).toInt) (hft : FnT (tf 6).toInt na ca (cf 38).toInt) (hks : KnS ca kn ns ys) (hfp : FnP na ca nf) (han : Ann na ma0 ma) (hec : EcV ta (tf 6).toInt na ma0 d lo hi p0) (hLC : ChkC l D cs d) : MetV l y_Mpg_checkArgument b_Mpg_checkArgument 5 D cs (4 * d + 13) (200 * d + 470) (0) (0) [.ref h, .int p0, .int p1] [wdP cs h r g tf ta pf na ma wa cf ca ef ea xf xa] (oX (fun A U H => (oP A g U H)) [wdP cs h r g tf ta pf na ma wa cf ca ef ea xf xa]) (fun ps => ∃ (ma' : Nat → Nat → Int32) (cf' : Nat → Int32), (ps = [wdP cs h r g tf ta pf na ma' wa cf' ca ef ea xf xa]) ∧ (KpE cf cf') ∧ (WrV cf' (tf 6).toInt) ∧ ((cf' 33).toInt = (cf 33).toInt) ∧ ((cf' 38).toInt = (cf 38).toInt) ∧ ((cf' 48).toInt = (cf 48).toInt) ∧ ((cf' 46).toInt = (cf 46).toInt) ∧ ((cf' 47).toInt = (cf 47).toInt) ∧ ((cf' 57).toInt = (cf 57).toInt) ∧ (Ann na ma0 ma') ∧ (FrC lo hi ma ma') ∧ (ZAr cf' (Gk ta ca na ma0 ns ys nf) na ma' lo hi p0 p1.toInt)) := by
  refine px_enter (by decide) (Nat.le_of_ble_eq_true rfl) ?_
  intro p e s m below meth c A ls hAe S hr hlk hnm hA hT hX hw hl
  have hl : lv_has ls 5 [(0, .ref h), (1, .int p0), (2, .int p1)] := hl
  have lp0 := Int32.le_toInt p0
  have up0 := Int32.toInt_lt p0
  have lp1 := Int32.le_toInt p1
  have up1 := Int32.toInt_lt p1
  have cst0 : (0 : Int32).toInt = 0 := rfl
  have cst1 : (1 : Int32).toInt = 1 := rfl
  have cst2 : (2 : Int32).toInt = 2 := rfl
  have cst3 : (3 : Int32).toInt = 3 := rfl
  have cst32 : (32 : Int32).toInt = 32 := rfl
  have cst99 : (99 : Int32).toInt = 99 := rfl
  have cst105 : (105 : Int32).toInt = 105 := rfl
  have cst107 : (107 : Int32).toInt = 107 := rfl
  have cst115 : (115 : Int32).toInt = 115 := rfl
  have hX : (fun A U H => (oP A g U H)) A s s.heap := by rw [hAe]; exact hX
  have hP := hX
  have hZ := hP.1
  have hF0 := hP.2.1
  have hke : KpE cf cf := KpE.rf
  have hfc : FrC lo hi ma ma := FrC.rf
  have hwr0 := hwr.1
  have hk11 := hkt.1
  have hf11 := hft.1
  have hec_p0 := hec
  have hrg := EcV.rng hec
  refine lv_iload_n S.x S.b d_Mpg_checkArgument_0 rfl (lv_at hl 2 rfl) ?_
  refine lv_bipush (v := 105) S.x S.b d_Mpg_checkArgument_1 (by decide) ?_
  refine lv_icmp_ne (tgt := 16) S.x S.b d_Mpg_checkArgument_3 (by decide) (fun c1 => ?_) (fun c1 => ?_)
  · have nc1 : ¬ p1.toInt = (105 : Int) := mt (i_eq (x := p1) (y := 105)).mpr c1
    refine lv_iload_n S.x S.b d_Mpg_checkArgument_16 rfl (lv_at hl 2 rfl) ?_
    refine lv_bipush (v := 107) S.x S.b d_Mpg_checkArgument_17 (by decide) ?_
    refine lv_icmp_ne (tgt := 31) S.x S.b d_Mpg_checkArgument_19 (by decide) (fun c2 => ?_) (fun c2 => ?_)
    · have nc2 : ¬ p1.toInt = (107 : Int) := mt (i_eq (x := p1) (y := 107)).mpr c2
      refine lv_aload_n S.x S.b d_Mpg_checkArgument_31 rfl (lv_at hl 0 rfl) ?_
      refine lv_iload_n S.x S.b d_Mpg_checkArgument_32 rfl (lv_at hl 1 rfl) ?_
      refine lv_iconst (v := 0) S.x S.b d_Mpg_checkArgument_33 (by decide) ?_
      refine px_calli (pr := []) (px_runV (As := [.int p0, .int 0]) (rest := []) S (hLC ma0 ys ns nf kn lo hi h r g tf ta pf na wa ca ef ea xf xa ma cf p0 0 (show 0 ≤ lo from by first | exact g0 | omega) (show hi ≤ (pf 13).toInt from by first | exact g1 | omega) (show (pf 13).toInt ≤ 2100 from by first | exact g2 | omega) (show (tf 6).toInt ≤ 2049 from by first | exact g3 | omega) (show (cf 33).toInt = kn from by first | exact g4 | omega) (show 0 ≤ kn from by first | exact g5 | omega) (show (cf 48).toInt = ns from by first | exact g6 | omega) (show (cf 38).toInt = nf from by first | exact g7 | omega) (show 0 ≤ nf from by first | exact g8 | omega) (show 0 ≤ (0 : Int) from by first | decide | omega) (show (0 : Int) ≤ 1 from by first | decide | omega) htk (FsI.le (N' := (pf 13).toInt) hfs (by first | with_reducible rfl | with_reducible assumption | omega)) hwr (KnT.eq hkt (by first | with_reducible rfl | with_reducible assumption | omega)) (FnT.eq hft (by first | with_reducible rfl | with_reducible assumption | omega)) hks hfp han hec_p0 _) hT (pr := []) (pcs := [wdP cs h r g tf ta pf na ma wa cf ca ef ea xf xa]) hw (oX_call (P := (fun A U H => (oP A g U H))) (pr := []) oG_P hw hA hP) (px_recv hT hw 0 0 rfl rfl rfl) m12_217 m12_214 m12_216 ms_12_7 m1_21 q_Mpg_check ⟨show (4 * d + 12) + 1 ≤ (4 * d + 13) from by first | with_reducible rfl | with_reducible assumption | omega, show 8 + (8 + 11) + (200 * d + 420) ≤ (200 * d + 470) from by first | with_reducible rfl | with_reducible assumption | omega⟩ hl.1 rfl (Nat.le_of_ble_eq_true rfl) d_Mpg_checkArgument_34 ⟨Nat.le_of_ble_eq_true rfl, Nat.le_of_ble_eq_true rfl⟩) hw hA (fun v8 p7 H locs hp7 hw => ?_)
      obtain ⟨ma5, cf6, rfl, e9, e10, e11, e12, e13, e14, e15, e16, e17, e18, e19, e20, e21, e22, e23⟩ := hp7
      have e9 : KpE cf cf6 := e9
      have hke := (hke).tr e9
      have hkz_e9 := e9.2
      have e10 : WrV cf6 (tf 6).toInt := e10
      have hwr := e10
      have hw0_e10 := hwr.1
      have e11 : (cf6 33).toInt = (cf 33).toInt := e11
      have e12 : (cf6 38).toInt = (cf 38).toInt := e12
      have e13 : (cf6 48).toInt = (cf 48).toInt := e13
      have e14 : (cf6 46).toInt = (cf 46).toInt := e14
      have e15 : (cf6 47).toInt = (cf 47).toInt := e15
      have e16 : (cf6 57).toInt = (cf 57).toInt := e16
      have e17 : Ann na ma0 ma5 := e17
      have han := e17
      have e18 : FrC lo hi ma ma5 := e18
      have hfc := hfc.tr e18 (by first | with_reducible rfl | with_reducible assumption | omega) (by first | with_reducible rfl | with_reducible assumption | omega)
      have e19 : 0 ≤ v8.toInt := e19
      have e20 : v8.toInt ≤ 4 := e20
      have e21 : NmJ ta ca na ma5 kn p0 v8.toInt := e21
      have hnm_p0 := e21
      have e22 : ZTy cf6 (Gk ta ca na ma0 ns ys nf) na ma5 lo hi p0 v8.toInt := e22
      have hzt_p0 := e22
      have e23 : ZNm cf6 (0 : Int) v8.toInt := e23
      have hw : pw D A s.heap H locs [wdP cs h r g tf ta pf na ma5 wa cf6 ca ef ea xf xa] := hw
      have lv8 := Int32.le_toInt v8
      have uv8 := Int32.toInt_lt v8
      refine lv_istore_n (lv' := [(3, .int v8), (0, .ref h), (1, .int p0), (2, .int p1)]) S.x S.b d_Mpg_checkArgument_37 rfl hl (by decide) rfl (fun ls hl => ?_)
      refine lv_iload_n S.x S.b d_Mpg_checkArgument_38 rfl (lv_at hl 3 rfl) ?_
      refine lv_bipush (v := 32) S.x S.b d_Mpg_checkArgument_39 (by decide) ?_
      refine lv_icmp_eq (tgt := 70) S.x S.b d_Mpg_checkArgument_41 (by decide) (fun c24 => ?_) (fun c24 => ?_)
      · have nc24 : p1.toInt = (32 : Int) := (i_eq (x := p1) (y := 32)).mp c24
        refine lv_iconst (v := 1) S.x S.b d_Mpg_checkArgument_70 (by decide) ?_
        refine lv_goto (tgt := 75) S.x S.b d_Mpg_checkArgument_71 (by decide) ?_
        refine lv_istore (lv' := [(4, .int 1), (3, .int v8), (0, .ref h), (1, .int p0), (2, .int p1)]) S.x S.b d_Mpg_checkArgument_75 hl (by decide) rfl (fun ls hl => ?_)
        refine lv_iload S.x S.b d_Mpg_checkArgument_77 (lv_at hl 0 rfl) ?_
        refine lv_if_ne (tgt := 92) S.x S.b d_Mpg_checkArgument_79 (by decide) (fun c25 => ?_) (fun c25 => ?_)
        ·
          exact px_vret S hr hlk hAe hw (Nat.le_of_ble_eq_true rfl) (Nat.le_of_ble_eq_true rfl) (⟨ma5, cf6, rfl, (show KpE cf cf6 from hke), (show WrV cf6 (tf 6).toInt from hwr), (show (cf6 33).toInt = (cf 33).toInt from by first | exact e11 | omega), (show (cf6 38).toInt = (cf 38).toInt from by first | exact e12 | omega), (show (cf6 48).toInt = (cf 48).toInt from by first | exact e13 | omega), (show (cf6 46).toInt = (cf 46).toInt from by first | exact e14 | omega), (show (cf6 47).toInt = (cf 47).toInt from by first | exact e15 | omega), (show (cf6 57).toInt = (cf 57).toInt from by first | exact e16 | omega), (show Ann na ma0 ma5 from han), (show FrC lo hi ma ma5 from hfc), (show ZAr cf6 (Gk ta ca na ma0 ns ys nf) na ma5 lo hi p0 p1.toInt from (zar_mk hzt_p0 (by first | with_reducible rfl | with_reducible assumption | omega) (by first | with_reducible rfl | with_reducible assumption | omega)))⟩) d_Mpg_checkArgument_92
        · exact absurd c25 (by decide)
      · have nc24 : ¬ p1.toInt = (32 : Int) := mt (i_eq (x := p1) (y := 32)).mpr c24
        refine lv_iload_n S.x S.b d_Mpg_checkArgument_44 rfl (lv_at hl 0 rfl) ?_
        refine lv_if_eq (tgt := 70) S.x S.b d_Mpg_checkArgument_45 (by decide) (fun c26 => ?_) (fun c26 => ?_)
        · have nc26 : v8.toInt = (0 : Int) := (i_eq (x := v8) (y := 0)).mp c26
          refine lv_iconst (v := 1) S.x S.b d_Mpg_checkArgument_70 (by decide) ?_
          refine lv_goto (tgt := 75) S.x S.b d_Mpg_checkArgument_71 (by decide) ?_
          refine lv_istore (lv' := [(4, .int 1), (3, .int v8), (0, .ref h), (1, .int p0), (2, .int p1)]) S.x S.b d_Mpg_checkArgument_75 hl (by decide) rfl (fun ls hl => ?_)
          refine lv_iload S.x S.b d_Mpg_checkArgument_77 (lv_at hl 0 rfl) ?_
          refine lv_if_ne (tgt := 92) S.x S.b d_Mpg_checkArgument_79 (by decide) (fun c27 => ?_) (fun c27 => ?_)
          ·
            exact px_vret S hr hlk hAe hw (Nat.le_of_ble_eq_true rfl) (Nat.le_of_ble_eq_true rfl) (⟨ma5, cf6, rfl, (show KpE cf cf6 from hke), (show WrV cf6 (tf 6).toInt from hwr), (show (cf6 33).toInt = (cf 33).toInt from by first | exact e11 | omega), (show (cf6 38).toInt = (cf 38).toInt from by first | exact e12 | omega), (show (cf6 48).toInt = (cf 48).toInt from by first | exact e13 | omega), (show (cf6 46).toInt = (cf 46).toInt from by first | exact e14 | omega), (show (cf6 47).toInt = (cf 47).toInt from by first | exact e15 | omega), (show (cf6 57).toInt = (cf 57).toInt from by first | exact e16 | omega), (show Ann na ma0 ma5 from han), (show FrC lo hi ma ma5 from hfc), (show ZAr cf6 (Gk ta ca na ma0 ns ys nf) na ma5 lo hi p0 p1.toInt from (zar_mk hzt_p0 (by first | with_reducible rfl | with_reducible assumption | omega) (by first | with_reducible rfl | with_reducible assumption | omega)))⟩) d_Mpg_checkArgument_92
          · exact absurd c27 (by decide)
        · have nc26 : ¬ v8.toInt = (0 : Int) := mt (i_eq (x := v8) (y := 0)).mpr c26
          refine lv_iload_n S.x S.b d_Mpg_checkArgument_48 rfl (lv_at hl 0 rfl) ?_
          refine lv_iconst (v := 2) S.x S.b d_Mpg_checkArgument_49 (by decide) ?_
          refine lv_icmp_ne (tgt := 59) S.x S.b d_Mpg_checkArgument_50 (by decide) (fun c28 => ?_) (fun c28 => ?_)
          · have nc28 : ¬ v8.toInt = (2 : Int) := mt (i_eq (x := v8) (y := 2)).mpr c28
            refine lv_iload_n S.x S.b d_Mpg_checkArgument_59 rfl (lv_at hl 0 rfl) ?_
            refine lv_iconst (v := 3) S.x S.b d_Mpg_checkArgument_60 (by decide) ?_
            refine lv_icmp_ne (tgt := 74) S.x S.b d_Mpg_checkArgument_61 (by decide) (fun c29 => ?_) (fun c29 => ?_)
            · have nc29 : ¬ v8.toInt = (3 : Int) := mt (i_eq (x := v8) (y := 3)).mpr c29
              refine lv_iconst (v := 0) S.x S.b d_Mpg_checkArgument_74 (by decide) ?_
              refine lv_istore (lv' := [(4, .int 0), (3, .int v8), (0, .ref h), (1, .int p0), (2, .int p1)]) S.x S.b d_Mpg_checkArgument_75 hl (by decide) rfl (fun ls hl => ?_)
              refine lv_iload S.x S.b d_Mpg_checkArgument_77 (lv_at hl 0 rfl) ?_
              refine lv_if_ne (tgt := 92) S.x S.b d_Mpg_checkArgument_79 (by decide) (fun c30 => ?_) (fun c30 => ?_)
              · exact absurd c30 (by decide)
              ·
                refine lv_aload_n S.x S.b d_Mpg_checkArgument_82 rfl (lv_at hl 2 rfl) ?_
                refine lv_iconst (v := 3) S.x S.b d_Mpg_checkArgument_83 (by decide) ?_
                refine lv_aload_n S.x S.b d_Mpg_checkArgument_84 rfl (lv_at hl 2 rfl) ?_
                refine lv_iload_n S.x S.b d_Mpg_checkArgument_85 rfl (lv_at hl 3 rfl) ?_
                refine px_calli (pr := []) (px_runV (As := [.int p0]) (rest := [.int 3, .ref h]) S (c_mp_first l D cs h r g tf ta pf na ma5 wa cf6 ca ef ea xf xa p0  (show 0 ≤ p0.toInt from by first | exact hrg.2.2 | omega) (show p0.toInt < (pf 13).toInt from by first | exact oz_7319c2f99d g1 hrg.2.1 | omega) (show (pf 13).toInt ≤ 2100 from by first | exact g2 | omega) htk (FsI.le (N' := (pf 13).toInt) hfs (by first | with_reducible rfl | with_reducible assumption | omega)) _) hT (pr := []) (pcs := [wdP cs h r g tf ta pf na ma5 wa cf6 ca ef ea xf xa]) hw px_X.tt (px_recv hT hw 0 0 rfl rfl rfl) m13_9 m13_6 m13_8 ms_12_15 m1_21 q_Mpg_first ⟨show 0 + 1 ≤ (4 * d + 13) from by first | with_reducible rfl | with_reducible assumption | omega, show 8 + (2 + 11) + 0 ≤ (200 * d + 470) from by first | with_reducible rfl | with_reducible assumption | omega⟩ hl.1 rfl (Nat.le_of_ble_eq_true rfl) d_Mpg_checkArgument_86 ⟨Nat.le_of_ble_eq_true rfl, Nat.le_of_ble_eq_true rfl⟩) hw hA (fun v32 p31 H locs hp31 hw => ?_)
                obtain ⟨rfl, e33, e34⟩ := hp31
                have e33 : 0 ≤ v32.toInt := e33
                have e34 : v32.toInt < (tf 6).toInt := e34
                have hw : pw D A s.heap H locs [wdP cs h r g tf ta pf na ma5 wa cf6 ca ef ea xf xa] := hw
                have lv32 := Int32.le_toInt v32
                have uv32 := Int32.toInt_lt v32
                refine px_callv (pr := []) (px_runV (As := [.int 3, .int v32]) (rest := []) S (c_mp_bad l D cs h r g tf ta pf na ma5 wa ca ef ea xf xa cf6 3 v32  (show 1 ≤ (3 : Int) from by first | decide | omega) (show 0 ≤ v32.toInt from by first | exact e33 | omega) (show v32.toInt < (tf 6).toInt from by first | exact e34 | omega) htk hwr _) hT (pr := []) (pcs := [wdP cs h r g tf ta pf na ma5 wa cf6 ca ef ea xf xa]) hw px_X.tt (px_recv hT hw 0 0 rfl rfl rfl) m12_173 m12_170 m12_172 ms_11_12 m1_21 q_Mpg_bad ⟨show 0 + 1 ≤ (4 * d + 13) from by first | with_reducible rfl | with_reducible assumption | omega, show 8 + (3 + 11) + 0 ≤ (200 * d + 470) from by first | with_reducible rfl | with_reducible assumption | omega⟩ hl.1 rfl (Nat.le_of_ble_eq_true rfl) d_Mpg_checkArgument_89 ⟨Nat.le_of_ble_eq_true rfl, Nat.le_of_ble_eq_true rfl⟩) hw hA (fun p37 H locs hp37 hw => ?_)
                obtain ⟨cf36, rfl, e39, e40, e41, e42, e43, e44, e45, e46, e47, e48, e49, e50, e51, e52, e53, e54, e55, e56, e57⟩ := hp37
                have e39 : KpE cf6 cf36 := e39
                have hke := (hke).tr e39
                have hkz_e39 := e39.2
                have hzt_p0 := Zr.kp hzt_p0 e39 id
                have e40 : WrV cf36 (tf 6).toInt := e40
                have hwr := e40
                have hw0_e40 := hwr.1
                have e41 : 1 ≤ (cf36 30).toInt := e41
                have e42 : (cf36 33).toInt = (cf6 33).toInt := e42
                have e43 : (cf36 38).toInt = (cf6 38).toInt := e43
                have e44 : (cf36 48).toInt = (cf6 48).toInt := e44
                have e45 : (cf36 46).toInt = (cf6 46).toInt := e45
                have e46 : (cf36 47).toInt = (cf6 47).toInt := e46
                have e47 : (cf36 57).toInt = (cf6 57).toInt := e47
                have e48 : (cf36 37).toInt = (cf6 37).toInt := e48
                have e49 : (cf36 42).toInt = (cf6 42).toInt := e49
                have e50 : (cf36 43).toInt = (cf6 43).toInt := e50
                have e51 : (cf36 44).toInt = (cf6 44).toInt := e51
                have e52 : (cf36 45).toInt = (cf6 45).toInt := e52
                have e53 : (cf36 54).toInt = (cf6 54).toInt := e53
                have e54 : (cf36 55).toInt = (cf6 55).toInt := e54
                have e55 : (cf36 58).toInt = (cf6 58).toInt := e55
                have e56 : (cf36 59).toInt = (cf6 59).toInt := e56
                have e57 : (cf36 41).toInt = (cf6 41).toInt := e57
                have hw : pw D A s.heap H locs [wdP cs h r g tf ta pf na ma5 wa cf36 ca ef ea xf xa] := hw
                exact px_vret S hr hlk hAe hw (Nat.le_of_ble_eq_true rfl) (Nat.le_of_ble_eq_true rfl) (⟨ma5, cf36, rfl, (show KpE cf cf36 from hke), (show WrV cf36 (tf 6).toInt from hwr), (show (cf36 33).toInt = (cf 33).toInt from by first | exact oz_1687f4cc65 e11 e42 | omega), (show (cf36 38).toInt = (cf 38).toInt from by first | exact oz_1687f4cc65 e12 e43 | omega), (show (cf36 48).toInt = (cf 48).toInt from by first | exact oz_1687f4cc65 e13 e44 | omega), (show (cf36 46).toInt = (cf 46).toInt from by first | exact oz_1687f4cc65 e14 e45 | omega), (show (cf36 47).toInt = (cf 47).toInt from by first | exact oz_1687f4cc65 e15 e46 | omega), (show (cf36 57).toInt = (cf 57).toInt from by first | exact oz_1687f4cc65 e16 e47 | omega), (show Ann na ma0 ma5 from han), (show FrC lo hi ma ma5 from hfc), (show ZAr cf36 (Gk ta ca na ma0 ns ys nf) na ma5 lo hi p0 p1.toInt from (zr_no (by first | with_reducible rfl | with_reducible assumption | omega)))⟩) d_Mpg_checkArgument_92
            · have nc29 : v8.toInt = (3 : Int) := (i_eq (x := v8) (y := 3)).mp c29
              refine lv_iload_n S.x S.b d_Mpg_checkArgument_64 rfl (lv_at hl 3 rfl) ?_
              refine lv_bipush (v := 115) S.x S.b d_Mpg_checkArgument_65 (by decide) ?_
              refine lv_icmp_eq (tgt := 74) S.x S.b d_Mpg_checkArgument_67 (by decide) (fun c58 => ?_) (fun c58 => ?_)
              · have nc58 : p1.toInt = (115 : Int) := (i_eq (x := p1) (y := 115)).mp c58
                refine lv_iconst (v := 0) S.x S.b d_Mpg_checkArgument_74 (by decide) ?_
                refine lv_istore (lv' := [(4, .int 0), (3, .int v8), (0, .ref h), (1, .int p0), (2, .int p1)]) S.x S.b d_Mpg_checkArgument_75 hl (by decide) rfl (fun ls hl => ?_)
                refine lv_iload S.x S.b d_Mpg_checkArgument_77 (lv_at hl 0 rfl) ?_
                refine lv_if_ne (tgt := 92) S.x S.b d_Mpg_checkArgument_79 (by decide) (fun c59 => ?_) (fun c59 => ?_)
                · exact absurd c59 (by decide)
                ·
                  refine lv_aload_n S.x S.b d_Mpg_checkArgument_82 rfl (lv_at hl 2 rfl) ?_
                  refine lv_iconst (v := 3) S.x S.b d_Mpg_checkArgument_83 (by decide) ?_
                  refine lv_aload_n S.x S.b d_Mpg_checkArgument_84 rfl (lv_at hl 2 rfl) ?_
                  refine lv_iload_n S.x S.b d_Mpg_checkArgument_85 rfl (lv_at hl 3 rfl) ?_
                  refine px_calli (pr := []) (px_runV (As := [.int p0]) (rest := [.int 3, .ref h]) S (c_mp_first l D cs h r g tf ta pf na ma5 wa cf6 ca ef ea xf xa p0  (show 0 ≤ p0.toInt from by first | exact hrg.2.2 | omega) (show p0.toInt < (pf 13).toInt from by first | exact oz_7319c2f99d g1 hrg.2.1 | omega) (show (pf 13).toInt ≤ 2100 from by first | exact g2 | omega) htk (FsI.le (N' := (pf 13).toInt) hfs (by first | with_reducible rfl | with_reducible assumption | omega)) _) hT (pr := []) (pcs := [wdP cs h r g tf ta pf na ma5 wa cf6 ca ef ea xf xa]) hw px_X.tt (px_recv hT hw 0 0 rfl rfl rfl) m13_9 m13_6 m13_8 ms_12_15 m1_21 q_Mpg_first ⟨show 0 + 1 ≤ (4 * d + 13) from by first | with_reducible rfl | with_reducible assumption | omega, show 8 + (2 + 11) + 0 ≤ (200 * d + 470) from by first | with_reducible rfl | with_reducible assumption | omega⟩ hl.1 rfl (Nat.le_of_ble_eq_true rfl) d_Mpg_checkArgument_86 ⟨Nat.le_of_ble_eq_true rfl, Nat.le_of_ble_eq_true rfl⟩) hw hA (fun v61 p60 H locs hp60 hw => ?_)
                  obtain ⟨rfl, e62, e63⟩ := hp60
                  have e62 : 0 ≤ v61.toInt := e62
                  have e63 : v61.toInt < (tf 6).toInt := e63
                  have hw : pw D A s.heap H locs [wdP cs h r g tf ta pf na ma5 wa cf6 ca ef ea xf xa] := hw
                  have lv61 := Int32.le_toInt v61
                  have uv61 := Int32.toInt_lt v61
                  refine px_callv (pr := []) (px_runV (As := [.int 3, .int v61]) (rest := []) S (c_mp_bad l D cs h r g tf ta pf na ma5 wa ca ef ea xf xa cf6 3 v61  (show 1 ≤ (3 : Int) from by first | decide | omega) (show 0 ≤ v61.toInt from by first | exact e62 | omega) (show v61.toInt < (tf 6).toInt from by first | exact e63 | omega) htk hwr _) hT (pr := []) (pcs := [wdP cs h r g tf ta pf na ma5 wa cf6 ca ef ea xf xa]) hw px_X.tt (px_recv hT hw 0 0 rfl rfl rfl) m12_173 m12_170 m12_172 ms_11_12 m1_21 q_Mpg_bad ⟨show 0 + 1 ≤ (4 * d + 13) from by first | with_reducible rfl | with_reducible assumption | omega, show 8 + (3 + 11) + 0 ≤ (200 * d + 470) from by first | with_reducible rfl | with_reducible assumption | omega⟩ hl.1 rfl (Nat.le_of_ble_eq_true rfl) d_Mpg_checkArgument_89 ⟨Nat.le_of_ble_eq_true rfl, Nat.le_of_ble_eq_true rfl⟩) hw hA (fun p66 H locs hp66 hw => ?_)
                  obtain ⟨cf65, rfl, e68, e69, e70, e71, e72, e73, e74, e75, e76, e77, e78, e79, e80, e81, e82, e83, e84, e85, e86⟩ := hp66
                  have e68 : KpE cf6 cf65 := e68
                  have hke := (hke).tr e68
                  have hkz_e68 := e68.2
                  have hzt_p0 := Zr.kp hzt_p0 e68 id
                  have e69 : WrV cf65 (tf 6).toInt := e69
                  have hwr := e69
                  have hw0_e69 := hwr.1
                  have e70 : 1 ≤ (cf65 30).toInt := e70
                  have e71 : (cf65 33).toInt = (cf6 33).toInt := e71
                  have e72 : (cf65 38).toInt = (cf6 38).toInt := e72
                  have e73 : (cf65 48).toInt = (cf6 48).toInt := e73
                  have e74 : (cf65 46).toInt = (cf6 46).toInt := e74
                  have e75 : (cf65 47).toInt = (cf6 47).toInt := e75
                  have e76 : (cf65 57).toInt = (cf6 57).toInt := e76
                  have e77 : (cf65 37).toInt = (cf6 37).toInt := e77
                  have e78 : (cf65 42).toInt = (cf6 42).toInt := e78
                  have e79 : (cf65 43).toInt = (cf6 43).toInt := e79
                  have e80 : (cf65 44).toInt = (cf6 44).toInt := e80
                  have e81 : (cf65 45).toInt = (cf6 45).toInt := e81
                  have e82 : (cf65 54).toInt = (cf6 54).toInt := e82
                  have e83 : (cf65 55).toInt = (cf6 55).toInt := e83
                  have e84 : (cf65 58).toInt = (cf6 58).toInt := e84
                  have e85 : (cf65 59).toInt = (cf6 59).toInt := e85
                  have e86 : (cf65 41).toInt = (cf6 41).toInt := e86
                  have hw : pw D A s.heap H locs [wdP cs h r g tf ta pf na ma5 wa cf65 ca ef ea xf xa] := hw
                  exact px_vret S hr hlk hAe hw (Nat.le_of_ble_eq_true rfl) (Nat.le_of_ble_eq_true rfl) (⟨ma5, cf65, rfl, (show KpE cf cf65 from hke), (show WrV cf65 (tf 6).toInt from hwr), (show (cf65 33).toInt = (cf 33).toInt from by first | exact oz_1687f4cc65 e11 e71 | omega), (show (cf65 38).toInt = (cf 38).toInt from by first | exact oz_1687f4cc65 e12 e72 | omega), (show (cf65 48).toInt = (cf 48).toInt from by first | exact oz_1687f4cc65 e13 e73 | omega), (show (cf65 46).toInt = (cf 46).toInt from by first | exact oz_1687f4cc65 e14 e74 | omega), (show (cf65 47).toInt = (cf 47).toInt from by first | exact oz_1687f4cc65 e15 e75 | omega), (show (cf65 57).toInt = (cf 57).toInt from by first | exact oz_1687f4cc65 e16 e76 | omega), (show Ann na ma0 ma5 from han), (show FrC lo hi ma ma5 from hfc), (show ZAr cf65 (Gk ta ca na ma0 ns ys nf) na ma5 lo hi p0 p1.toInt from (zr_no (by first | with_reducible rfl | with_reducible assumption | omega)))⟩) d_Mpg_checkArgument_92
              · have nc58 : ¬ p1.toInt = (115 : Int) := mt (i_eq (x := p1) (y := 115)).mpr c58
                refine lv_iconst (v := 1) S.x S.b d_Mpg_checkArgument_70 (by decide) ?_
                refine lv_goto (tgt := 75) S.x S.b d_Mpg_checkArgument_71 (by decide) ?_
                refine lv_istore (lv' := [(4, .int 1), (3, .int v8), (0, .ref h), (1, .int p0), (2, .int p1)]) S.x S.b d_Mpg_checkArgument_75 hl (by decide) rfl (fun ls hl => ?_)
                refine lv_iload S.x S.b d_Mpg_checkArgument_77 (lv_at hl 0 rfl) ?_
                refine lv_if_ne (tgt := 92) S.x S.b d_Mpg_checkArgument_79 (by decide) (fun c87 => ?_) (fun c87 => ?_)
                ·
                  exact px_vret S hr hlk hAe hw (Nat.le_of_ble_eq_true rfl) (Nat.le_of_ble_eq_true rfl) (⟨ma5, cf6, rfl, (show KpE cf cf6 from hke), (show WrV cf6 (tf 6).toInt from hwr), (show (cf6 33).toInt = (cf 33).toInt from by first | exact e11 | omega), (show (cf6 38).toInt = (cf 38).toInt from by first | exact e12 | omega), (show (cf6 48).toInt = (cf 48).toInt from by first | exact e13 | omega), (show (cf6 46).toInt = (cf 46).toInt from by first | exact e14 | omega), (show (cf6 47).toInt = (cf 47).toInt from by first | exact e15 | omega), (show (cf6 57).toInt = (cf 57).toInt from by first | exact e16 | omega), (show Ann na ma0 ma5 from han), (show FrC lo hi ma ma5 from hfc), (show ZAr cf6 (Gk ta ca na ma0 ns ys nf) na ma5 lo hi p0 p1.toInt from (zar_mk hzt_p0 (by first | with_reducible rfl | with_reducible assumption | omega) (by first | with_reducible rfl | with_reducible assumption | omega)))⟩) d_Mpg_checkArgument_92
                · exact absurd c87 (by decide)
          · have nc28 : v8.toInt = (2 : Int) := (i_eq (x := v8) (y := 2)).mp c28
            refine lv_iload_n S.x S.b d_Mpg_checkArgument_53 rfl (lv_at hl 3 rfl) ?_
            refine lv_bipush (v := 99) S.x S.b d_Mpg_checkArgument_54 (by decide) ?_
            refine lv_icmp_ne (tgt := 70) S.x S.b d_Mpg_checkArgument_56 (by decide) (fun c88 => ?_) (fun c88 => ?_)
            · have nc88 : ¬ p1.toInt = (99 : Int) := mt (i_eq (x := p1) (y := 99)).mpr c88
              refine lv_iconst (v := 1) S.x S.b d_Mpg_checkArgument_70 (by decide) ?_
              refine lv_goto (tgt := 75) S.x S.b d_Mpg_checkArgument_71 (by decide) ?_
              refine lv_istore (lv' := [(4, .int 1), (3, .int v8), (0, .ref h), (1, .int p0), (2, .int p1)]) S.x S.b d_Mpg_checkArgument_75 hl (by decide) rfl (fun ls hl => ?_)
              refine lv_iload S.x S.b d_Mpg_checkArgument_77 (lv_at hl 0 rfl) ?_
              refine lv_if_ne (tgt := 92) S.x S.b d_Mpg_checkArgument_79 (by decide) (fun c89 => ?_) (fun c89 => ?_)
              ·
                exact px_vret S hr hlk hAe hw (Nat.le_of_ble_eq_true rfl) (Nat.le_of_ble_eq_true rfl) (⟨ma5, cf6, rfl, (show KpE cf cf6 from hke), (show WrV cf6 (tf 6).toInt from hwr), (show (cf6 33).toInt = (cf 33).toInt from by first | exact e11 | omega), (show (cf6 38).toInt = (cf 38).toInt from by first | exact e12 | omega), (show (cf6 48).toInt = (cf 48).toInt from by first | exact e13 | omega), (show (cf6 46).toInt = (cf 46).toInt from by first | exact e14 | omega), (show (cf6 47).toInt = (cf 47).toInt from by first | exact e15 | omega), (show (cf6 57).toInt = (cf 57).toInt from by first | exact e16 | omega), (show Ann na ma0 ma5 from han), (show FrC lo hi ma ma5 from hfc), (show ZAr cf6 (Gk ta ca na ma0 ns ys nf) na ma5 lo hi p0 p1.toInt from (zar_mk hzt_p0 (by first | with_reducible rfl | with_reducible assumption | omega) (by first | with_reducible rfl | with_reducible assumption | omega)))⟩) d_Mpg_checkArgument_92
              · exact absurd c89 (by decide)
            · have nc88 : p1.toInt = (99 : Int) := (i_eq (x := p1) (y := 99)).mp c88
              refine lv_iload_n S.x S.b d_Mpg_checkArgument_59 rfl (lv_at hl 0 rfl) ?_
              refine lv_iconst (v := 3) S.x S.b d_Mpg_checkArgument_60 (by decide) ?_
              refine lv_icmp_ne (tgt := 74) S.x S.b d_Mpg_checkArgument_61 (by decide) (fun c90 => ?_) (fun c90 => ?_)
              · have nc90 : ¬ v8.toInt = (3 : Int) := mt (i_eq (x := v8) (y := 3)).mpr c90
                refine lv_iconst (v := 0) S.x S.b d_Mpg_checkArgument_74 (by decide) ?_
                refine lv_istore (lv' := [(4, .int 0), (3, .int v8), (0, .ref h), (1, .int p0), (2, .int p1)]) S.x S.b d_Mpg_checkArgument_75 hl (by decide) rfl (fun ls hl => ?_)
                refine lv_iload S.x S.b d_Mpg_checkArgument_77 (lv_at hl 0 rfl) ?_
                refine lv_if_ne (tgt := 92) S.x S.b d_Mpg_checkArgument_79 (by decide) (fun c91 => ?_) (fun c91 => ?_)
                · exact absurd c91 (by decide)
                ·
                  refine lv_aload_n S.x S.b d_Mpg_checkArgument_82 rfl (lv_at hl 2 rfl) ?_
                  refine lv_iconst (v := 3) S.x S.b d_Mpg_checkArgument_83 (by decide) ?_
                  refine lv_aload_n S.x S.b d_Mpg_checkArgument_84 rfl (lv_at hl 2 rfl) ?_
                  refine lv_iload_n S.x S.b d_Mpg_checkArgument_85 rfl (lv_at hl 3 rfl) ?_
                  refine px_calli (pr := []) (px_runV (As := [.int p0]) (rest := [.int 3, .ref h]) S (c_mp_first l D cs h r g tf ta pf na ma5 wa cf6 ca ef ea xf xa p0  (show 0 ≤ p0.toInt from by first | exact hrg.2.2 | omega) (show p0.toInt < (pf 13).toInt from by first | exact oz_7319c2f99d g1 hrg.2.1 | omega) (show (pf 13).toInt ≤ 2100 from by first | exact g2 | omega) htk (FsI.le (N' := (pf 13).toInt) hfs (by first | with_reducible rfl | with_reducible assumption | omega)) _) hT (pr := []) (pcs := [wdP cs h r g tf ta pf na ma5 wa cf6 ca ef ea xf xa]) hw px_X.tt (px_recv hT hw 0 0 rfl rfl rfl) m13_9 m13_6 m13_8 ms_12_15 m1_21 q_Mpg_first ⟨show 0 + 1 ≤ (4 * d + 13) from by first | with_reducible rfl | with_reducible assumption | omega, show 8 + (2 + 11) + 0 ≤ (200 * d + 470) from by first | with_reducible rfl | with_reducible assumption | omega⟩ hl.1 rfl (Nat.le_of_ble_eq_true rfl) d_Mpg_checkArgument_86 ⟨Nat.le_of_ble_eq_true rfl, Nat.le_of_ble_eq_true rfl⟩) hw hA (fun v93 p92 H locs hp92 hw => ?_)
                  obtain ⟨rfl, e94, e95⟩ := hp92
                  have e94 : 0 ≤ v93.toInt := e94
                  have e95 : v93.toInt < (tf 6).toInt := e95
                  have hw : pw D A s.heap H locs [wdP cs h r g tf ta pf na ma5 wa cf6 ca ef ea xf xa] := hw
                  have lv93 := Int32.le_toInt v93
                  have uv93 := Int32.toInt_lt v93
                  refine px_callv (pr := []) (px_runV (As := [.int 3, .int v93]) (rest := []) S (c_mp_bad l D cs h r g tf ta pf na ma5 wa ca ef ea xf xa cf6 3 v93  (show 1 ≤ (3 : Int) from by first | decide | omega) (show 0 ≤ v93.toInt from by first | exact e94 | omega) (show v93.toInt < (tf 6).toInt from by first | exact e95 | omega) htk hwr _) hT (pr := []) (pcs := [wdP cs h r g tf ta pf na ma5 wa cf6 ca ef ea xf xa]) hw px_X.tt (px_recv hT hw 0 0 rfl rfl rfl) m12_173 m12_170 m12_172 ms_11_12 m1_21 q_Mpg_bad ⟨show 0 + 1 ≤ (4 * d + 13) from by first | with_reducible rfl | with_reducible assumption | omega, show 8 + (3 + 11) + 0 ≤ (200 * d + 470) from by first | with_reducible rfl | with_reducible assumption | omega⟩ hl.1 rfl (Nat.le_of_ble_eq_true rfl) d_Mpg_checkArgument_89 ⟨Nat.le_of_ble_eq_true rfl, Nat.le_of_ble_eq_true rfl⟩) hw hA (fun p98 H locs hp98 hw => ?_)
                  obtain ⟨cf97, rfl, e100, e101, e102, e103, e104, e105, e106, e107, e108, e109, e110, e111, e112, e113, e114, e115, e116, e117, e118⟩ := hp98
                  have e100 : KpE cf6 cf97 := e100
                  have hke := (hke).tr e100
                  have hkz_e100 := e100.2
                  have hzt_p0 := Zr.kp hzt_p0 e100 id
                  have e101 : WrV cf97 (tf 6).toInt := e101
                  have hwr := e101
                  have hw0_e101 := hwr.1
                  have e102 : 1 ≤ (cf97 30).toInt := e102
                  have e103 : (cf97 33).toInt = (cf6 33).toInt := e103
                  have e104 : (cf97 38).toInt = (cf6 38).toInt := e104
                  have e105 : (cf97 48).toInt = (cf6 48).toInt := e105
                  have e106 : (cf97 46).toInt = (cf6 46).toInt := e106
                  have e107 : (cf97 47).toInt = (cf6 47).toInt := e107
                  have e108 : (cf97 57).toInt = (cf6 57).toInt := e108
                  have e109 : (cf97 37).toInt = (cf6 37).toInt := e109
                  have e110 : (cf97 42).toInt = (cf6 42).toInt := e110
                  have e111 : (cf97 43).toInt = (cf6 43).toInt := e111
                  have e112 : (cf97 44).toInt = (cf6 44).toInt := e112
                  have e113 : (cf97 45).toInt = (cf6 45).toInt := e113
                  have e114 : (cf97 54).toInt = (cf6 54).toInt := e114
                  have e115 : (cf97 55).toInt = (cf6 55).toInt := e115
                  have e116 : (cf97 58).toInt = (cf6 58).toInt := e116
                  have e117 : (cf97 59).toInt = (cf6 59).toInt := e117
                  have e118 : (cf97 41).toInt = (cf6 41).toInt := e118
                  have hw : pw D A s.heap H locs [wdP cs h r g tf ta pf na ma5 wa cf97 ca ef ea xf xa] := hw
                  exact px_vret S hr hlk hAe hw (Nat.le_of_ble_eq_true rfl) (Nat.le_of_ble_eq_true rfl) (⟨ma5, cf97, rfl, (show KpE cf cf97 from hke), (show WrV cf97 (tf 6).toInt from hwr), (show (cf97 33).toInt = (cf 33).toInt from by first | exact oz_1687f4cc65 e11 e103 | omega), (show (cf97 38).toInt = (cf 38).toInt from by first | exact oz_1687f4cc65 e12 e104 | omega), (show (cf97 48).toInt = (cf 48).toInt from by first | exact oz_1687f4cc65 e13 e105 | omega), (show (cf97 46).toInt = (cf 46).toInt from by first | exact oz_1687f4cc65 e14 e106 | omega), (show (cf97 47).toInt = (cf 47).toInt from by first | exact oz_1687f4cc65 e15 e107 | omega), (show (cf97 57).toInt = (cf 57).toInt from by first | exact oz_1687f4cc65 e16 e108 | omega), (show Ann na ma0 ma5 from han), (show FrC lo hi ma ma5 from hfc), (show ZAr cf97 (Gk ta ca na ma0 ns ys nf) na ma5 lo hi p0 p1.toInt from (zr_no (by first | with_reducible rfl | with_reducible assumption | omega)))⟩) d_Mpg_checkArgument_92
              · have nc90 : v8.toInt = (3 : Int) := (i_eq (x := v8) (y := 3)).mp c90
                refine lv_iload_n S.x S.b d_Mpg_checkArgument_64 rfl (lv_at hl 3 rfl) ?_
                refine lv_bipush (v := 115) S.x S.b d_Mpg_checkArgument_65 (by decide) ?_
                refine lv_icmp_eq (tgt := 74) S.x S.b d_Mpg_checkArgument_67 (by decide) (fun c119 => ?_) (fun c119 => ?_)
                · have nc119 : p1.toInt = (115 : Int) := (i_eq (x := p1) (y := 115)).mp c119
                  refine lv_iconst (v := 0) S.x S.b d_Mpg_checkArgument_74 (by decide) ?_
                  refine lv_istore (lv' := [(4, .int 0), (3, .int v8), (0, .ref h), (1, .int p0), (2, .int p1)]) S.x S.b d_Mpg_checkArgument_75 hl (by decide) rfl (fun ls hl => ?_)
                  refine lv_iload S.x S.b d_Mpg_checkArgument_77 (lv_at hl 0 rfl) ?_
                  refine lv_if_ne (tgt := 92) S.x S.b d_Mpg_checkArgument_79 (by decide) (fun c120 => ?_) (fun c120 => ?_)
                  · exact absurd c120 (by decide)
                  ·
                    refine lv_aload_n S.x S.b d_Mpg_checkArgument_82 rfl (lv_at hl 2 rfl) ?_
                    refine lv_iconst (v := 3) S.x S.b d_Mpg_checkArgument_83 (by decide) ?_
                    refine lv_aload_n S.x S.b d_Mpg_checkArgument_84 rfl (lv_at hl 2 rfl) ?_
                    refine lv_iload_n S.x S.b d_Mpg_checkArgument_85 rfl (lv_at hl 3 rfl) ?_
                    refine px_calli (pr := []) (px_runV (As := [.int p0]) (rest := [.int 3, .ref h]) S (c_mp_first l D cs h r g tf ta pf na ma5 wa cf6 ca ef ea xf xa p0  (show 0 ≤ p0.toInt from by first | exact hrg.2.2 | omega) (show p0.toInt < (pf 13).toInt from by first | exact oz_7319c2f99d g1 hrg.2.1 | omega) (show (pf 13).toInt ≤ 2100 from by first | exact g2 | omega) htk (FsI.le (N' := (pf 13).toInt) hfs (by first | with_reducible rfl | with_reducible assumption | omega)) _) hT (pr := []) (pcs := [wdP cs h r g tf ta pf na ma5 wa cf6 ca ef ea xf xa]) hw px_X.tt (px_recv hT hw 0 0 rfl rfl rfl) m13_9 m13_6 m13_8 ms_12_15 m1_21 q_Mpg_first ⟨show 0 + 1 ≤ (4 * d + 13) from by first | with_reducible rfl | with_reducible assumption | omega, show 8 + (2 + 11) + 0 ≤ (200 * d + 470) from by first | with_reducible rfl | with_reducible assumption | omega⟩ hl.1 rfl (Nat.le_of_ble_eq_true rfl) d_Mpg_checkArgument_86 ⟨Nat.le_of_ble_eq_true rfl, Nat.le_of_ble_eq_true rfl⟩) hw hA (fun v122 p121 H locs hp121 hw => ?_)
                    obtain ⟨rfl, e123, e124⟩ := hp121
                    have e123 : 0 ≤ v122.toInt := e123
                    have e124 : v122.toInt < (tf 6).toInt := e124
                    have hw : pw D A s.heap H locs [wdP cs h r g tf ta pf na ma5 wa cf6 ca ef ea xf xa] := hw
                    have lv122 := Int32.le_toInt v122
                    have uv122 := Int32.toInt_lt v122
                    refine px_callv (pr := []) (px_runV (As := [.int 3, .int v122]) (rest := []) S (c_mp_bad l D cs h r g tf ta pf na ma5 wa ca ef ea xf xa cf6 3 v122  (show 1 ≤ (3 : Int) from by first | decide | omega) (show 0 ≤ v122.toInt from by first | exact e123 | omega) (show v122.toInt < (tf 6).toInt from by first | exact e124 | omega) htk hwr _) hT (pr := []) (pcs := [wdP cs h r g tf ta pf na ma5 wa cf6 ca ef ea xf xa]) hw px_X.tt (px_recv hT hw 0 0 rfl rfl rfl) m12_173 m12_170 m12_172 ms_11_12 m1_21 q_Mpg_bad ⟨show 0 + 1 ≤ (4 * d + 13) from by first | with_reducible rfl | with_reducible assumption | omega, show 8 + (3 + 11) + 0 ≤ (200 * d + 470) from by first | with_reducible rfl | with_reducible assumption | omega⟩ hl.1 rfl (Nat.le_of_ble_eq_true rfl) d_Mpg_checkArgument_89 ⟨Nat.le_of_ble_eq_true rfl, Nat.le_of_ble_eq_true rfl⟩) hw hA (fun p127 H locs hp127 hw => ?_)
                    obtain ⟨cf126, rfl, e129, e130, e131, e132, e133, e134, e135, e136, e137, e138, e139, e140, e141, e142, e143, e144, e145, e146, e147⟩ := hp127
                    have e129 : KpE cf6 cf126 := e129
                    have hke := (hke).tr e129
                    have hkz_e129 := e129.2
                    have hzt_p0 := Zr.kp hzt_p0 e129 id
                    have e130 : WrV cf126 (tf 6).toInt := e130
                    have hwr := e130
                    have hw0_e130 := hwr.1
                    have e131 : 1 ≤ (cf126 30).toInt := e131
                    have e132 : (cf126 33).toInt = (cf6 33).toInt := e132
                    have e133 : (cf126 38).toInt = (cf6 38).toInt := e133
                    have e134 : (cf126 48).toInt = (cf6 48).toInt := e134
                    have e135 : (cf126 46).toInt = (cf6 46).toInt := e135
                    have e136 : (cf126 47).toInt = (cf6 47).toInt := e136
                    have e137 : (cf126 57).toInt = (cf6 57).toInt := e137
                    have e138 : (cf126 37).toInt = (cf6 37).toInt := e138
                    have e139 : (cf126 42).toInt = (cf6 42).toInt := e139
                    have e140 : (cf126 43).toInt = (cf6 43).toInt := e140
                    have e141 : (cf126 44).toInt = (cf6 44).toInt := e141
                    have e142 : (cf126 45).toInt = (cf6 45).toInt := e142
                    have e143 : (cf126 54).toInt = (cf6 54).toInt := e143
                    have e144 : (cf126 55).toInt = (cf6 55).toInt := e144
                    have e145 : (cf126 58).toInt = (cf6 58).toInt := e145
                    have e146 : (cf126 59).toInt = (cf6 59).toInt := e146
                    have e147 : (cf126 41).toInt = (cf6 41).toInt := e147
                    have hw : pw D A s.heap H locs [wdP cs h r g tf ta pf na ma5 wa cf126 ca ef ea xf xa] := hw
                    exact px_vret S hr hlk hAe hw (Nat.le_of_ble_eq_true rfl) (Nat.le_of_ble_eq_true rfl) (⟨ma5, cf126, rfl, (show KpE cf cf126 from hke), (show WrV cf126 (tf 6).toInt from hwr), (show (cf126 33).toInt = (cf 33).toInt from by first | exact oz_1687f4cc65 e11 e132 | omega), (show (cf126 38).toInt = (cf 38).toInt from by first | exact oz_1687f4cc65 e12 e133 | omega), (show (cf126 48).toInt = (cf 48).toInt from by first | exact oz_1687f4cc65 e13 e134 | omega), (show (cf126 46).toInt = (cf 46).toInt from by first | exact oz_1687f4cc65 e14 e135 | omega), (show (cf126 47).toInt = (cf 47).toInt from by first | exact oz_1687f4cc65 e15 e136 | omega), (show (cf126 57).toInt = (cf 57).toInt from by first | exact oz_1687f4cc65 e16 e137 | omega), (show Ann na ma0 ma5 from han), (show FrC lo hi ma ma5 from hfc), (show ZAr cf126 (Gk ta ca na ma0 ns ys nf) na ma5 lo hi p0 p1.toInt from (zr_no (by first | with_reducible rfl | with_reducible assumption | omega)))⟩) d_Mpg_checkArgument_92
                · have nc119 : ¬ p1.toInt = (115 : Int) := mt (i_eq (x := p1) (y := 115)).mpr c119
                  refine lv_iconst (v := 1) S.x S.b d_Mpg_checkArgument_70 (by decide) ?_
                  refine lv_goto (tgt := 75) S.x S.b d_Mpg_checkArgument_71 (by decide) ?_
                  refine lv_istore (lv' := [(4, .int 1), (3, .int v8), (0, .ref h), (1, .int p0), (2, .int p1)]) S.x S.b d_Mpg_checkArgument_75 hl (by decide) rfl (fun ls hl => ?_)
                  refine lv_iload S.x S.b d_Mpg_checkArgument_77 (lv_at hl 0 rfl) ?_
                  refine lv_if_ne (tgt := 92) S.x S.b d_Mpg_checkArgument_79 (by decide) (fun c148 => ?_) (fun c148 => ?_)
                  ·
                    exact px_vret S hr hlk hAe hw (Nat.le_of_ble_eq_true rfl) (Nat.le_of_ble_eq_true rfl) (⟨ma5, cf6, rfl, (show KpE cf cf6 from hke), (show WrV cf6 (tf 6).toInt from hwr), (show (cf6 33).toInt = (cf 33).toInt from by first | exact e11 | omega), (show (cf6 38).toInt = (cf 38).toInt from by first | exact e12 | omega), (show (cf6 48).toInt = (cf 48).toInt from by first | exact e13 | omega), (show (cf6 46).toInt = (cf 46).toInt from by first | exact e14 | omega), (show (cf6 47).toInt = (cf 47).toInt from by first | exact e15 | omega), (show (cf6 57).toInt = (cf 57).toInt from by first | exact e16 | omega), (show Ann na ma0 ma5 from han), (show FrC lo hi ma ma5 from hfc), (show ZAr cf6 (Gk ta ca na ma0 ns ys nf) na ma5 lo hi p0 p1.toInt from (zar_mk hzt_p0 (by first | with_reducible rfl | with_reducible assumption | omega) (by first | with_reducible rfl | with_reducible assumption | omega)))⟩) d_Mpg_checkArgument_92
                  · exact absurd c148 (by decide)
    · have nc2 : p1.toInt = (107 : Int) := (i_eq (x := p1) (y := 107)).mp c2
      exfalso
      omega
  · have nc1 : p1.toInt = (105 : Int) := (i_eq (x := p1) (y := 105)).mp c1
    refine lv_aload_n S.x S.b d_Mpg_checkArgument_6 rfl (lv_at hl 0 rfl) ?_
    refine lv_iload_n S.x S.b d_Mpg_checkArgument_7 rfl (lv_at hl 1 rfl) ?_
    refine lv_iconst (v := 1) S.x S.b d_Mpg_checkArgument_8 (by decide) ?_
    refine px_calli (pr := []) (px_runV (As := [.int p0, .int 1]) (rest := []) S (hLC ma0 ys ns nf kn lo hi h r g tf ta pf na wa ca ef ea xf xa ma cf p0 1 (show 0 ≤ lo from by first | exact g0 | omega) (show hi ≤ (pf 13).toInt from by first | exact g1 | omega) (show (pf 13).toInt ≤ 2100 from by first | exact g2 | omega) (show (tf 6).toInt ≤ 2049 from by first | exact g3 | omega) (show (cf 33).toInt = kn from by first | exact g4 | omega) (show 0 ≤ kn from by first | exact g5 | omega) (show (cf 48).toInt = ns from by first | exact g6 | omega) (show (cf 38).toInt = nf from by first | exact g7 | omega) (show 0 ≤ nf from by first | exact g8 | omega) (show 0 ≤ (1 : Int) from by first | decide | omega) (show (1 : Int) ≤ 1 from by first | decide | omega) htk (FsI.le (N' := (pf 13).toInt) hfs (by first | with_reducible rfl | with_reducible assumption | omega)) hwr (KnT.eq hkt (by first | with_reducible rfl | with_reducible assumption | omega)) (FnT.eq hft (by first | with_reducible rfl | with_reducible assumption | omega)) hks hfp han hec_p0 _) hT (pr := []) (pcs := [wdP cs h r g tf ta pf na ma wa cf ca ef ea xf xa]) hw (oX_call (P := (fun A U H => (oP A g U H))) (pr := []) oG_P hw hA hP) (px_recv hT hw 0 0 rfl rfl rfl) m12_217 m12_214 m12_216 ms_12_7 m1_21 q_Mpg_check ⟨show (4 * d + 12) + 1 ≤ (4 * d + 13) from by first | with_reducible rfl | with_reducible assumption | omega, show 8 + (8 + 11) + (200 * d + 420) ≤ (200 * d + 470) from by first | with_reducible rfl | with_reducible assumption | omega⟩ hl.1 rfl (Nat.le_of_ble_eq_true rfl) d_Mpg_checkArgument_9 ⟨Nat.le_of_ble_eq_true rfl, Nat.le_of_ble_eq_true rfl⟩) hw hA (fun v154 p153 H locs hp153 hw => ?_)
    obtain ⟨ma151, cf152, rfl, e155, e156, e157, e158, e159, e160, e161, e162, e163, e164, e165, e166, e167, e168, e169⟩ := hp153
    have e155 : KpE cf cf152 := e155
    have hke := (hke).tr e155
    have hkz_e155 := e155.2
    have e156 : WrV cf152 (tf 6).toInt := e156
    have hwr := e156
    have hw0_e156 := hwr.1
    have e157 : (cf152 33).toInt = (cf 33).toInt := e157
    have e158 : (cf152 38).toInt = (cf 38).toInt := e158
    have e159 : (cf152 48).toInt = (cf 48).toInt := e159
    have e160 : (cf152 46).toInt = (cf 46).toInt := e160
    have e161 : (cf152 47).toInt = (cf 47).toInt := e161
    have e162 : (cf152 57).toInt = (cf 57).toInt := e162
    have e163 : Ann na ma0 ma151 := e163
    have han := e163
    have e164 : FrC lo hi ma ma151 := e164
    have hfc := hfc.tr e164 (by first | with_reducible rfl | with_reducible assumption | omega) (by first | with_reducible rfl | with_reducible assumption | omega)
    have e165 : 0 ≤ v154.toInt := e165
    have e166 : v154.toInt ≤ 4 := e166
    have e167 : NmJ ta ca na ma151 kn p0 v154.toInt := e167
    have hnm_p0 := e167
    have e168 : ZTy cf152 (Gk ta ca na ma0 ns ys nf) na ma151 lo hi p0 v154.toInt := e168
    have hzt_p0 := e168
    have e169 : ZNm cf152 (1 : Int) v154.toInt := e169
    have hty_p0 := ZTy.num hzt_p0 e169
    have hw : pw D A s.heap H locs [wdP cs h r g tf ta pf na ma151 wa cf152 ca ef ea xf xa] := hw
    have lv154 := Int32.le_toInt v154
    have uv154 := Int32.toInt_lt v154
    refine lv_pop S.x S.b d_Mpg_checkArgument_12 rfl ?_
    refine lv_goto (tgt := 92) S.x S.b d_Mpg_checkArgument_13 (by decide) ?_
    exact px_vret S hr hlk hAe hw (Nat.le_of_ble_eq_true rfl) (Nat.le_of_ble_eq_true rfl) (⟨ma151, cf152, rfl, (show KpE cf cf152 from hke), (show WrV cf152 (tf 6).toInt from hwr), (show (cf152 33).toInt = (cf 33).toInt from by first | exact e157 | omega), (show (cf152 38).toInt = (cf 38).toInt from by first | exact e158 | omega), (show (cf152 48).toInt = (cf 48).toInt from by first | exact e159 | omega), (show (cf152 46).toInt = (cf 46).toInt from by first | exact e160 | omega), (show (cf152 47).toInt = (cf 47).toInt from by first | exact e161 | omega), (show (cf152 57).toInt = (cf 57).toInt from by first | exact e162 | omega), (show Ann na ma0 ma151 from han), (show FrC lo hi ma ma151 from hfc), (show ZAr cf152 (Gk ta ca na ma0 ns ys nf) na ma151 lo hi p0 p1.toInt from (by rw [show p1.toInt = 105 by omega]; exact zar_i hty_p0))⟩) d_Mpg_checkArgument_92
abbrev b_Mpg_checkCall : ByteArray := prog_16_method_79_code
def y_Mpg_checkCall : MethodName := ⟨"HomeSystemModel$Program", "checkCall", "(I)I"⟩
theorem d_Mpg_checkCall_0 : decode b_Mpg_checkCall 0 = .ok (.aload_n 0, 1) := by decide +kernel
theorem d_Mpg_checkCall_1 : decode b_Mpg_checkCall 1 = .ok (.getfield 210, 3) := by decide +kernel
theorem d_Mpg_checkCall_4 : decode b_Mpg_checkCall 4 = .ok (.iload_n 1, 1) := by decide +kernel
theorem d_Mpg_checkCall_5 : decode b_Mpg_checkCall 5 = .ok (.iaload, 1) := by decide +kernel
theorem d_Mpg_checkCall_6 : decode b_Mpg_checkCall 6 = .ok (.istore_n 2, 1) := by decide +kernel
theorem d_Mpg_checkCall_7 : decode b_Mpg_checkCall 7 = .ok (.aload_n 0, 1) := by decide +kernel
theorem d_Mpg_checkCall_8 : decode b_Mpg_checkCall 8 = .ok (.iload_n 2, 1) := by decide +kernel
theorem d_Mpg_checkCall_9 : decode b_Mpg_checkCall 9 = .ok (.invokevirtual 544, 3) := by decide +kernel
theorem d_Mpg_checkCall_12 : decode b_Mpg_checkCall 12 = .ok (.istore_n 3, 1) := by decide +kernel
theorem d_Mpg_checkCall_13 : decode b_Mpg_checkCall 13 = .ok (.iload_n 3, 1) := by decide +kernel
theorem d_Mpg_checkCall_14 : decode b_Mpg_checkCall 14 = .ok (.ifCond .lt 7, 3) := by decide +kernel
theorem d_Mpg_checkCall_17 : decode b_Mpg_checkCall 17 = .ok (.iconst (-1), 1) := by decide +kernel
theorem d_Mpg_checkCall_18 : decode b_Mpg_checkCall 18 = .ok (.goto 8, 3) := by decide +kernel
theorem d_Mpg_checkCall_21 : decode b_Mpg_checkCall 21 = .ok (.aload_n 0, 1) := by decide +kernel
theorem d_Mpg_checkCall_22 : decode b_Mpg_checkCall 22 = .ok (.iload_n 2, 1) := by decide +kernel
theorem d_Mpg_checkCall_23 : decode b_Mpg_checkCall 23 = .ok (.invokevirtual 541, 3) := by decide +kernel
theorem d_Mpg_checkCall_26 : decode b_Mpg_checkCall 26 = .ok (.istore 4, 2) := by decide +kernel
theorem d_Mpg_checkCall_28 : decode b_Mpg_checkCall 28 = .ok (.aload_n 0, 1) := by decide +kernel
theorem d_Mpg_checkCall_29 : decode b_Mpg_checkCall 29 = .ok (.iload_n 2, 1) := by decide +kernel
theorem d_Mpg_checkCall_30 : decode b_Mpg_checkCall 30 = .ok (.iconst 0, 1) := by decide +kernel
theorem d_Mpg_checkCall_31 : decode b_Mpg_checkCall 31 = .ok (.invokevirtual 559, 3) := by decide +kernel
theorem d_Mpg_checkCall_34 : decode b_Mpg_checkCall 34 = .ok (.ifCond .ge 16, 3) := by decide +kernel
theorem d_Mpg_checkCall_37 : decode b_Mpg_checkCall 37 = .ok (.iload_n 3, 1) := by decide +kernel
theorem d_Mpg_checkCall_38 : decode b_Mpg_checkCall 38 = .ok (.ifCond .ge 8, 3) := by decide +kernel
theorem d_Mpg_checkCall_41 : decode b_Mpg_checkCall 41 = .ok (.iload 4, 2) := by decide +kernel
theorem d_Mpg_checkCall_43 : decode b_Mpg_checkCall 43 = .ok (.ifCond .lt 7, 3) := by decide +kernel
theorem d_Mpg_checkCall_46 : decode b_Mpg_checkCall 46 = .ok (.iconst 1, 1) := by decide +kernel
theorem d_Mpg_checkCall_47 : decode b_Mpg_checkCall 47 = .ok (.goto 4, 3) := by decide +kernel
theorem d_Mpg_checkCall_50 : decode b_Mpg_checkCall 50 = .ok (.iconst 0, 1) := by decide +kernel
theorem d_Mpg_checkCall_51 : decode b_Mpg_checkCall 51 = .ok (.istore 5, 2) := by decide +kernel
theorem d_Mpg_checkCall_53 : decode b_Mpg_checkCall 53 = .ok (.iload 5, 2) := by decide +kernel
theorem d_Mpg_checkCall_55 : decode b_Mpg_checkCall 55 = .ok (.ifCond .ne 9, 3) := by decide +kernel
theorem d_Mpg_checkCall_58 : decode b_Mpg_checkCall 58 = .ok (.aload_n 0, 1) := by decide +kernel
theorem d_Mpg_checkCall_59 : decode b_Mpg_checkCall 59 = .ok (.iconst 2, 1) := by decide +kernel
theorem d_Mpg_checkCall_60 : decode b_Mpg_checkCall 60 = .ok (.iload_n 2, 1) := by decide +kernel
theorem d_Mpg_checkCall_61 : decode b_Mpg_checkCall 61 = .ok (.invokevirtual 565, 3) := by decide +kernel
theorem d_Mpg_checkCall_64 : decode b_Mpg_checkCall 64 = .ok (.aload_n 0, 1) := by decide +kernel
theorem d_Mpg_checkCall_65 : decode b_Mpg_checkCall 65 = .ok (.getfield 219, 3) := by decide +kernel
theorem d_Mpg_checkCall_68 : decode b_Mpg_checkCall 68 = .ok (.iload_n 1, 1) := by decide +kernel
theorem d_Mpg_checkCall_69 : decode b_Mpg_checkCall 69 = .ok (.iload_n 3, 1) := by decide +kernel
theorem d_Mpg_checkCall_70 : decode b_Mpg_checkCall 70 = .ok (.ifCond .lt 7, 3) := by decide +kernel
theorem d_Mpg_checkCall_73 : decode b_Mpg_checkCall 73 = .ok (.iload_n 3, 1) := by decide +kernel
theorem d_Mpg_checkCall_74 : decode b_Mpg_checkCall 74 = .ok (.goto 8, 3) := by decide +kernel
theorem d_Mpg_checkCall_77 : decode b_Mpg_checkCall 77 = .ok (.bipush 100, 2) := by decide +kernel
theorem d_Mpg_checkCall_79 : decode b_Mpg_checkCall 79 = .ok (.iload 4, 2) := by decide +kernel
theorem d_Mpg_checkCall_81 : decode b_Mpg_checkCall 81 = .ok (.iadd, 1) := by decide +kernel
theorem d_Mpg_checkCall_82 : decode b_Mpg_checkCall 82 = .ok (.iastore, 1) := by decide +kernel
theorem d_Mpg_checkCall_83 : decode b_Mpg_checkCall 83 = .ok (.iconst 0, 1) := by decide +kernel
theorem d_Mpg_checkCall_84 : decode b_Mpg_checkCall 84 = .ok (.istore 6, 2) := by decide +kernel
theorem d_Mpg_checkCall_86 : decode b_Mpg_checkCall 86 = .ok (.aload_n 0, 1) := by decide +kernel
theorem d_Mpg_checkCall_87 : decode b_Mpg_checkCall 87 = .ok (.getfield 216, 3) := by decide +kernel
theorem d_Mpg_checkCall_90 : decode b_Mpg_checkCall 90 = .ok (.iload_n 1, 1) := by decide +kernel
theorem d_Mpg_checkCall_91 : decode b_Mpg_checkCall 91 = .ok (.iaload, 1) := by decide +kernel
theorem d_Mpg_checkCall_92 : decode b_Mpg_checkCall 92 = .ok (.istore 7, 2) := by decide +kernel
theorem d_Mpg_checkCall_94 : decode b_Mpg_checkCall 94 = .ok (.iload 7, 2) := by decide +kernel
theorem d_Mpg_checkCall_96 : decode b_Mpg_checkCall 96 = .ok (.ifCond .lt 47, 3) := by decide +kernel
theorem d_Mpg_checkCall_99 : decode b_Mpg_checkCall 99 = .ok (.iload 5, 2) := by decide +kernel
theorem d_Mpg_checkCall_101 : decode b_Mpg_checkCall 101 = .ok (.ifCond .eq 15, 3) := by decide +kernel
theorem d_Mpg_checkCall_104 : decode b_Mpg_checkCall 104 = .ok (.aload_n 0, 1) := by decide +kernel
theorem d_Mpg_checkCall_105 : decode b_Mpg_checkCall 105 = .ok (.iload 4, 2) := by decide +kernel
theorem d_Mpg_checkCall_107 : decode b_Mpg_checkCall 107 = .ok (.iload_n 3, 1) := by decide +kernel
theorem d_Mpg_checkCall_108 : decode b_Mpg_checkCall 108 = .ok (.iload 6, 2) := by decide +kernel
theorem d_Mpg_checkCall_110 : decode b_Mpg_checkCall 110 = .ok (.invokevirtual 587, 3) := by decide +kernel
theorem d_Mpg_checkCall_113 : decode b_Mpg_checkCall 113 = .ok (.goto 5, 3) := by decide +kernel
theorem d_Mpg_checkCall_116 : decode b_Mpg_checkCall 116 = .ok (.bipush 32, 2) := by decide +kernel
theorem d_Mpg_checkCall_118 : decode b_Mpg_checkCall 118 = .ok (.istore 8, 2) := by decide +kernel
theorem d_Mpg_checkCall_120 : decode b_Mpg_checkCall 120 = .ok (.aload_n 0, 1) := by decide +kernel
theorem d_Mpg_checkCall_121 : decode b_Mpg_checkCall 121 = .ok (.iload 7, 2) := by decide +kernel
theorem d_Mpg_checkCall_123 : decode b_Mpg_checkCall 123 = .ok (.iload 8, 2) := by decide +kernel
theorem d_Mpg_checkCall_125 : decode b_Mpg_checkCall 125 = .ok (.invokevirtual 590, 3) := by decide +kernel
theorem d_Mpg_checkCall_128 : decode b_Mpg_checkCall 128 = .ok (.iinc 6 1, 3) := by decide +kernel
theorem d_Mpg_checkCall_131 : decode b_Mpg_checkCall 131 = .ok (.aload_n 0, 1) := by decide +kernel
theorem d_Mpg_checkCall_132 : decode b_Mpg_checkCall 132 = .ok (.getfield 228, 3) := by decide +kernel
theorem d_Mpg_checkCall_135 : decode b_Mpg_checkCall 135 = .ok (.iload 7, 2) := by decide +kernel
theorem d_Mpg_checkCall_137 : decode b_Mpg_checkCall 137 = .ok (.iaload, 1) := by decide +kernel
theorem d_Mpg_checkCall_138 : decode b_Mpg_checkCall 138 = .ok (.istore 7, 2) := by decide +kernel
theorem d_Mpg_checkCall_140 : decode b_Mpg_checkCall 140 = .ok (.goto (-46), 3) := by decide +kernel
theorem d_Mpg_checkCall_143 : decode b_Mpg_checkCall 143 = .ok (.iload 5, 2) := by decide +kernel
theorem d_Mpg_checkCall_145 : decode b_Mpg_checkCall 145 = .ok (.ifCond .ne 5, 3) := by decide +kernel
theorem d_Mpg_checkCall_148 : decode b_Mpg_checkCall 148 = .ok (.iconst 0, 1) := by decide +kernel
theorem d_Mpg_checkCall_149 : decode b_Mpg_checkCall 149 = .ok (.ireturn, 1) := by decide +kernel
theorem d_Mpg_checkCall_150 : decode b_Mpg_checkCall 150 = .ok (.iload 6, 2) := by decide +kernel
theorem d_Mpg_checkCall_152 : decode b_Mpg_checkCall 152 = .ok (.ifCond .ne 19, 3) := by decide +kernel
theorem d_Mpg_checkCall_155 : decode b_Mpg_checkCall 155 = .ok (.aload_n 0, 1) := by decide +kernel
theorem d_Mpg_checkCall_156 : decode b_Mpg_checkCall 156 = .ok (.iload 4, 2) := by decide +kernel
theorem d_Mpg_checkCall_158 : decode b_Mpg_checkCall 158 = .ok (.iload_n 3, 1) := by decide +kernel
theorem d_Mpg_checkCall_159 : decode b_Mpg_checkCall 159 = .ok (.iconst 0, 1) := by decide +kernel
theorem d_Mpg_checkCall_160 : decode b_Mpg_checkCall 160 = .ok (.invokevirtual 587, 3) := by decide +kernel
theorem d_Mpg_checkCall_163 : decode b_Mpg_checkCall 163 = .ok (.bipush 32, 2) := by decide +kernel
theorem d_Mpg_checkCall_165 : decode b_Mpg_checkCall 165 = .ok (.if_icmp .eq 42, 3) := by decide +kernel
theorem d_Mpg_checkCall_168 : decode b_Mpg_checkCall 168 = .ok (.goto 33, 3) := by decide +kernel
theorem d_Mpg_checkCall_171 : decode b_Mpg_checkCall 171 = .ok (.aload_n 0, 1) := by decide +kernel
theorem d_Mpg_checkCall_172 : decode b_Mpg_checkCall 172 = .ok (.iload 4, 2) := by decide +kernel
theorem d_Mpg_checkCall_174 : decode b_Mpg_checkCall 174 = .ok (.iload_n 3, 1) := by decide +kernel
theorem d_Mpg_checkCall_175 : decode b_Mpg_checkCall 175 = .ok (.iload 6, 2) := by decide +kernel
theorem d_Mpg_checkCall_177 : decode b_Mpg_checkCall 177 = .ok (.iconst 1, 1) := by decide +kernel
theorem d_Mpg_checkCall_178 : decode b_Mpg_checkCall 178 = .ok (.isub, 1) := by decide +kernel
theorem d_Mpg_checkCall_179 : decode b_Mpg_checkCall 179 = .ok (.invokevirtual 587, 3) := by decide +kernel
theorem d_Mpg_checkCall_182 : decode b_Mpg_checkCall 182 = .ok (.bipush 32, 2) := by decide +kernel
theorem d_Mpg_checkCall_184 : decode b_Mpg_checkCall 184 = .ok (.if_icmp .eq 17, 3) := by decide +kernel
theorem d_Mpg_checkCall_187 : decode b_Mpg_checkCall 187 = .ok (.aload_n 0, 1) := by decide +kernel
theorem d_Mpg_checkCall_188 : decode b_Mpg_checkCall 188 = .ok (.iload 4, 2) := by decide +kernel
theorem d_Mpg_checkCall_190 : decode b_Mpg_checkCall 190 = .ok (.iload_n 3, 1) := by decide +kernel
theorem d_Mpg_checkCall_191 : decode b_Mpg_checkCall 191 = .ok (.iload 6, 2) := by decide +kernel
theorem d_Mpg_checkCall_193 : decode b_Mpg_checkCall 193 = .ok (.invokevirtual 587, 3) := by decide +kernel
theorem d_Mpg_checkCall_196 : decode b_Mpg_checkCall 196 = .ok (.bipush 32, 2) := by decide +kernel
theorem d_Mpg_checkCall_198 : decode b_Mpg_checkCall 198 = .ok (.if_icmp .eq 9, 3) := by decide +kernel
theorem d_Mpg_checkCall_201 : decode b_Mpg_checkCall 201 = .ok (.aload_n 0, 1) := by decide +kernel
theorem d_Mpg_checkCall_202 : decode b_Mpg_checkCall 202 = .ok (.iconst 4, 1) := by decide +kernel
theorem d_Mpg_checkCall_203 : decode b_Mpg_checkCall 203 = .ok (.iload_n 2, 1) := by decide +kernel
theorem d_Mpg_checkCall_204 : decode b_Mpg_checkCall 204 = .ok (.invokevirtual 565, 3) := by decide +kernel
theorem d_Mpg_checkCall_207 : decode b_Mpg_checkCall 207 = .ok (.iload_n 3, 1) := by decide +kernel
theorem d_Mpg_checkCall_208 : decode b_Mpg_checkCall 208 = .ok (.ifCond .lt 26, 3) := by decide +kernel
theorem d_Mpg_checkCall_211 : decode b_Mpg_checkCall 211 = .ok (.aload_n 0, 1) := by decide +kernel
theorem d_Mpg_checkCall_212 : decode b_Mpg_checkCall 212 = .ok (.getfield 187, 3) := by decide +kernel
theorem d_Mpg_checkCall_215 : decode b_Mpg_checkCall 215 = .ok (.iload_n 3, 1) := by decide +kernel
theorem d_Mpg_checkCall_216 : decode b_Mpg_checkCall 216 = .ok (.aaload, 1) := by decide +kernel
theorem d_Mpg_checkCall_217 : decode b_Mpg_checkCall 217 = .ok (.iconst 0, 1) := by decide +kernel
theorem d_Mpg_checkCall_218 : decode b_Mpg_checkCall 218 = .ok (.invokevirtual 310, 3) := by decide +kernel
theorem d_Mpg_checkCall_221 : decode b_Mpg_checkCall 221 = .ok (.bipush 118, 2) := by decide +kernel
theorem d_Mpg_checkCall_223 : decode b_Mpg_checkCall 223 = .ok (.if_icmp .ne 7, 3) := by decide +kernel
theorem d_Mpg_checkCall_226 : decode b_Mpg_checkCall 226 = .ok (.iconst 1, 1) := by decide +kernel
theorem d_Mpg_checkCall_227 : decode b_Mpg_checkCall 227 = .ok (.goto 28, 3) := by decide +kernel
theorem d_Mpg_checkCall_230 : decode b_Mpg_checkCall 230 = .ok (.iconst 0, 1) := by decide +kernel
theorem d_Mpg_checkCall_231 : decode b_Mpg_checkCall 231 = .ok (.goto 24, 3) := by decide +kernel
theorem d_Mpg_checkCall_234 : decode b_Mpg_checkCall 234 = .ok (.aload_n 0, 1) := by decide +kernel
theorem d_Mpg_checkCall_235 : decode b_Mpg_checkCall 235 = .ok (.getfield 231, 3) := by decide +kernel
theorem d_Mpg_checkCall_238 : decode b_Mpg_checkCall 238 = .ok (.aload_n 0, 1) := by decide +kernel
theorem d_Mpg_checkCall_239 : decode b_Mpg_checkCall 239 = .ok (.getfield 255, 3) := by decide +kernel
theorem d_Mpg_checkCall_242 : decode b_Mpg_checkCall 242 = .ok (.iload 4, 2) := by decide +kernel
theorem d_Mpg_checkCall_244 : decode b_Mpg_checkCall 244 = .ok (.iaload, 1) := by decide +kernel
theorem d_Mpg_checkCall_245 : decode b_Mpg_checkCall 245 = .ok (.iaload, 1) := by decide +kernel
theorem d_Mpg_checkCall_246 : decode b_Mpg_checkCall 246 = .ok (.iconst 2, 1) := by decide +kernel
theorem d_Mpg_checkCall_247 : decode b_Mpg_checkCall 247 = .ok (.if_icmp .ne 7, 3) := by decide +kernel
theorem d_Mpg_checkCall_250 : decode b_Mpg_checkCall 250 = .ok (.iconst 1, 1) := by decide +kernel
theorem d_Mpg_checkCall_251 : decode b_Mpg_checkCall 251 = .ok (.goto 4, 3) := by decide +kernel
theorem d_Mpg_checkCall_254 : decode b_Mpg_checkCall 254 = .ok (.iconst 0, 1) := by decide +kernel
theorem d_Mpg_checkCall_255 : decode b_Mpg_checkCall 255 = .ok (.istore 7, 2) := by decide +kernel
theorem d_Mpg_checkCall_257 : decode b_Mpg_checkCall 257 = .ok (.iload 7, 2) := by decide +kernel
theorem d_Mpg_checkCall_259 : decode b_Mpg_checkCall 259 = .ok (.ifCond .eq 7, 3) := by decide +kernel
theorem d_Mpg_checkCall_262 : decode b_Mpg_checkCall 262 = .ok (.iconst 4, 1) := by decide +kernel
theorem d_Mpg_checkCall_263 : decode b_Mpg_checkCall 263 = .ok (.goto 4, 3) := by decide +kernel
theorem d_Mpg_checkCall_266 : decode b_Mpg_checkCall 266 = .ok (.iconst 1, 1) := by decide +kernel
theorem d_Mpg_checkCall_267 : decode b_Mpg_checkCall 267 = .ok (.ireturn, 1) := by decide +kernel
theorem q_Mpg_checkCall : px_y y_Mpg_checkCall 1 := by unfold px_y; decide +kernel
set_option maxHeartbeats 4000000 in
set_option maxRecDepth 100000 in
theorem c_mp_checkCall (l : Launch) (D : va_G) (cs : Nat → ClassId) (ma0 : Nat → Nat → Int32) (ys : Int) (ns : Int) (nf : Int) (kn : Int) (d : Nat) (lo : Int) (hi : Int) (h : Nat) (r : Nat → Nat) (g : Nat → Nat → Option Nat) (tf : Nat → Int32) (ta : Nat → Nat → Int32) (pf : Nat → Int32) (na : Nat → Nat → Int32) (wa : Nat → Nat → Int32) (ca : Nat → Nat → Int32) (ef : Nat → Int32) (ea : Nat → Nat → Int32) (xf : Nat → Int32) (xa : Nat → Nat → Int32) (ma : Nat → Nat → Int32) (cf : Nat → Int32) (p0 : Int32)  (g0 : 0 ≤ lo) (g1 : hi ≤ (pf 13).toInt) (g2 : (pf 13).toInt ≤ 2100) (g3 : (tf 6).toInt ≤ 2049) (g4 : (cf 33).toInt = kn) (g5 : 0 ≤ kn) (g6 : (cf 48).toInt = ns) (g7 : (cf 38).toInt = nf) (g8 : 0 ≤ nf) (g9 : (na 14 p0.toNatClampNeg).toInt = 3) (htk : TkI tf ta) (hfs : FsI (tf 6).toInt (pf 13).toInt na) (hwr : WrV cf (tf 6).toInt) (hkt : KnT (tf 6).toInt ca (cf 33).toInt) (hft : FnT (tf 6).toInt na ca (cf 38).toInt) (hks : KnS ca kn ns ys) (hfp : FnP na ca nf) (han : Ann na ma0 ma) (hec : EcV ta (tf 6).toInt na ma0 (d + 1) lo hi p0) (hLC : ChkC l D cs d) : MetI l y_Mpg_checkCall b_Mpg_checkCall 9 (.int) D cs (4 * d + 14) (200 * d + 540) (0) (0) [.ref h, .int p0] [wdP cs h r g tf ta pf na ma wa cf ca ef ea xf xa] (oX (fun A U H => (oP A g U H)) [wdP cs h r g tf ta pf na ma wa cf ca ef ea xf xa]) (fun v ps => ∃ (ma' : Nat → Nat → Int32) (cf' : Nat → Int32), (ps = [wdP cs h r g tf ta pf na ma' wa cf' ca ef ea xf xa]) ∧ (KpE cf cf') ∧ (WrV cf' (tf 6).toInt) ∧ ((cf' 33).toInt = (cf 33).toInt) ∧ ((cf' 38).toInt = (cf 38).toInt) ∧ ((cf' 48).toInt = (cf 48).toInt) ∧ ((cf' 46).toInt = (cf 46).toInt) ∧ ((cf' 47).toInt = (cf 47).toInt) ∧ ((cf' 57).toInt = (cf 57).toInt) ∧ (Ann na ma0 ma') ∧ (FrC lo hi ma ma') ∧ (0 ≤ v.toInt) ∧ (v.toInt ≤ 4) ∧ (ZTy cf' (Gk ta ca na ma0 ns ys nf) na ma' lo hi p0 v.toInt)) := by
  refine px_enter (by decide) (Nat.le_of_ble_eq_true rfl) ?_
  intro p e s m below meth c A ls hAe S hr hlk hnm hA hT hX hw hl
  have hl : lv_has ls 9 [(0, .ref h), (1, .int p0)] := hl
  have lp0 := Int32.le_toInt p0
  have up0 := Int32.toInt_lt p0
  have cstm1 : ((-1) : Int32).toInt = (-1) := rfl
  have cst0 : (0 : Int32).toInt = 0 := rfl
  have cst1 : (1 : Int32).toInt = 1 := rfl
  have cst2 : (2 : Int32).toInt = 2 := rfl
  have cst4 : (4 : Int32).toInt = 4 := rfl
  have cst32 : (32 : Int32).toInt = 32 := rfl
  have cst100 : (100 : Int32).toInt = 100 := rfl
  have cst118 : (118 : Int32).toInt = 118 := rfl
  have hX : (fun A U H => (oP A g U H)) A s s.heap := by rw [hAe]; exact hX
  have hP := hX
  have hZ := hP.1
  have hF0 := hP.2.1
  have hke : KpE cf cf := KpE.rf
  have hfc : FrC lo hi ma ma := FrC.rf
  have hwr0 := hwr.1
  have hk11 := hkt.1
  have hf11 := hft.1
  have hec_p0 := hec
  have hrg := EcV.rng hec
  have J94 : ∀ (n_94 : Nat) (ma_94 : Nat → Nat → Int32) (cf_94 : Nat → Int32) (mid_94 : Int) (x94_2 x94_3 x94_4 x94_5 x94_6 x94_7 : Int32) (H : Heap) (locs : List Loc) (ls : Array Slot), (KpE cf cf_94) → (WrV cf_94 (tf 6).toInt) → ((cf_94 33).toInt = (cf 33).toInt) → ((cf_94 38).toInt = (cf 38).toInt) → ((cf_94 48).toInt = (cf 48).toInt) → ((cf_94 46).toInt = (cf 46).toInt) → ((cf_94 47).toInt = (cf 47).toInt) → ((cf_94 57).toInt = (cf 57).toInt) → (Ann na ma0 ma_94) → (FrC lo hi ma ma_94) → (-1 ≤ x94_3.toInt) → (x94_3.toInt ≤ 9) → (-1 ≤ x94_4.toInt) → (x94_4.toInt < nf) → (0 ≤ x94_5.toInt) → (x94_5.toInt ≤ 1) → (x94_5.toInt = 1 → (0 ≤ x94_3.toInt ∧ x94_4.toInt = -1) ∨ (x94_3.toInt < 0 ∧ 0 ≤ x94_4.toInt)) → (x94_5.toInt = 0 → 1 ≤ (cf_94 30).toInt) → (0 ≤ x94_6.toInt) → (x94_6.toInt + p0.toInt + 1 ≤ mid_94) → (0 ≤ x94_2.toInt) → (x94_2.toInt < (tf 6).toInt) → (p0.toInt + 1 ≤ mid_94) → (mid_94 ≤ hi) → (RcR ta (tf 6).toInt na ma0 d mid_94 hi x94_7) → (KbI ma_94 p0 x94_5.toInt (cod x94_4.toInt x94_3.toInt)) → (ZTa cf_94 (Gk ta ca na ma0 ns ys nf) na ma_94 (p0.toInt + 1) mid_94 (cod x94_4.toInt x94_3.toInt) (na 17 p0.toNatClampNeg) x94_7 x94_6.toInt) → hi - mid_94 < (n_94 : Int) → pw D A s.heap H locs [wdP cs h r g tf ta pf na ma_94 wa cf_94 ca ef ea xf xa] → lv_has ls 9 [(0, .ref h), (1, .int p0), (2, .int x94_2), (3, .int x94_3), (4, .int x94_4), (5, .int x94_5), (6, .int x94_6), (7, .int x94_7)] → W p l e { frames := (4 * d + 14), cells := 0, slots := 0, locals := (200 * d + 540) } s m [.ref h, .int p0].toArray below meth c H locs 0 0 (MQ below (va_Qi (fun v ps => ∃ (ma' : Nat → Nat → Int32) (cf' : Nat → Int32), (ps = [wdP cs h r g tf ta pf na ma' wa cf' ca ef ea xf xa]) ∧ (KpE cf cf') ∧ (WrV cf' (tf 6).toInt) ∧ ((cf' 33).toInt = (cf 33).toInt) ∧ ((cf' 38).toInt = (cf 38).toInt) ∧ ((cf' 48).toInt = (cf 48).toInt) ∧ ((cf' 46).toInt = (cf 46).toInt) ∧ ((cf' 47).toInt = (cf 47).toInt) ∧ ((cf' 57).toInt = (cf 57).toInt) ∧ (Ann na ma0 ma') ∧ (FrC lo hi ma ma') ∧ (0 ≤ v.toInt) ∧ (v.toInt ≤ 4) ∧ (ZTy cf' (Gk ta ca na ma0 ns ys nf) na ma' lo hi p0 v.toInt)) (pc_B D (va_A ([wdP cs h r g tf ta pf na ma wa cf ca ef ea xf xa] : List va_W).flatten s.heap.size)) (va_A ([wdP cs h r g tf ta pf na ma wa cf ca ef ea xf xa] : List va_W).flatten s.heap.size)) [.ref h, .int p0].toArray s 0 0 A) (F0 m 94 ls []) := by
    intro  n_94
    induction n_94 with
    | zero =>
      intro ma_94 cf_94 mid_94 x94_2 x94_3 x94_4 x94_5 x94_6 x94_7 H locs ls k94_0 k94_1 k94_2 k94_3 k94_4 k94_5 k94_6 k94_7 k94_8 k94_9 k94_10 k94_11 k94_12 k94_13 k94_14 k94_15 k94_16 k94_17 k94_18 k94_19 k94_20 k94_21 k94_22 k94_23 k94_24 k94_25 k94_26 hm hw hl
      have lx94_2 := Int32.le_toInt x94_2
      have ux94_2 := Int32.toInt_lt x94_2
      have lx94_3 := Int32.le_toInt x94_3
      have ux94_3 := Int32.toInt_lt x94_3
      have lx94_4 := Int32.le_toInt x94_4
      have ux94_4 := Int32.toInt_lt x94_4
      have lx94_5 := Int32.le_toInt x94_5
      have ux94_5 := Int32.toInt_lt x94_5
      have lx94_6 := Int32.le_toInt x94_6
      have ux94_6 := Int32.toInt_lt x94_6
      have lx94_7 := Int32.le_toInt x94_7
      have ux94_7 := Int32.toInt_lt x94_7
      have hke := k94_0
      have hwr := k94_1
      have hw0_k94_1 := hwr.1
      have han := k94_8
      have hfc := k94_9
      have hrr := k94_24
      have hkb := k94_25
      have hzta := k94_26
      exact absurd hm (by first | with_reducible rfl | with_reducible assumption | omega)
    | succ n_94 ih94 =>
      intro ma_94 cf_94 mid_94 x94_2 x94_3 x94_4 x94_5 x94_6 x94_7 H locs ls k94_0 k94_1 k94_2 k94_3 k94_4 k94_5 k94_6 k94_7 k94_8 k94_9 k94_10 k94_11 k94_12 k94_13 k94_14 k94_15 k94_16 k94_17 k94_18 k94_19 k94_20 k94_21 k94_22 k94_23 k94_24 k94_25 k94_26 hm hw hl
      have lx94_2 := Int32.le_toInt x94_2
      have ux94_2 := Int32.toInt_lt x94_2
      have lx94_3 := Int32.le_toInt x94_3
      have ux94_3 := Int32.toInt_lt x94_3
      have lx94_4 := Int32.le_toInt x94_4
      have ux94_4 := Int32.toInt_lt x94_4
      have lx94_5 := Int32.le_toInt x94_5
      have ux94_5 := Int32.toInt_lt x94_5
      have lx94_6 := Int32.le_toInt x94_6
      have ux94_6 := Int32.toInt_lt x94_6
      have lx94_7 := Int32.le_toInt x94_7
      have ux94_7 := Int32.toInt_lt x94_7
      have hke := k94_0
      have hwr := k94_1
      have hw0_k94_1 := hwr.1
      have han := k94_8
      have hfc := k94_9
      have hrr := k94_24
      have hkb := k94_25
      have hzta := k94_26
      refine lv_iload S.x S.b d_Mpg_checkCall_94 (lv_at hl 7 rfl) ?_
      refine lv_if_lt (tgt := 143) S.x S.b d_Mpg_checkCall_96 (by decide) (fun c1 => ?_) (fun c1 => ?_)
      · have nc1 : x94_7.toInt < (0 : Int) := (i_lt (x := x94_7) (y := 0)).mp c1
        refine lv_iload S.x S.b d_Mpg_checkCall_143 (lv_at hl 5 rfl) ?_
        refine lv_if_ne (tgt := 150) S.x S.b d_Mpg_checkCall_145 (by decide) (fun c2 => ?_) (fun c2 => ?_)
        · have nc2 : ¬ x94_5.toInt = (0 : Int) := mt (i_eq (x := x94_5) (y := 0)).mpr c2
          refine lv_iload S.x S.b d_Mpg_checkCall_150 (lv_at hl 6 rfl) ?_
          refine lv_if_ne (tgt := 171) S.x S.b d_Mpg_checkCall_152 (by decide) (fun c3 => ?_) (fun c3 => ?_)
          · have nc3 : ¬ x94_6.toInt = (0 : Int) := mt (i_eq (x := x94_6) (y := 0)).mpr c3
            refine lv_aload_n S.x S.b d_Mpg_checkCall_171 rfl (lv_at hl 0 rfl) ?_
            refine lv_iload S.x S.b d_Mpg_checkCall_172 (lv_at hl 4 rfl) ?_
            refine lv_iload_n S.x S.b d_Mpg_checkCall_174 rfl (lv_at hl 3 rfl) ?_
            refine lv_iload S.x S.b d_Mpg_checkCall_175 (lv_at hl 6 rfl) ?_
            refine lv_iconst (v := 1) S.x S.b d_Mpg_checkCall_177 (by decide) ?_
            refine lv_isub S.x S.b d_Mpg_checkCall_178 ?_
            refine lv_topi (fun z4 ez4 => ?_)
            have tz4 : z4.toInt = (x94_6.toInt - (1 : Int) + 2147483648) % 4294967296 - 2147483648 := by rw [ez4]; exact i_sub x94_6 1
            have lz4 := Int32.le_toInt z4
            have uz4 := Int32.toInt_lt z4
            try replace tz4 : z4.toInt = x94_6.toInt - (1 : Int) := by omega
            refine px_calli (pr := []) (px_runV (As := [.int x94_4, .int x94_3, .int z4]) (rest := []) S (c_mp_taken l D cs h r g tf ta pf na ma_94 wa cf_94 ca ef ea xf xa x94_4 x94_3 z4  (show -1 ≤ x94_4.toInt from by first | exact k94_12 | omega) (show x94_4.toInt < (cf_94 38).toInt from by first | exact oz_0f2ac8ea3f k94_3 k94_13 g7 | omega) (show x94_4.toInt < 0 → 0 ≤ x94_3.toInt ∧ x94_3.toInt < 10 from by first | with_reducible rfl | with_reducible assumption | omega) (show 0 ≤ z4.toInt from by first | exact oz_229fe14250 tz4 k94_18 nc3 | omega) (show z4.toInt ≤ 4000 from by first | exact oz_ec25f4eec3 tz4 k94_19 hrg.2.2 k94_23 g1 g2 | omega) (show 0 ≤ (cf_94 38).toInt from by first | exact oz_e2fef14871 k94_3 g7 g8 | omega) htk (FnT.eq hft (by first | with_reducible rfl | with_reducible assumption | omega)) (FnP.eq hfp (by first | with_reducible rfl | with_reducible assumption | omega)) _) hT (pr := []) (pcs := [wdP cs h r g tf ta pf na ma_94 wa cf_94 ca ef ea xf xa]) hw (oX_call (P := (fun A U H => (oP A g U H))) (pr := []) oG_P hw hA hP) (px_recv hT hw 0 0 rfl rfl rfl) m12_229 m12_226 m12_228 ms_12_10 m1_21 q_Mpg_taken ⟨show 4 + 1 ≤ (4 * d + 14) from by first | with_reducible rfl | with_reducible assumption | omega, show 8 + (6 + 11) + 140 ≤ (200 * d + 540) from by first | with_reducible rfl | with_reducible assumption | omega⟩ hl.1 rfl (Nat.le_of_ble_eq_true rfl) d_Mpg_checkCall_179 ⟨Nat.le_of_ble_eq_true rfl, Nat.le_of_ble_eq_true rfl⟩) hw hA (fun v6 p5 H locs hp5 hw => ?_)
            obtain ⟨rfl, e7⟩ := hp5
            have e7 : TkV na ma_94 ca x94_4.toInt x94_3.toInt z4.toInt v6.toInt := e7
            have hw : pw D A s.heap H locs [wdP cs h r g tf ta pf na ma_94 wa cf_94 ca ef ea xf xa] := hw
            have lv6 := Int32.le_toInt v6
            have uv6 := Int32.toInt_lt v6
            have hcn_179 : CeN nf (cod x94_4.toInt x94_3.toInt) := cen_mk (by first | with_reducible rfl | with_reducible assumption | omega); have htv_179 := tkv_at (ta := ta) (ns := ns) (ys := ys) e7 han hfp hcn_179; have htg_179 := tkv_rng e7 hcn_179
            refine lv_bipush (v := 32) S.x S.b d_Mpg_checkCall_182 (by decide) ?_
            refine lv_icmp_eq (tgt := 201) S.x S.b d_Mpg_checkCall_184 (by decide) (fun c8 => ?_) (fun c8 => ?_)
            · have nc8 : v6.toInt = (32 : Int) := (i_eq (x := v6) (y := 32)).mp c8
              refine lv_aload_n S.x S.b d_Mpg_checkCall_201 rfl (lv_at hl 0 rfl) ?_
              refine lv_iconst (v := 4) S.x S.b d_Mpg_checkCall_202 (by decide) ?_
              refine lv_iload_n S.x S.b d_Mpg_checkCall_203 rfl (lv_at hl 2 rfl) ?_
              refine px_callv (pr := []) (px_runV (As := [.int 4, .int x94_2]) (rest := []) S (c_mp_bad l D cs h r g tf ta pf na ma_94 wa ca ef ea xf xa cf_94 4 x94_2  (show 1 ≤ (4 : Int) from by first | decide | omega) (show 0 ≤ x94_2.toInt from by first | exact k94_20 | omega) (show x94_2.toInt < (tf 6).toInt from by first | exact k94_21 | omega) htk hwr _) hT (pr := []) (pcs := [wdP cs h r g tf ta pf na ma_94 wa cf_94 ca ef ea xf xa]) hw px_X.tt (px_recv hT hw 0 0 rfl rfl rfl) m12_173 m12_170 m12_172 ms_11_12 m1_21 q_Mpg_bad ⟨show 0 + 1 ≤ (4 * d + 14) from by first | with_reducible rfl | with_reducible assumption | omega, show 8 + (3 + 11) + 0 ≤ (200 * d + 540) from by first | with_reducible rfl | with_reducible assumption | omega⟩ hl.1 rfl (Nat.le_of_ble_eq_true rfl) d_Mpg_checkCall_204 ⟨Nat.le_of_ble_eq_true rfl, Nat.le_of_ble_eq_true rfl⟩) hw hA (fun p11 H locs hp11 hw => ?_)
              obtain ⟨cf10, rfl, e13, e14, e15, e16, e17, e18, e19, e20, e21, e22, e23, e24, e25, e26, e27, e28, e29, e30, e31⟩ := hp11
              have e13 : KpE cf_94 cf10 := e13
              have hke := (hke).tr e13
              have hkz_e13 := e13.2
              have hzta := Zr.kp hzta e13 id
              have e14 : WrV cf10 (tf 6).toInt := e14
              have hwr := e14
              have hw0_e14 := hwr.1
              have e15 : 1 ≤ (cf10 30).toInt := e15
              have e16 : (cf10 33).toInt = (cf_94 33).toInt := e16
              have e17 : (cf10 38).toInt = (cf_94 38).toInt := e17
              have e18 : (cf10 48).toInt = (cf_94 48).toInt := e18
              have e19 : (cf10 46).toInt = (cf_94 46).toInt := e19
              have e20 : (cf10 47).toInt = (cf_94 47).toInt := e20
              have e21 : (cf10 57).toInt = (cf_94 57).toInt := e21
              have e22 : (cf10 37).toInt = (cf_94 37).toInt := e22
              have e23 : (cf10 42).toInt = (cf_94 42).toInt := e23
              have e24 : (cf10 43).toInt = (cf_94 43).toInt := e24
              have e25 : (cf10 44).toInt = (cf_94 44).toInt := e25
              have e26 : (cf10 45).toInt = (cf_94 45).toInt := e26
              have e27 : (cf10 54).toInt = (cf_94 54).toInt := e27
              have e28 : (cf10 55).toInt = (cf_94 55).toInt := e28
              have e29 : (cf10 58).toInt = (cf_94 58).toInt := e29
              have e30 : (cf10 59).toInt = (cf_94 59).toInt := e30
              have e31 : (cf10 41).toInt = (cf_94 41).toInt := e31
              have hw : pw D A s.heap H locs [wdP cs h r g tf ta pf na ma_94 wa cf10 ca ef ea xf xa] := hw
              refine lv_iload_n S.x S.b d_Mpg_checkCall_207 rfl (lv_at hl 3 rfl) ?_
              refine lv_if_lt (tgt := 234) S.x S.b d_Mpg_checkCall_208 (by decide) (fun c32 => ?_) (fun c32 => ?_)
              · have nc32 : x94_3.toInt < (0 : Int) := (i_lt (x := x94_3) (y := 0)).mp c32
                refine lv_aload_n S.x S.b d_Mpg_checkCall_234 rfl (lv_at hl 0 rfl) ?_
                refine px_get S k_Mpg hT hw 0 0 22 (v := .ref (r 22)) rfl rfl rfl (by decide) m10_9 d_Mpg_checkCall_235 ?_
                refine lv_aload_n S.x S.b d_Mpg_checkCall_238 rfl (lv_at hl 0 rfl) ?_
                refine px_get S k_Mpg hT hw 0 0 39 (v := .ref (r 39)) rfl rfl rfl (by decide) m10_28 d_Mpg_checkCall_239 ?_
                refine lv_iload S.x S.b d_Mpg_checkCall_242 (lv_at hl 4 rfl) ?_
                refine px_iald S hT hw 0 26 (n := 260) (f := (ca 39)) rfl gp_39 (x := x94_4) (vp_in_iff.mpr (by constructor <;> omega)) d_Mpg_checkCall_244 ?_
                refine lv_topi (fun z33 ez33 => ?_)
                have lz33 := Int32.le_toInt z33
                have uz33 := Int32.toInt_lt z33
                have rz33 := FnT.at hft (x := x94_4) (by first | with_reducible rfl | with_reducible assumption | omega) (by first | with_reducible rfl | with_reducible assumption | omega) ez33
                refine px_iald S hT hw 0 18 (n := 2100) (f := (ma_94 22)) rfl gp_22 (x := z33) (vp_in_iff.mpr (by constructor <;> omega)) d_Mpg_checkCall_245 ?_
                refine lv_topi (fun z34 ez34 => ?_)
                have lz34 := Int32.le_toInt z34
                have uz34 := Int32.toInt_lt z34
                refine lv_iconst (v := 2) S.x S.b d_Mpg_checkCall_246 (by decide) ?_
                refine lv_icmp_ne (tgt := 254) S.x S.b d_Mpg_checkCall_247 (by decide) (fun c35 => ?_) (fun c35 => ?_)
                · have nc35 : ¬ z34.toInt = (2 : Int) := mt (i_eq (x := z34) (y := 2)).mpr c35
                  refine lv_iconst (v := 0) S.x S.b d_Mpg_checkCall_254 (by decide) ?_
                  refine lv_istore (lv' := [(7, .int 0), (0, .ref h), (1, .int p0), (2, .int x94_2), (3, .int x94_3), (4, .int x94_4), (5, .int x94_5), (6, .int x94_6)]) S.x S.b d_Mpg_checkCall_255 hl (by decide) rfl (fun ls hl => ?_)
                  refine lv_iload S.x S.b d_Mpg_checkCall_257 (lv_at hl 0 rfl) ?_
                  refine lv_if_eq (tgt := 266) S.x S.b d_Mpg_checkCall_259 (by decide) (fun c36 => ?_) (fun c36 => ?_)
                  ·
                    refine lv_iconst (v := 1) S.x S.b d_Mpg_checkCall_266 (by decide) ?_
                    exact px_iret (v := 1) S hr rfl hlk hAe hw (Nat.le_of_ble_eq_true rfl) (Nat.le_of_ble_eq_true rfl) (⟨ma_94, cf10, rfl, (show KpE cf cf10 from hke), (show WrV cf10 (tf 6).toInt from hwr), (show (cf10 33).toInt = (cf 33).toInt from by first | exact oz_1687f4cc65 k94_2 e16 | omega), (show (cf10 38).toInt = (cf 38).toInt from by first | exact oz_1687f4cc65 k94_3 e17 | omega), (show (cf10 48).toInt = (cf 48).toInt from by first | exact oz_1687f4cc65 k94_4 e18 | omega), (show (cf10 46).toInt = (cf 46).toInt from by first | exact oz_1687f4cc65 k94_5 e19 | omega), (show (cf10 47).toInt = (cf 47).toInt from by first | exact oz_1687f4cc65 k94_6 e20 | omega), (show (cf10 57).toInt = (cf 57).toInt from by first | exact oz_1687f4cc65 k94_7 e21 | omega), (show Ann na ma0 ma_94 from han), (show FrC lo hi ma ma_94 from hfc), (show 0 ≤ (1 : Int) from by first | decide | omega), (show (1 : Int) ≤ 4 from by first | decide | omega), (show ZTy cf10 (Gk ta ca na ma0 ns ys nf) na ma_94 lo hi p0 (1 : Int) from (zr_no (by first | with_reducible rfl | with_reducible assumption | omega)))⟩) d_Mpg_checkCall_267
                  · exact absurd c36 (by decide)
                · have nc35 : z34.toInt = (2 : Int) := (i_eq (x := z34) (y := 2)).mp c35
                  refine lv_iconst (v := 1) S.x S.b d_Mpg_checkCall_250 (by decide) ?_
                  refine lv_goto (tgt := 255) S.x S.b d_Mpg_checkCall_251 (by decide) ?_
                  refine lv_istore (lv' := [(7, .int 1), (0, .ref h), (1, .int p0), (2, .int x94_2), (3, .int x94_3), (4, .int x94_4), (5, .int x94_5), (6, .int x94_6)]) S.x S.b d_Mpg_checkCall_255 hl (by decide) rfl (fun ls hl => ?_)
                  refine lv_iload S.x S.b d_Mpg_checkCall_257 (lv_at hl 0 rfl) ?_
                  refine lv_if_eq (tgt := 266) S.x S.b d_Mpg_checkCall_259 (by decide) (fun c37 => ?_) (fun c37 => ?_)
                  · exact absurd c37 (by decide)
                  ·
                    refine lv_iconst (v := 4) S.x S.b d_Mpg_checkCall_262 (by decide) ?_
                    refine lv_goto (tgt := 267) S.x S.b d_Mpg_checkCall_263 (by decide) ?_
                    exact px_iret (v := 4) S hr rfl hlk hAe hw (Nat.le_of_ble_eq_true rfl) (Nat.le_of_ble_eq_true rfl) (⟨ma_94, cf10, rfl, (show KpE cf cf10 from hke), (show WrV cf10 (tf 6).toInt from hwr), (show (cf10 33).toInt = (cf 33).toInt from by first | exact oz_1687f4cc65 k94_2 e16 | omega), (show (cf10 38).toInt = (cf 38).toInt from by first | exact oz_1687f4cc65 k94_3 e17 | omega), (show (cf10 48).toInt = (cf 48).toInt from by first | exact oz_1687f4cc65 k94_4 e18 | omega), (show (cf10 46).toInt = (cf 46).toInt from by first | exact oz_1687f4cc65 k94_5 e19 | omega), (show (cf10 47).toInt = (cf 47).toInt from by first | exact oz_1687f4cc65 k94_6 e20 | omega), (show (cf10 57).toInt = (cf 57).toInt from by first | exact oz_1687f4cc65 k94_7 e21 | omega), (show Ann na ma0 ma_94 from han), (show FrC lo hi ma ma_94 from hfc), (show 0 ≤ (4 : Int) from by first | decide | omega), (show (4 : Int) ≤ 4 from by first | decide | omega), (show ZTy cf10 (Gk ta ca na ma0 ns ys nf) na ma_94 lo hi p0 (4 : Int) from (zr_no (by first | with_reducible rfl | with_reducible assumption | omega)))⟩) d_Mpg_checkCall_267
              · have nc32 : ¬ x94_3.toInt < (0 : Int) := mt (i_lt (x := x94_3) (y := 0)).mpr c32
                refine lv_aload_n S.x S.b d_Mpg_checkCall_211 rfl (lv_at hl 0 rfl) ?_
                refine px_get S k_Mpg hT hw 0 0 3 (v := .ref (r 3)) rfl rfl rfl (by decide) m9_227 d_Mpg_checkCall_212 ?_
                refine lv_iload_n S.x S.b d_Mpg_checkCall_215 rfl (lv_at hl 3 rfl) ?_
                have hclsk38 := cl_nat (x := x94_3) (by first | exact oz_18a5c06a28 nc32 | omega)
                obtain ⟨sk38, hgsk38, st39, hSsk38⟩ := hP.2.2.2.2.2.1 x94_3.toNatClampNeg (by first | with_reducible rfl | with_reducible assumption | omega)
                have hmsk38 := len_3 (i := x94_3.toNatClampNeg) (by first | with_reducible rfl | with_reducible assumption | omega)
                refine px_aaldS S hT hw 0 4 11 (n := 15) (f := (g 3)) rfl rfl rfl (x := x94_3) (vp_in_iff.mpr (by first | exact oz_891c5e5184 nc32 k94_11 | (constructor <;> omega))) hgsk38 d_Mpg_checkCall_216 ?_
                refine lv_iconst (v := 0) S.x S.b d_Mpg_checkCall_217 (by decide) ?_
                refine px_calli (pr := [wdP cs h r g tf ta pf na ma_94 wa cf10 ca ef ea xf xa]) (px_runV (As := [.int 0]) (rest := []) S (c_String_charAt l D cs sk38 st39 (tlen x94_3.toNatClampNeg) (tby x94_3.toNatClampNeg) 0  (show (tlen x94_3.toNatClampNeg) ≤ 1000000 from by first | with_reducible rfl | with_reducible assumption | omega) (show 0 ≤ (0 : Int) from by first | decide | omega) (show (0 : Int) < ((tlen x94_3.toNatClampNeg) : Int) from by first | with_reducible rfl | with_reducible assumption | omega) _) hT (pr := [wdP cs h r g tf ta pf na ma_94 wa cf10 ca ef ea xf xa]) (pcs := []) hw (oX_call (P := (fun A U H => (oF A U H) ∧ (oZ A U H) ∧ (oS A sk38 st39 (tlen x94_3.toNatClampNeg) (tby x94_3.toNatClampNeg) U H))) (pr := [wdP cs h r g tf ta pf na ma_94 wa cf10 ca ef ea xf xa]) (oG_and oG_F (oG_and oG_Z oG_S)) hw hA ⟨hF0, hZ, hSsk38⟩) (oS_recv hw hSsk38) m1_68 m11_162 m1_66 m1_67 m1_3 q_String_charAt ⟨show 3 + 1 ≤ (4 * d + 14) from by first | with_reducible rfl | with_reducible assumption | omega, show 8 + (2 + 11) + 90 ≤ (200 * d + 540) from by first | with_reducible rfl | with_reducible assumption | omega⟩ hl.1 rfl (Nat.le_of_ble_eq_true rfl) d_Mpg_checkCall_218 ⟨Nat.le_of_ble_eq_true rfl, Nat.le_of_ble_eq_true rfl⟩) hw hA (fun v41 p40 H locs hp40 hw => ?_)
                obtain ⟨rfl, e42⟩ := hp40
                have e42 : narrow .char (.int v41) = .int v41 := e42
                have hw : pw D A s.heap H locs [wdP cs h r g tf ta pf na ma_94 wa cf10 ca ef ea xf xa] := hw
                have lv41 := Int32.le_toInt v41
                have uv41 := Int32.toInt_lt v41
                refine lv_bipush (v := 118) S.x S.b d_Mpg_checkCall_221 (by decide) ?_
                refine lv_icmp_ne (tgt := 230) S.x S.b d_Mpg_checkCall_223 (by decide) (fun c43 => ?_) (fun c43 => ?_)
                · have nc43 : ¬ v41.toInt = (118 : Int) := mt (i_eq (x := v41) (y := 118)).mpr c43
                  refine lv_iconst (v := 0) S.x S.b d_Mpg_checkCall_230 (by decide) ?_
                  refine lv_goto (tgt := 255) S.x S.b d_Mpg_checkCall_231 (by decide) ?_
                  refine lv_istore (lv' := [(7, .int 0), (0, .ref h), (1, .int p0), (2, .int x94_2), (3, .int x94_3), (4, .int x94_4), (5, .int x94_5), (6, .int x94_6)]) S.x S.b d_Mpg_checkCall_255 hl (by decide) rfl (fun ls hl => ?_)
                  refine lv_iload S.x S.b d_Mpg_checkCall_257 (lv_at hl 0 rfl) ?_
                  refine lv_if_eq (tgt := 266) S.x S.b d_Mpg_checkCall_259 (by decide) (fun c44 => ?_) (fun c44 => ?_)
                  ·
                    refine lv_iconst (v := 1) S.x S.b d_Mpg_checkCall_266 (by decide) ?_
                    exact px_iret (v := 1) S hr rfl hlk hAe hw (Nat.le_of_ble_eq_true rfl) (Nat.le_of_ble_eq_true rfl) (⟨ma_94, cf10, rfl, (show KpE cf cf10 from hke), (show WrV cf10 (tf 6).toInt from hwr), (show (cf10 33).toInt = (cf 33).toInt from by first | exact oz_1687f4cc65 k94_2 e16 | omega), (show (cf10 38).toInt = (cf 38).toInt from by first | exact oz_1687f4cc65 k94_3 e17 | omega), (show (cf10 48).toInt = (cf 48).toInt from by first | exact oz_1687f4cc65 k94_4 e18 | omega), (show (cf10 46).toInt = (cf 46).toInt from by first | exact oz_1687f4cc65 k94_5 e19 | omega), (show (cf10 47).toInt = (cf 47).toInt from by first | exact oz_1687f4cc65 k94_6 e20 | omega), (show (cf10 57).toInt = (cf 57).toInt from by first | exact oz_1687f4cc65 k94_7 e21 | omega), (show Ann na ma0 ma_94 from han), (show FrC lo hi ma ma_94 from hfc), (show 0 ≤ (1 : Int) from by first | decide | omega), (show (1 : Int) ≤ 4 from by first | decide | omega), (show ZTy cf10 (Gk ta ca na ma0 ns ys nf) na ma_94 lo hi p0 (1 : Int) from (zr_no (by first | with_reducible rfl | with_reducible assumption | omega)))⟩) d_Mpg_checkCall_267
                  · exact absurd c44 (by decide)
                · have nc43 : v41.toInt = (118 : Int) := (i_eq (x := v41) (y := 118)).mp c43
                  refine lv_iconst (v := 1) S.x S.b d_Mpg_checkCall_226 (by decide) ?_
                  refine lv_goto (tgt := 255) S.x S.b d_Mpg_checkCall_227 (by decide) ?_
                  refine lv_istore (lv' := [(7, .int 1), (0, .ref h), (1, .int p0), (2, .int x94_2), (3, .int x94_3), (4, .int x94_4), (5, .int x94_5), (6, .int x94_6)]) S.x S.b d_Mpg_checkCall_255 hl (by decide) rfl (fun ls hl => ?_)
                  refine lv_iload S.x S.b d_Mpg_checkCall_257 (lv_at hl 0 rfl) ?_
                  refine lv_if_eq (tgt := 266) S.x S.b d_Mpg_checkCall_259 (by decide) (fun c45 => ?_) (fun c45 => ?_)
                  · exact absurd c45 (by decide)
                  ·
                    refine lv_iconst (v := 4) S.x S.b d_Mpg_checkCall_262 (by decide) ?_
                    refine lv_goto (tgt := 267) S.x S.b d_Mpg_checkCall_263 (by decide) ?_
                    exact px_iret (v := 4) S hr rfl hlk hAe hw (Nat.le_of_ble_eq_true rfl) (Nat.le_of_ble_eq_true rfl) (⟨ma_94, cf10, rfl, (show KpE cf cf10 from hke), (show WrV cf10 (tf 6).toInt from hwr), (show (cf10 33).toInt = (cf 33).toInt from by first | exact oz_1687f4cc65 k94_2 e16 | omega), (show (cf10 38).toInt = (cf 38).toInt from by first | exact oz_1687f4cc65 k94_3 e17 | omega), (show (cf10 48).toInt = (cf 48).toInt from by first | exact oz_1687f4cc65 k94_4 e18 | omega), (show (cf10 46).toInt = (cf 46).toInt from by first | exact oz_1687f4cc65 k94_5 e19 | omega), (show (cf10 47).toInt = (cf 47).toInt from by first | exact oz_1687f4cc65 k94_6 e20 | omega), (show (cf10 57).toInt = (cf 57).toInt from by first | exact oz_1687f4cc65 k94_7 e21 | omega), (show Ann na ma0 ma_94 from han), (show FrC lo hi ma ma_94 from hfc), (show 0 ≤ (4 : Int) from by first | decide | omega), (show (4 : Int) ≤ 4 from by first | decide | omega), (show ZTy cf10 (Gk ta ca na ma0 ns ys nf) na ma_94 lo hi p0 (4 : Int) from (zr_no (by first | with_reducible rfl | with_reducible assumption | omega)))⟩) d_Mpg_checkCall_267
            · have nc8 : ¬ v6.toInt = (32 : Int) := mt (i_eq (x := v6) (y := 32)).mpr c8
              refine lv_aload_n S.x S.b d_Mpg_checkCall_187 rfl (lv_at hl 0 rfl) ?_
              refine lv_iload S.x S.b d_Mpg_checkCall_188 (lv_at hl 4 rfl) ?_
              refine lv_iload_n S.x S.b d_Mpg_checkCall_190 rfl (lv_at hl 3 rfl) ?_
              refine lv_iload S.x S.b d_Mpg_checkCall_191 (lv_at hl 6 rfl) ?_
              refine px_calli (pr := []) (px_runV (As := [.int x94_4, .int x94_3, .int x94_6]) (rest := []) S (c_mp_taken l D cs h r g tf ta pf na ma_94 wa cf_94 ca ef ea xf xa x94_4 x94_3 x94_6  (show -1 ≤ x94_4.toInt from by first | exact k94_12 | omega) (show x94_4.toInt < (cf_94 38).toInt from by first | exact oz_0f2ac8ea3f k94_3 k94_13 g7 | omega) (show x94_4.toInt < 0 → 0 ≤ x94_3.toInt ∧ x94_3.toInt < 10 from by first | with_reducible rfl | with_reducible assumption | omega) (show 0 ≤ x94_6.toInt from by first | exact k94_18 | omega) (show x94_6.toInt ≤ 4000 from by first | exact oz_2634073f30 k94_19 hrg.2.2 k94_23 g1 g2 | omega) (show 0 ≤ (cf_94 38).toInt from by first | exact oz_e2fef14871 k94_3 g7 g8 | omega) htk (FnT.eq hft (by first | with_reducible rfl | with_reducible assumption | omega)) (FnP.eq hfp (by first | with_reducible rfl | with_reducible assumption | omega)) _) hT (pr := []) (pcs := [wdP cs h r g tf ta pf na ma_94 wa cf_94 ca ef ea xf xa]) hw (oX_call (P := (fun A U H => (oP A g U H))) (pr := []) oG_P hw hA hP) (px_recv hT hw 0 0 rfl rfl rfl) m12_229 m12_226 m12_228 ms_12_10 m1_21 q_Mpg_taken ⟨show 4 + 1 ≤ (4 * d + 14) from by first | with_reducible rfl | with_reducible assumption | omega, show 8 + (6 + 11) + 140 ≤ (200 * d + 540) from by first | with_reducible rfl | with_reducible assumption | omega⟩ hl.1 rfl (Nat.le_of_ble_eq_true rfl) d_Mpg_checkCall_193 ⟨Nat.le_of_ble_eq_true rfl, Nat.le_of_ble_eq_true rfl⟩) hw hA (fun v47 p46 H locs hp46 hw => ?_)
              obtain ⟨rfl, e48⟩ := hp46
              have e48 : TkV na ma_94 ca x94_4.toInt x94_3.toInt x94_6.toInt v47.toInt := e48
              have hw : pw D A s.heap H locs [wdP cs h r g tf ta pf na ma_94 wa cf_94 ca ef ea xf xa] := hw
              have lv47 := Int32.le_toInt v47
              have uv47 := Int32.toInt_lt v47
              have hcn_193 : CeN nf (cod x94_4.toInt x94_3.toInt) := cen_mk (by first | with_reducible rfl | with_reducible assumption | omega); have htv_193 := tkv_at (ta := ta) (ns := ns) (ys := ys) e48 han hfp hcn_193; have htg_193 := tkv_rng e48 hcn_193
              refine lv_bipush (v := 32) S.x S.b d_Mpg_checkCall_196 (by decide) ?_
              refine lv_icmp_eq (tgt := 207) S.x S.b d_Mpg_checkCall_198 (by decide) (fun c49 => ?_) (fun c49 => ?_)
              · have nc49 : v47.toInt = (32 : Int) := (i_eq (x := v47) (y := 32)).mp c49
                refine lv_iload_n S.x S.b d_Mpg_checkCall_207 rfl (lv_at hl 3 rfl) ?_
                refine lv_if_lt (tgt := 234) S.x S.b d_Mpg_checkCall_208 (by decide) (fun c50 => ?_) (fun c50 => ?_)
                · have nc50 : x94_3.toInt < (0 : Int) := (i_lt (x := x94_3) (y := 0)).mp c50
                  refine lv_aload_n S.x S.b d_Mpg_checkCall_234 rfl (lv_at hl 0 rfl) ?_
                  refine px_get S k_Mpg hT hw 0 0 22 (v := .ref (r 22)) rfl rfl rfl (by decide) m10_9 d_Mpg_checkCall_235 ?_
                  refine lv_aload_n S.x S.b d_Mpg_checkCall_238 rfl (lv_at hl 0 rfl) ?_
                  refine px_get S k_Mpg hT hw 0 0 39 (v := .ref (r 39)) rfl rfl rfl (by decide) m10_28 d_Mpg_checkCall_239 ?_
                  refine lv_iload S.x S.b d_Mpg_checkCall_242 (lv_at hl 4 rfl) ?_
                  refine px_iald S hT hw 0 26 (n := 260) (f := (ca 39)) rfl gp_39 (x := x94_4) (vp_in_iff.mpr (by constructor <;> omega)) d_Mpg_checkCall_244 ?_
                  refine lv_topi (fun z51 ez51 => ?_)
                  have lz51 := Int32.le_toInt z51
                  have uz51 := Int32.toInt_lt z51
                  have rz51 := FnT.at hft (x := x94_4) (by first | with_reducible rfl | with_reducible assumption | omega) (by first | with_reducible rfl | with_reducible assumption | omega) ez51
                  refine px_iald S hT hw 0 18 (n := 2100) (f := (ma_94 22)) rfl gp_22 (x := z51) (vp_in_iff.mpr (by constructor <;> omega)) d_Mpg_checkCall_245 ?_
                  refine lv_topi (fun z52 ez52 => ?_)
                  have lz52 := Int32.le_toInt z52
                  have uz52 := Int32.toInt_lt z52
                  refine lv_iconst (v := 2) S.x S.b d_Mpg_checkCall_246 (by decide) ?_
                  refine lv_icmp_ne (tgt := 254) S.x S.b d_Mpg_checkCall_247 (by decide) (fun c53 => ?_) (fun c53 => ?_)
                  · have nc53 : ¬ z52.toInt = (2 : Int) := mt (i_eq (x := z52) (y := 2)).mpr c53
                    refine lv_iconst (v := 0) S.x S.b d_Mpg_checkCall_254 (by decide) ?_
                    refine lv_istore (lv' := [(7, .int 0), (0, .ref h), (1, .int p0), (2, .int x94_2), (3, .int x94_3), (4, .int x94_4), (5, .int x94_5), (6, .int x94_6)]) S.x S.b d_Mpg_checkCall_255 hl (by decide) rfl (fun ls hl => ?_)
                    refine lv_iload S.x S.b d_Mpg_checkCall_257 (lv_at hl 0 rfl) ?_
                    refine lv_if_eq (tgt := 266) S.x S.b d_Mpg_checkCall_259 (by decide) (fun c54 => ?_) (fun c54 => ?_)
                    ·
                      refine lv_iconst (v := 1) S.x S.b d_Mpg_checkCall_266 (by decide) ?_
                      exact px_iret (v := 1) S hr rfl hlk hAe hw (Nat.le_of_ble_eq_true rfl) (Nat.le_of_ble_eq_true rfl) (⟨ma_94, cf_94, rfl, (show KpE cf cf_94 from hke), (show WrV cf_94 (tf 6).toInt from hwr), (show (cf_94 33).toInt = (cf 33).toInt from by first | exact k94_2 | omega), (show (cf_94 38).toInt = (cf 38).toInt from by first | exact k94_3 | omega), (show (cf_94 48).toInt = (cf 48).toInt from by first | exact k94_4 | omega), (show (cf_94 46).toInt = (cf 46).toInt from by first | exact k94_5 | omega), (show (cf_94 47).toInt = (cf 47).toInt from by first | exact k94_6 | omega), (show (cf_94 57).toInt = (cf 57).toInt from by first | exact k94_7 | omega), (show Ann na ma0 ma_94 from han), (show FrC lo hi ma ma_94 from hfc), (show 0 ≤ (1 : Int) from by first | decide | omega), (show (1 : Int) ≤ 4 from by first | decide | omega), (show ZTy cf_94 (Gk ta ca na ma0 ns ys nf) na ma_94 lo hi p0 (1 : Int) from (call_ty hrg (by first | with_reducible rfl | with_reducible assumption | omega) (hkb (by first | with_reducible rfl | with_reducible assumption | omega)) (cen_mk (by first | with_reducible rfl | with_reducible assumption | omega)) rfl (ZTy_le hzta (by first | with_reducible rfl | with_reducible assumption | omega)) (by first | with_reducible rfl | with_reducible assumption | omega) (by first | with_reducible rfl | with_reducible assumption | omega) (by rw [← htv_193]; omega) (Or.inr (by rw [show x94_6.toInt - 1 = z4.toInt by omega, ← htv_179]; omega)) (by first | with_reducible rfl | with_reducible assumption | omega)))⟩) d_Mpg_checkCall_267
                    · exact absurd c54 (by decide)
                  · have nc53 : z52.toInt = (2 : Int) := (i_eq (x := z52) (y := 2)).mp c53
                    refine lv_iconst (v := 1) S.x S.b d_Mpg_checkCall_250 (by decide) ?_
                    refine lv_goto (tgt := 255) S.x S.b d_Mpg_checkCall_251 (by decide) ?_
                    refine lv_istore (lv' := [(7, .int 1), (0, .ref h), (1, .int p0), (2, .int x94_2), (3, .int x94_3), (4, .int x94_4), (5, .int x94_5), (6, .int x94_6)]) S.x S.b d_Mpg_checkCall_255 hl (by decide) rfl (fun ls hl => ?_)
                    refine lv_iload S.x S.b d_Mpg_checkCall_257 (lv_at hl 0 rfl) ?_
                    refine lv_if_eq (tgt := 266) S.x S.b d_Mpg_checkCall_259 (by decide) (fun c55 => ?_) (fun c55 => ?_)
                    · exact absurd c55 (by decide)
                    ·
                      refine lv_iconst (v := 4) S.x S.b d_Mpg_checkCall_262 (by decide) ?_
                      refine lv_goto (tgt := 267) S.x S.b d_Mpg_checkCall_263 (by decide) ?_
                      exact px_iret (v := 4) S hr rfl hlk hAe hw (Nat.le_of_ble_eq_true rfl) (Nat.le_of_ble_eq_true rfl) (⟨ma_94, cf_94, rfl, (show KpE cf cf_94 from hke), (show WrV cf_94 (tf 6).toInt from hwr), (show (cf_94 33).toInt = (cf 33).toInt from by first | exact k94_2 | omega), (show (cf_94 38).toInt = (cf 38).toInt from by first | exact k94_3 | omega), (show (cf_94 48).toInt = (cf 48).toInt from by first | exact k94_4 | omega), (show (cf_94 46).toInt = (cf 46).toInt from by first | exact k94_5 | omega), (show (cf_94 47).toInt = (cf 47).toInt from by first | exact k94_6 | omega), (show (cf_94 57).toInt = (cf 57).toInt from by first | exact k94_7 | omega), (show Ann na ma0 ma_94 from han), (show FrC lo hi ma ma_94 from hfc), (show 0 ≤ (4 : Int) from by first | decide | omega), (show (4 : Int) ≤ 4 from by first | decide | omega), (show ZTy cf_94 (Gk ta ca na ma0 ns ys nf) na ma_94 lo hi p0 (4 : Int) from (call_ty hrg (by first | with_reducible rfl | with_reducible assumption | omega) (hkb (by first | with_reducible rfl | with_reducible assumption | omega)) (cen_mk (by first | with_reducible rfl | with_reducible assumption | omega)) rfl (ZTy_le hzta (by first | with_reducible rfl | with_reducible assumption | omega)) (by first | with_reducible rfl | with_reducible assumption | omega) (by first | with_reducible rfl | with_reducible assumption | omega) (by rw [← htv_193]; omega) (Or.inr (by rw [show x94_6.toInt - 1 = z4.toInt by omega, ← htv_179]; omega)) (by first | with_reducible rfl | with_reducible assumption | omega)))⟩) d_Mpg_checkCall_267
                · have nc50 : ¬ x94_3.toInt < (0 : Int) := mt (i_lt (x := x94_3) (y := 0)).mpr c50
                  refine lv_aload_n S.x S.b d_Mpg_checkCall_211 rfl (lv_at hl 0 rfl) ?_
                  refine px_get S k_Mpg hT hw 0 0 3 (v := .ref (r 3)) rfl rfl rfl (by decide) m9_227 d_Mpg_checkCall_212 ?_
                  refine lv_iload_n S.x S.b d_Mpg_checkCall_215 rfl (lv_at hl 3 rfl) ?_
                  have hclsk56 := cl_nat (x := x94_3) (by first | exact oz_18a5c06a28 nc50 | omega)
                  obtain ⟨sk56, hgsk56, st57, hSsk56⟩ := hP.2.2.2.2.2.1 x94_3.toNatClampNeg (by first | with_reducible rfl | with_reducible assumption | omega)
                  have hmsk56 := len_3 (i := x94_3.toNatClampNeg) (by first | with_reducible rfl | with_reducible assumption | omega)
                  refine px_aaldS S hT hw 0 4 11 (n := 15) (f := (g 3)) rfl rfl rfl (x := x94_3) (vp_in_iff.mpr (by first | exact oz_891c5e5184 nc50 k94_11 | (constructor <;> omega))) hgsk56 d_Mpg_checkCall_216 ?_
                  refine lv_iconst (v := 0) S.x S.b d_Mpg_checkCall_217 (by decide) ?_
                  refine px_calli (pr := [wdP cs h r g tf ta pf na ma_94 wa cf_94 ca ef ea xf xa]) (px_runV (As := [.int 0]) (rest := []) S (c_String_charAt l D cs sk56 st57 (tlen x94_3.toNatClampNeg) (tby x94_3.toNatClampNeg) 0  (show (tlen x94_3.toNatClampNeg) ≤ 1000000 from by first | with_reducible rfl | with_reducible assumption | omega) (show 0 ≤ (0 : Int) from by first | decide | omega) (show (0 : Int) < ((tlen x94_3.toNatClampNeg) : Int) from by first | with_reducible rfl | with_reducible assumption | omega) _) hT (pr := [wdP cs h r g tf ta pf na ma_94 wa cf_94 ca ef ea xf xa]) (pcs := []) hw (oX_call (P := (fun A U H => (oF A U H) ∧ (oZ A U H) ∧ (oS A sk56 st57 (tlen x94_3.toNatClampNeg) (tby x94_3.toNatClampNeg) U H))) (pr := [wdP cs h r g tf ta pf na ma_94 wa cf_94 ca ef ea xf xa]) (oG_and oG_F (oG_and oG_Z oG_S)) hw hA ⟨hF0, hZ, hSsk56⟩) (oS_recv hw hSsk56) m1_68 m11_162 m1_66 m1_67 m1_3 q_String_charAt ⟨show 3 + 1 ≤ (4 * d + 14) from by first | with_reducible rfl | with_reducible assumption | omega, show 8 + (2 + 11) + 90 ≤ (200 * d + 540) from by first | with_reducible rfl | with_reducible assumption | omega⟩ hl.1 rfl (Nat.le_of_ble_eq_true rfl) d_Mpg_checkCall_218 ⟨Nat.le_of_ble_eq_true rfl, Nat.le_of_ble_eq_true rfl⟩) hw hA (fun v59 p58 H locs hp58 hw => ?_)
                  obtain ⟨rfl, e60⟩ := hp58
                  have e60 : narrow .char (.int v59) = .int v59 := e60
                  have hw : pw D A s.heap H locs [wdP cs h r g tf ta pf na ma_94 wa cf_94 ca ef ea xf xa] := hw
                  have lv59 := Int32.le_toInt v59
                  have uv59 := Int32.toInt_lt v59
                  refine lv_bipush (v := 118) S.x S.b d_Mpg_checkCall_221 (by decide) ?_
                  refine lv_icmp_ne (tgt := 230) S.x S.b d_Mpg_checkCall_223 (by decide) (fun c61 => ?_) (fun c61 => ?_)
                  · have nc61 : ¬ v59.toInt = (118 : Int) := mt (i_eq (x := v59) (y := 118)).mpr c61
                    refine lv_iconst (v := 0) S.x S.b d_Mpg_checkCall_230 (by decide) ?_
                    refine lv_goto (tgt := 255) S.x S.b d_Mpg_checkCall_231 (by decide) ?_
                    refine lv_istore (lv' := [(7, .int 0), (0, .ref h), (1, .int p0), (2, .int x94_2), (3, .int x94_3), (4, .int x94_4), (5, .int x94_5), (6, .int x94_6)]) S.x S.b d_Mpg_checkCall_255 hl (by decide) rfl (fun ls hl => ?_)
                    refine lv_iload S.x S.b d_Mpg_checkCall_257 (lv_at hl 0 rfl) ?_
                    refine lv_if_eq (tgt := 266) S.x S.b d_Mpg_checkCall_259 (by decide) (fun c62 => ?_) (fun c62 => ?_)
                    ·
                      refine lv_iconst (v := 1) S.x S.b d_Mpg_checkCall_266 (by decide) ?_
                      exact px_iret (v := 1) S hr rfl hlk hAe hw (Nat.le_of_ble_eq_true rfl) (Nat.le_of_ble_eq_true rfl) (⟨ma_94, cf_94, rfl, (show KpE cf cf_94 from hke), (show WrV cf_94 (tf 6).toInt from hwr), (show (cf_94 33).toInt = (cf 33).toInt from by first | exact k94_2 | omega), (show (cf_94 38).toInt = (cf 38).toInt from by first | exact k94_3 | omega), (show (cf_94 48).toInt = (cf 48).toInt from by first | exact k94_4 | omega), (show (cf_94 46).toInt = (cf 46).toInt from by first | exact k94_5 | omega), (show (cf_94 47).toInt = (cf 47).toInt from by first | exact k94_6 | omega), (show (cf_94 57).toInt = (cf 57).toInt from by first | exact k94_7 | omega), (show Ann na ma0 ma_94 from han), (show FrC lo hi ma ma_94 from hfc), (show 0 ≤ (1 : Int) from by first | decide | omega), (show (1 : Int) ≤ 4 from by first | decide | omega), (show ZTy cf_94 (Gk ta ca na ma0 ns ys nf) na ma_94 lo hi p0 (1 : Int) from (call_ty hrg (by first | with_reducible rfl | with_reducible assumption | omega) (hkb (by first | with_reducible rfl | with_reducible assumption | omega)) (cen_mk (by first | with_reducible rfl | with_reducible assumption | omega)) rfl (ZTy_le hzta (by first | with_reducible rfl | with_reducible assumption | omega)) (by first | with_reducible rfl | with_reducible assumption | omega) (by first | with_reducible rfl | with_reducible assumption | omega) (by rw [← htv_193]; omega) (Or.inr (by rw [show x94_6.toInt - 1 = z4.toInt by omega, ← htv_179]; omega)) (by first | with_reducible rfl | with_reducible assumption | omega)))⟩) d_Mpg_checkCall_267
                    · exact absurd c62 (by decide)
                  · have nc61 : v59.toInt = (118 : Int) := (i_eq (x := v59) (y := 118)).mp c61
                    refine lv_iconst (v := 1) S.x S.b d_Mpg_checkCall_226 (by decide) ?_
                    refine lv_goto (tgt := 255) S.x S.b d_Mpg_checkCall_227 (by decide) ?_
                    refine lv_istore (lv' := [(7, .int 1), (0, .ref h), (1, .int p0), (2, .int x94_2), (3, .int x94_3), (4, .int x94_4), (5, .int x94_5), (6, .int x94_6)]) S.x S.b d_Mpg_checkCall_255 hl (by decide) rfl (fun ls hl => ?_)
                    refine lv_iload S.x S.b d_Mpg_checkCall_257 (lv_at hl 0 rfl) ?_
                    refine lv_if_eq (tgt := 266) S.x S.b d_Mpg_checkCall_259 (by decide) (fun c63 => ?_) (fun c63 => ?_)
                    · exact absurd c63 (by decide)
                    ·
                      refine lv_iconst (v := 4) S.x S.b d_Mpg_checkCall_262 (by decide) ?_
                      refine lv_goto (tgt := 267) S.x S.b d_Mpg_checkCall_263 (by decide) ?_
                      exact px_iret (v := 4) S hr rfl hlk hAe hw (Nat.le_of_ble_eq_true rfl) (Nat.le_of_ble_eq_true rfl) (⟨ma_94, cf_94, rfl, (show KpE cf cf_94 from hke), (show WrV cf_94 (tf 6).toInt from hwr), (show (cf_94 33).toInt = (cf 33).toInt from by first | exact k94_2 | omega), (show (cf_94 38).toInt = (cf 38).toInt from by first | exact k94_3 | omega), (show (cf_94 48).toInt = (cf 48).toInt from by first | exact k94_4 | omega), (show (cf_94 46).toInt = (cf 46).toInt from by first | exact k94_5 | omega), (show (cf_94 47).toInt = (cf 47).toInt from by first | exact k94_6 | omega), (show (cf_94 57).toInt = (cf 57).toInt from by first | exact k94_7 | omega), (show Ann na ma0 ma_94 from han), (show FrC lo hi ma ma_94 from hfc), (show 0 ≤ (4 : Int) from by first | decide | omega), (show (4 : Int) ≤ 4 from by first | decide | omega), (show ZTy cf_94 (Gk ta ca na ma0 ns ys nf) na ma_94 lo hi p0 (4 : Int) from (call_ty hrg (by first | with_reducible rfl | with_reducible assumption | omega) (hkb (by first | with_reducible rfl | with_reducible assumption | omega)) (cen_mk (by first | with_reducible rfl | with_reducible assumption | omega)) rfl (ZTy_le hzta (by first | with_reducible rfl | with_reducible assumption | omega)) (by first | with_reducible rfl | with_reducible assumption | omega) (by first | with_reducible rfl | with_reducible assumption | omega) (by rw [← htv_193]; omega) (Or.inr (by rw [show x94_6.toInt - 1 = z4.toInt by omega, ← htv_179]; omega)) (by first | with_reducible rfl | with_reducible assumption | omega)))⟩) d_Mpg_checkCall_267
              · have nc49 : ¬ v47.toInt = (32 : Int) := mt (i_eq (x := v47) (y := 32)).mpr c49
                refine lv_aload_n S.x S.b d_Mpg_checkCall_201 rfl (lv_at hl 0 rfl) ?_
                refine lv_iconst (v := 4) S.x S.b d_Mpg_checkCall_202 (by decide) ?_
                refine lv_iload_n S.x S.b d_Mpg_checkCall_203 rfl (lv_at hl 2 rfl) ?_
                refine px_callv (pr := []) (px_runV (As := [.int 4, .int x94_2]) (rest := []) S (c_mp_bad l D cs h r g tf ta pf na ma_94 wa ca ef ea xf xa cf_94 4 x94_2  (show 1 ≤ (4 : Int) from by first | decide | omega) (show 0 ≤ x94_2.toInt from by first | exact k94_20 | omega) (show x94_2.toInt < (tf 6).toInt from by first | exact k94_21 | omega) htk hwr _) hT (pr := []) (pcs := [wdP cs h r g tf ta pf na ma_94 wa cf_94 ca ef ea xf xa]) hw px_X.tt (px_recv hT hw 0 0 rfl rfl rfl) m12_173 m12_170 m12_172 ms_11_12 m1_21 q_Mpg_bad ⟨show 0 + 1 ≤ (4 * d + 14) from by first | with_reducible rfl | with_reducible assumption | omega, show 8 + (3 + 11) + 0 ≤ (200 * d + 540) from by first | with_reducible rfl | with_reducible assumption | omega⟩ hl.1 rfl (Nat.le_of_ble_eq_true rfl) d_Mpg_checkCall_204 ⟨Nat.le_of_ble_eq_true rfl, Nat.le_of_ble_eq_true rfl⟩) hw hA (fun p66 H locs hp66 hw => ?_)
                obtain ⟨cf65, rfl, e68, e69, e70, e71, e72, e73, e74, e75, e76, e77, e78, e79, e80, e81, e82, e83, e84, e85, e86⟩ := hp66
                have e68 : KpE cf_94 cf65 := e68
                have hke := (hke).tr e68
                have hkz_e68 := e68.2
                have hzta := Zr.kp hzta e68 id
                have e69 : WrV cf65 (tf 6).toInt := e69
                have hwr := e69
                have hw0_e69 := hwr.1
                have e70 : 1 ≤ (cf65 30).toInt := e70
                have e71 : (cf65 33).toInt = (cf_94 33).toInt := e71
                have e72 : (cf65 38).toInt = (cf_94 38).toInt := e72
                have e73 : (cf65 48).toInt = (cf_94 48).toInt := e73
                have e74 : (cf65 46).toInt = (cf_94 46).toInt := e74
                have e75 : (cf65 47).toInt = (cf_94 47).toInt := e75
                have e76 : (cf65 57).toInt = (cf_94 57).toInt := e76
                have e77 : (cf65 37).toInt = (cf_94 37).toInt := e77
                have e78 : (cf65 42).toInt = (cf_94 42).toInt := e78
                have e79 : (cf65 43).toInt = (cf_94 43).toInt := e79
                have e80 : (cf65 44).toInt = (cf_94 44).toInt := e80
                have e81 : (cf65 45).toInt = (cf_94 45).toInt := e81
                have e82 : (cf65 54).toInt = (cf_94 54).toInt := e82
                have e83 : (cf65 55).toInt = (cf_94 55).toInt := e83
                have e84 : (cf65 58).toInt = (cf_94 58).toInt := e84
                have e85 : (cf65 59).toInt = (cf_94 59).toInt := e85
                have e86 : (cf65 41).toInt = (cf_94 41).toInt := e86
                have hw : pw D A s.heap H locs [wdP cs h r g tf ta pf na ma_94 wa cf65 ca ef ea xf xa] := hw
                refine lv_iload_n S.x S.b d_Mpg_checkCall_207 rfl (lv_at hl 3 rfl) ?_
                refine lv_if_lt (tgt := 234) S.x S.b d_Mpg_checkCall_208 (by decide) (fun c87 => ?_) (fun c87 => ?_)
                · have nc87 : x94_3.toInt < (0 : Int) := (i_lt (x := x94_3) (y := 0)).mp c87
                  refine lv_aload_n S.x S.b d_Mpg_checkCall_234 rfl (lv_at hl 0 rfl) ?_
                  refine px_get S k_Mpg hT hw 0 0 22 (v := .ref (r 22)) rfl rfl rfl (by decide) m10_9 d_Mpg_checkCall_235 ?_
                  refine lv_aload_n S.x S.b d_Mpg_checkCall_238 rfl (lv_at hl 0 rfl) ?_
                  refine px_get S k_Mpg hT hw 0 0 39 (v := .ref (r 39)) rfl rfl rfl (by decide) m10_28 d_Mpg_checkCall_239 ?_
                  refine lv_iload S.x S.b d_Mpg_checkCall_242 (lv_at hl 4 rfl) ?_
                  refine px_iald S hT hw 0 26 (n := 260) (f := (ca 39)) rfl gp_39 (x := x94_4) (vp_in_iff.mpr (by constructor <;> omega)) d_Mpg_checkCall_244 ?_
                  refine lv_topi (fun z88 ez88 => ?_)
                  have lz88 := Int32.le_toInt z88
                  have uz88 := Int32.toInt_lt z88
                  have rz88 := FnT.at hft (x := x94_4) (by first | with_reducible rfl | with_reducible assumption | omega) (by first | with_reducible rfl | with_reducible assumption | omega) ez88
                  refine px_iald S hT hw 0 18 (n := 2100) (f := (ma_94 22)) rfl gp_22 (x := z88) (vp_in_iff.mpr (by constructor <;> omega)) d_Mpg_checkCall_245 ?_
                  refine lv_topi (fun z89 ez89 => ?_)
                  have lz89 := Int32.le_toInt z89
                  have uz89 := Int32.toInt_lt z89
                  refine lv_iconst (v := 2) S.x S.b d_Mpg_checkCall_246 (by decide) ?_
                  refine lv_icmp_ne (tgt := 254) S.x S.b d_Mpg_checkCall_247 (by decide) (fun c90 => ?_) (fun c90 => ?_)
                  · have nc90 : ¬ z89.toInt = (2 : Int) := mt (i_eq (x := z89) (y := 2)).mpr c90
                    refine lv_iconst (v := 0) S.x S.b d_Mpg_checkCall_254 (by decide) ?_
                    refine lv_istore (lv' := [(7, .int 0), (0, .ref h), (1, .int p0), (2, .int x94_2), (3, .int x94_3), (4, .int x94_4), (5, .int x94_5), (6, .int x94_6)]) S.x S.b d_Mpg_checkCall_255 hl (by decide) rfl (fun ls hl => ?_)
                    refine lv_iload S.x S.b d_Mpg_checkCall_257 (lv_at hl 0 rfl) ?_
                    refine lv_if_eq (tgt := 266) S.x S.b d_Mpg_checkCall_259 (by decide) (fun c91 => ?_) (fun c91 => ?_)
                    ·
                      refine lv_iconst (v := 1) S.x S.b d_Mpg_checkCall_266 (by decide) ?_
                      exact px_iret (v := 1) S hr rfl hlk hAe hw (Nat.le_of_ble_eq_true rfl) (Nat.le_of_ble_eq_true rfl) (⟨ma_94, cf65, rfl, (show KpE cf cf65 from hke), (show WrV cf65 (tf 6).toInt from hwr), (show (cf65 33).toInt = (cf 33).toInt from by first | exact oz_1687f4cc65 k94_2 e71 | omega), (show (cf65 38).toInt = (cf 38).toInt from by first | exact oz_1687f4cc65 k94_3 e72 | omega), (show (cf65 48).toInt = (cf 48).toInt from by first | exact oz_1687f4cc65 k94_4 e73 | omega), (show (cf65 46).toInt = (cf 46).toInt from by first | exact oz_1687f4cc65 k94_5 e74 | omega), (show (cf65 47).toInt = (cf 47).toInt from by first | exact oz_1687f4cc65 k94_6 e75 | omega), (show (cf65 57).toInt = (cf 57).toInt from by first | exact oz_1687f4cc65 k94_7 e76 | omega), (show Ann na ma0 ma_94 from han), (show FrC lo hi ma ma_94 from hfc), (show 0 ≤ (1 : Int) from by first | decide | omega), (show (1 : Int) ≤ 4 from by first | decide | omega), (show ZTy cf65 (Gk ta ca na ma0 ns ys nf) na ma_94 lo hi p0 (1 : Int) from (zr_no (by first | with_reducible rfl | with_reducible assumption | omega)))⟩) d_Mpg_checkCall_267
                    · exact absurd c91 (by decide)
                  · have nc90 : z89.toInt = (2 : Int) := (i_eq (x := z89) (y := 2)).mp c90
                    refine lv_iconst (v := 1) S.x S.b d_Mpg_checkCall_250 (by decide) ?_
                    refine lv_goto (tgt := 255) S.x S.b d_Mpg_checkCall_251 (by decide) ?_
                    refine lv_istore (lv' := [(7, .int 1), (0, .ref h), (1, .int p0), (2, .int x94_2), (3, .int x94_3), (4, .int x94_4), (5, .int x94_5), (6, .int x94_6)]) S.x S.b d_Mpg_checkCall_255 hl (by decide) rfl (fun ls hl => ?_)
                    refine lv_iload S.x S.b d_Mpg_checkCall_257 (lv_at hl 0 rfl) ?_
                    refine lv_if_eq (tgt := 266) S.x S.b d_Mpg_checkCall_259 (by decide) (fun c92 => ?_) (fun c92 => ?_)
                    · exact absurd c92 (by decide)
                    ·
                      refine lv_iconst (v := 4) S.x S.b d_Mpg_checkCall_262 (by decide) ?_
                      refine lv_goto (tgt := 267) S.x S.b d_Mpg_checkCall_263 (by decide) ?_
                      exact px_iret (v := 4) S hr rfl hlk hAe hw (Nat.le_of_ble_eq_true rfl) (Nat.le_of_ble_eq_true rfl) (⟨ma_94, cf65, rfl, (show KpE cf cf65 from hke), (show WrV cf65 (tf 6).toInt from hwr), (show (cf65 33).toInt = (cf 33).toInt from by first | exact oz_1687f4cc65 k94_2 e71 | omega), (show (cf65 38).toInt = (cf 38).toInt from by first | exact oz_1687f4cc65 k94_3 e72 | omega), (show (cf65 48).toInt = (cf 48).toInt from by first | exact oz_1687f4cc65 k94_4 e73 | omega), (show (cf65 46).toInt = (cf 46).toInt from by first | exact oz_1687f4cc65 k94_5 e74 | omega), (show (cf65 47).toInt = (cf 47).toInt from by first | exact oz_1687f4cc65 k94_6 e75 | omega), (show (cf65 57).toInt = (cf 57).toInt from by first | exact oz_1687f4cc65 k94_7 e76 | omega), (show Ann na ma0 ma_94 from han), (show FrC lo hi ma ma_94 from hfc), (show 0 ≤ (4 : Int) from by first | decide | omega), (show (4 : Int) ≤ 4 from by first | decide | omega), (show ZTy cf65 (Gk ta ca na ma0 ns ys nf) na ma_94 lo hi p0 (4 : Int) from (zr_no (by first | with_reducible rfl | with_reducible assumption | omega)))⟩) d_Mpg_checkCall_267
                · have nc87 : ¬ x94_3.toInt < (0 : Int) := mt (i_lt (x := x94_3) (y := 0)).mpr c87
                  refine lv_aload_n S.x S.b d_Mpg_checkCall_211 rfl (lv_at hl 0 rfl) ?_
                  refine px_get S k_Mpg hT hw 0 0 3 (v := .ref (r 3)) rfl rfl rfl (by decide) m9_227 d_Mpg_checkCall_212 ?_
                  refine lv_iload_n S.x S.b d_Mpg_checkCall_215 rfl (lv_at hl 3 rfl) ?_
                  have hclsk93 := cl_nat (x := x94_3) (by first | exact oz_18a5c06a28 nc87 | omega)
                  obtain ⟨sk93, hgsk93, st94, hSsk93⟩ := hP.2.2.2.2.2.1 x94_3.toNatClampNeg (by first | with_reducible rfl | with_reducible assumption | omega)
                  have hmsk93 := len_3 (i := x94_3.toNatClampNeg) (by first | with_reducible rfl | with_reducible assumption | omega)
                  refine px_aaldS S hT hw 0 4 11 (n := 15) (f := (g 3)) rfl rfl rfl (x := x94_3) (vp_in_iff.mpr (by first | exact oz_891c5e5184 nc87 k94_11 | (constructor <;> omega))) hgsk93 d_Mpg_checkCall_216 ?_
                  refine lv_iconst (v := 0) S.x S.b d_Mpg_checkCall_217 (by decide) ?_
                  refine px_calli (pr := [wdP cs h r g tf ta pf na ma_94 wa cf65 ca ef ea xf xa]) (px_runV (As := [.int 0]) (rest := []) S (c_String_charAt l D cs sk93 st94 (tlen x94_3.toNatClampNeg) (tby x94_3.toNatClampNeg) 0  (show (tlen x94_3.toNatClampNeg) ≤ 1000000 from by first | with_reducible rfl | with_reducible assumption | omega) (show 0 ≤ (0 : Int) from by first | decide | omega) (show (0 : Int) < ((tlen x94_3.toNatClampNeg) : Int) from by first | with_reducible rfl | with_reducible assumption | omega) _) hT (pr := [wdP cs h r g tf ta pf na ma_94 wa cf65 ca ef ea xf xa]) (pcs := []) hw (oX_call (P := (fun A U H => (oF A U H) ∧ (oZ A U H) ∧ (oS A sk93 st94 (tlen x94_3.toNatClampNeg) (tby x94_3.toNatClampNeg) U H))) (pr := [wdP cs h r g tf ta pf na ma_94 wa cf65 ca ef ea xf xa]) (oG_and oG_F (oG_and oG_Z oG_S)) hw hA ⟨hF0, hZ, hSsk93⟩) (oS_recv hw hSsk93) m1_68 m11_162 m1_66 m1_67 m1_3 q_String_charAt ⟨show 3 + 1 ≤ (4 * d + 14) from by first | with_reducible rfl | with_reducible assumption | omega, show 8 + (2 + 11) + 90 ≤ (200 * d + 540) from by first | with_reducible rfl | with_reducible assumption | omega⟩ hl.1 rfl (Nat.le_of_ble_eq_true rfl) d_Mpg_checkCall_218 ⟨Nat.le_of_ble_eq_true rfl, Nat.le_of_ble_eq_true rfl⟩) hw hA (fun v96 p95 H locs hp95 hw => ?_)
                  obtain ⟨rfl, e97⟩ := hp95
                  have e97 : narrow .char (.int v96) = .int v96 := e97
                  have hw : pw D A s.heap H locs [wdP cs h r g tf ta pf na ma_94 wa cf65 ca ef ea xf xa] := hw
                  have lv96 := Int32.le_toInt v96
                  have uv96 := Int32.toInt_lt v96
                  refine lv_bipush (v := 118) S.x S.b d_Mpg_checkCall_221 (by decide) ?_
                  refine lv_icmp_ne (tgt := 230) S.x S.b d_Mpg_checkCall_223 (by decide) (fun c98 => ?_) (fun c98 => ?_)
                  · have nc98 : ¬ v96.toInt = (118 : Int) := mt (i_eq (x := v96) (y := 118)).mpr c98
                    refine lv_iconst (v := 0) S.x S.b d_Mpg_checkCall_230 (by decide) ?_
                    refine lv_goto (tgt := 255) S.x S.b d_Mpg_checkCall_231 (by decide) ?_
                    refine lv_istore (lv' := [(7, .int 0), (0, .ref h), (1, .int p0), (2, .int x94_2), (3, .int x94_3), (4, .int x94_4), (5, .int x94_5), (6, .int x94_6)]) S.x S.b d_Mpg_checkCall_255 hl (by decide) rfl (fun ls hl => ?_)
                    refine lv_iload S.x S.b d_Mpg_checkCall_257 (lv_at hl 0 rfl) ?_
                    refine lv_if_eq (tgt := 266) S.x S.b d_Mpg_checkCall_259 (by decide) (fun c99 => ?_) (fun c99 => ?_)
                    ·
                      refine lv_iconst (v := 1) S.x S.b d_Mpg_checkCall_266 (by decide) ?_
                      exact px_iret (v := 1) S hr rfl hlk hAe hw (Nat.le_of_ble_eq_true rfl) (Nat.le_of_ble_eq_true rfl) (⟨ma_94, cf65, rfl, (show KpE cf cf65 from hke), (show WrV cf65 (tf 6).toInt from hwr), (show (cf65 33).toInt = (cf 33).toInt from by first | exact oz_1687f4cc65 k94_2 e71 | omega), (show (cf65 38).toInt = (cf 38).toInt from by first | exact oz_1687f4cc65 k94_3 e72 | omega), (show (cf65 48).toInt = (cf 48).toInt from by first | exact oz_1687f4cc65 k94_4 e73 | omega), (show (cf65 46).toInt = (cf 46).toInt from by first | exact oz_1687f4cc65 k94_5 e74 | omega), (show (cf65 47).toInt = (cf 47).toInt from by first | exact oz_1687f4cc65 k94_6 e75 | omega), (show (cf65 57).toInt = (cf 57).toInt from by first | exact oz_1687f4cc65 k94_7 e76 | omega), (show Ann na ma0 ma_94 from han), (show FrC lo hi ma ma_94 from hfc), (show 0 ≤ (1 : Int) from by first | decide | omega), (show (1 : Int) ≤ 4 from by first | decide | omega), (show ZTy cf65 (Gk ta ca na ma0 ns ys nf) na ma_94 lo hi p0 (1 : Int) from (zr_no (by first | with_reducible rfl | with_reducible assumption | omega)))⟩) d_Mpg_checkCall_267
                    · exact absurd c99 (by decide)
                  · have nc98 : v96.toInt = (118 : Int) := (i_eq (x := v96) (y := 118)).mp c98
                    refine lv_iconst (v := 1) S.x S.b d_Mpg_checkCall_226 (by decide) ?_
                    refine lv_goto (tgt := 255) S.x S.b d_Mpg_checkCall_227 (by decide) ?_
                    refine lv_istore (lv' := [(7, .int 1), (0, .ref h), (1, .int p0), (2, .int x94_2), (3, .int x94_3), (4, .int x94_4), (5, .int x94_5), (6, .int x94_6)]) S.x S.b d_Mpg_checkCall_255 hl (by decide) rfl (fun ls hl => ?_)
                    refine lv_iload S.x S.b d_Mpg_checkCall_257 (lv_at hl 0 rfl) ?_
                    refine lv_if_eq (tgt := 266) S.x S.b d_Mpg_checkCall_259 (by decide) (fun c100 => ?_) (fun c100 => ?_)
                    · exact absurd c100 (by decide)
                    ·
                      refine lv_iconst (v := 4) S.x S.b d_Mpg_checkCall_262 (by decide) ?_
                      refine lv_goto (tgt := 267) S.x S.b d_Mpg_checkCall_263 (by decide) ?_
                      exact px_iret (v := 4) S hr rfl hlk hAe hw (Nat.le_of_ble_eq_true rfl) (Nat.le_of_ble_eq_true rfl) (⟨ma_94, cf65, rfl, (show KpE cf cf65 from hke), (show WrV cf65 (tf 6).toInt from hwr), (show (cf65 33).toInt = (cf 33).toInt from by first | exact oz_1687f4cc65 k94_2 e71 | omega), (show (cf65 38).toInt = (cf 38).toInt from by first | exact oz_1687f4cc65 k94_3 e72 | omega), (show (cf65 48).toInt = (cf 48).toInt from by first | exact oz_1687f4cc65 k94_4 e73 | omega), (show (cf65 46).toInt = (cf 46).toInt from by first | exact oz_1687f4cc65 k94_5 e74 | omega), (show (cf65 47).toInt = (cf 47).toInt from by first | exact oz_1687f4cc65 k94_6 e75 | omega), (show (cf65 57).toInt = (cf 57).toInt from by first | exact oz_1687f4cc65 k94_7 e76 | omega), (show Ann na ma0 ma_94 from han), (show FrC lo hi ma ma_94 from hfc), (show 0 ≤ (4 : Int) from by first | decide | omega), (show (4 : Int) ≤ 4 from by first | decide | omega), (show ZTy cf65 (Gk ta ca na ma0 ns ys nf) na ma_94 lo hi p0 (4 : Int) from (zr_no (by first | with_reducible rfl | with_reducible assumption | omega)))⟩) d_Mpg_checkCall_267
          · have nc3 : x94_6.toInt = (0 : Int) := (i_eq (x := x94_6) (y := 0)).mp c3
            refine lv_aload_n S.x S.b d_Mpg_checkCall_155 rfl (lv_at hl 0 rfl) ?_
            refine lv_iload S.x S.b d_Mpg_checkCall_156 (lv_at hl 4 rfl) ?_
            refine lv_iload_n S.x S.b d_Mpg_checkCall_158 rfl (lv_at hl 3 rfl) ?_
            refine lv_iconst (v := 0) S.x S.b d_Mpg_checkCall_159 (by decide) ?_
            refine px_calli (pr := []) (px_runV (As := [.int x94_4, .int x94_3, .int 0]) (rest := []) S (c_mp_taken l D cs h r g tf ta pf na ma_94 wa cf_94 ca ef ea xf xa x94_4 x94_3 0  (show -1 ≤ x94_4.toInt from by first | exact k94_12 | omega) (show x94_4.toInt < (cf_94 38).toInt from by first | exact oz_0f2ac8ea3f k94_3 k94_13 g7 | omega) (show x94_4.toInt < 0 → 0 ≤ x94_3.toInt ∧ x94_3.toInt < 10 from by first | with_reducible rfl | with_reducible assumption | omega) (show 0 ≤ (0 : Int) from by first | decide | omega) (show (0 : Int) ≤ 4000 from by first | decide | omega) (show 0 ≤ (cf_94 38).toInt from by first | exact oz_e2fef14871 k94_3 g7 g8 | omega) htk (FnT.eq hft (by first | with_reducible rfl | with_reducible assumption | omega)) (FnP.eq hfp (by first | with_reducible rfl | with_reducible assumption | omega)) _) hT (pr := []) (pcs := [wdP cs h r g tf ta pf na ma_94 wa cf_94 ca ef ea xf xa]) hw (oX_call (P := (fun A U H => (oP A g U H))) (pr := []) oG_P hw hA hP) (px_recv hT hw 0 0 rfl rfl rfl) m12_229 m12_226 m12_228 ms_12_10 m1_21 q_Mpg_taken ⟨show 4 + 1 ≤ (4 * d + 14) from by first | with_reducible rfl | with_reducible assumption | omega, show 8 + (6 + 11) + 140 ≤ (200 * d + 540) from by first | with_reducible rfl | with_reducible assumption | omega⟩ hl.1 rfl (Nat.le_of_ble_eq_true rfl) d_Mpg_checkCall_160 ⟨Nat.le_of_ble_eq_true rfl, Nat.le_of_ble_eq_true rfl⟩) hw hA (fun v102 p101 H locs hp101 hw => ?_)
            obtain ⟨rfl, e103⟩ := hp101
            have e103 : TkV na ma_94 ca x94_4.toInt x94_3.toInt (0 : Int) v102.toInt := e103
            have hw : pw D A s.heap H locs [wdP cs h r g tf ta pf na ma_94 wa cf_94 ca ef ea xf xa] := hw
            have lv102 := Int32.le_toInt v102
            have uv102 := Int32.toInt_lt v102
            have hcn_160 : CeN nf (cod x94_4.toInt x94_3.toInt) := cen_mk (by first | with_reducible rfl | with_reducible assumption | omega); have htv_160 := tkv_at (ta := ta) (ns := ns) (ys := ys) e103 han hfp hcn_160; have htg_160 := tkv_rng e103 hcn_160
            refine lv_bipush (v := 32) S.x S.b d_Mpg_checkCall_163 (by decide) ?_
            refine lv_icmp_eq (tgt := 207) S.x S.b d_Mpg_checkCall_165 (by decide) (fun c104 => ?_) (fun c104 => ?_)
            · have nc104 : v102.toInt = (32 : Int) := (i_eq (x := v102) (y := 32)).mp c104
              refine lv_iload_n S.x S.b d_Mpg_checkCall_207 rfl (lv_at hl 3 rfl) ?_
              refine lv_if_lt (tgt := 234) S.x S.b d_Mpg_checkCall_208 (by decide) (fun c105 => ?_) (fun c105 => ?_)
              · have nc105 : x94_3.toInt < (0 : Int) := (i_lt (x := x94_3) (y := 0)).mp c105
                refine lv_aload_n S.x S.b d_Mpg_checkCall_234 rfl (lv_at hl 0 rfl) ?_
                refine px_get S k_Mpg hT hw 0 0 22 (v := .ref (r 22)) rfl rfl rfl (by decide) m10_9 d_Mpg_checkCall_235 ?_
                refine lv_aload_n S.x S.b d_Mpg_checkCall_238 rfl (lv_at hl 0 rfl) ?_
                refine px_get S k_Mpg hT hw 0 0 39 (v := .ref (r 39)) rfl rfl rfl (by decide) m10_28 d_Mpg_checkCall_239 ?_
                refine lv_iload S.x S.b d_Mpg_checkCall_242 (lv_at hl 4 rfl) ?_
                refine px_iald S hT hw 0 26 (n := 260) (f := (ca 39)) rfl gp_39 (x := x94_4) (vp_in_iff.mpr (by constructor <;> omega)) d_Mpg_checkCall_244 ?_
                refine lv_topi (fun z106 ez106 => ?_)
                have lz106 := Int32.le_toInt z106
                have uz106 := Int32.toInt_lt z106
                have rz106 := FnT.at hft (x := x94_4) (by first | with_reducible rfl | with_reducible assumption | omega) (by first | with_reducible rfl | with_reducible assumption | omega) ez106
                refine px_iald S hT hw 0 18 (n := 2100) (f := (ma_94 22)) rfl gp_22 (x := z106) (vp_in_iff.mpr (by constructor <;> omega)) d_Mpg_checkCall_245 ?_
                refine lv_topi (fun z107 ez107 => ?_)
                have lz107 := Int32.le_toInt z107
                have uz107 := Int32.toInt_lt z107
                refine lv_iconst (v := 2) S.x S.b d_Mpg_checkCall_246 (by decide) ?_
                refine lv_icmp_ne (tgt := 254) S.x S.b d_Mpg_checkCall_247 (by decide) (fun c108 => ?_) (fun c108 => ?_)
                · have nc108 : ¬ z107.toInt = (2 : Int) := mt (i_eq (x := z107) (y := 2)).mpr c108
                  refine lv_iconst (v := 0) S.x S.b d_Mpg_checkCall_254 (by decide) ?_
                  refine lv_istore (lv' := [(7, .int 0), (0, .ref h), (1, .int p0), (2, .int x94_2), (3, .int x94_3), (4, .int x94_4), (5, .int x94_5), (6, .int x94_6)]) S.x S.b d_Mpg_checkCall_255 hl (by decide) rfl (fun ls hl => ?_)
                  refine lv_iload S.x S.b d_Mpg_checkCall_257 (lv_at hl 0 rfl) ?_
                  refine lv_if_eq (tgt := 266) S.x S.b d_Mpg_checkCall_259 (by decide) (fun c109 => ?_) (fun c109 => ?_)
                  ·
                    refine lv_iconst (v := 1) S.x S.b d_Mpg_checkCall_266 (by decide) ?_
                    exact px_iret (v := 1) S hr rfl hlk hAe hw (Nat.le_of_ble_eq_true rfl) (Nat.le_of_ble_eq_true rfl) (⟨ma_94, cf_94, rfl, (show KpE cf cf_94 from hke), (show WrV cf_94 (tf 6).toInt from hwr), (show (cf_94 33).toInt = (cf 33).toInt from by first | exact k94_2 | omega), (show (cf_94 38).toInt = (cf 38).toInt from by first | exact k94_3 | omega), (show (cf_94 48).toInt = (cf 48).toInt from by first | exact k94_4 | omega), (show (cf_94 46).toInt = (cf 46).toInt from by first | exact k94_5 | omega), (show (cf_94 47).toInt = (cf 47).toInt from by first | exact k94_6 | omega), (show (cf_94 57).toInt = (cf 57).toInt from by first | exact k94_7 | omega), (show Ann na ma0 ma_94 from han), (show FrC lo hi ma ma_94 from hfc), (show 0 ≤ (1 : Int) from by first | decide | omega), (show (1 : Int) ≤ 4 from by first | decide | omega), (show ZTy cf_94 (Gk ta ca na ma0 ns ys nf) na ma_94 lo hi p0 (1 : Int) from (call_ty hrg (by first | with_reducible rfl | with_reducible assumption | omega) (hkb (by first | with_reducible rfl | with_reducible assumption | omega)) (cen_mk (by first | with_reducible rfl | with_reducible assumption | omega)) rfl (ZTy_le hzta (by first | with_reducible rfl | with_reducible assumption | omega)) (by first | with_reducible rfl | with_reducible assumption | omega) (by first | with_reducible rfl | with_reducible assumption | omega) (by rw [show x94_6.toInt = (0 : Int) by omega, ← htv_160]; omega) (Or.inl (by first | with_reducible rfl | with_reducible assumption | omega)) (by first | with_reducible rfl | with_reducible assumption | omega)))⟩) d_Mpg_checkCall_267
                  · exact absurd c109 (by decide)
                · have nc108 : z107.toInt = (2 : Int) := (i_eq (x := z107) (y := 2)).mp c108
                  refine lv_iconst (v := 1) S.x S.b d_Mpg_checkCall_250 (by decide) ?_
                  refine lv_goto (tgt := 255) S.x S.b d_Mpg_checkCall_251 (by decide) ?_
                  refine lv_istore (lv' := [(7, .int 1), (0, .ref h), (1, .int p0), (2, .int x94_2), (3, .int x94_3), (4, .int x94_4), (5, .int x94_5), (6, .int x94_6)]) S.x S.b d_Mpg_checkCall_255 hl (by decide) rfl (fun ls hl => ?_)
                  refine lv_iload S.x S.b d_Mpg_checkCall_257 (lv_at hl 0 rfl) ?_
                  refine lv_if_eq (tgt := 266) S.x S.b d_Mpg_checkCall_259 (by decide) (fun c110 => ?_) (fun c110 => ?_)
                  · exact absurd c110 (by decide)
                  ·
                    refine lv_iconst (v := 4) S.x S.b d_Mpg_checkCall_262 (by decide) ?_
                    refine lv_goto (tgt := 267) S.x S.b d_Mpg_checkCall_263 (by decide) ?_
                    exact px_iret (v := 4) S hr rfl hlk hAe hw (Nat.le_of_ble_eq_true rfl) (Nat.le_of_ble_eq_true rfl) (⟨ma_94, cf_94, rfl, (show KpE cf cf_94 from hke), (show WrV cf_94 (tf 6).toInt from hwr), (show (cf_94 33).toInt = (cf 33).toInt from by first | exact k94_2 | omega), (show (cf_94 38).toInt = (cf 38).toInt from by first | exact k94_3 | omega), (show (cf_94 48).toInt = (cf 48).toInt from by first | exact k94_4 | omega), (show (cf_94 46).toInt = (cf 46).toInt from by first | exact k94_5 | omega), (show (cf_94 47).toInt = (cf 47).toInt from by first | exact k94_6 | omega), (show (cf_94 57).toInt = (cf 57).toInt from by first | exact k94_7 | omega), (show Ann na ma0 ma_94 from han), (show FrC lo hi ma ma_94 from hfc), (show 0 ≤ (4 : Int) from by first | decide | omega), (show (4 : Int) ≤ 4 from by first | decide | omega), (show ZTy cf_94 (Gk ta ca na ma0 ns ys nf) na ma_94 lo hi p0 (4 : Int) from (call_ty hrg (by first | with_reducible rfl | with_reducible assumption | omega) (hkb (by first | with_reducible rfl | with_reducible assumption | omega)) (cen_mk (by first | with_reducible rfl | with_reducible assumption | omega)) rfl (ZTy_le hzta (by first | with_reducible rfl | with_reducible assumption | omega)) (by first | with_reducible rfl | with_reducible assumption | omega) (by first | with_reducible rfl | with_reducible assumption | omega) (by rw [show x94_6.toInt = (0 : Int) by omega, ← htv_160]; omega) (Or.inl (by first | with_reducible rfl | with_reducible assumption | omega)) (by first | with_reducible rfl | with_reducible assumption | omega)))⟩) d_Mpg_checkCall_267
              · have nc105 : ¬ x94_3.toInt < (0 : Int) := mt (i_lt (x := x94_3) (y := 0)).mpr c105
                refine lv_aload_n S.x S.b d_Mpg_checkCall_211 rfl (lv_at hl 0 rfl) ?_
                refine px_get S k_Mpg hT hw 0 0 3 (v := .ref (r 3)) rfl rfl rfl (by decide) m9_227 d_Mpg_checkCall_212 ?_
                refine lv_iload_n S.x S.b d_Mpg_checkCall_215 rfl (lv_at hl 3 rfl) ?_
                have hclsk111 := cl_nat (x := x94_3) (by first | exact oz_18a5c06a28 nc105 | omega)
                obtain ⟨sk111, hgsk111, st112, hSsk111⟩ := hP.2.2.2.2.2.1 x94_3.toNatClampNeg (by first | with_reducible rfl | with_reducible assumption | omega)
                have hmsk111 := len_3 (i := x94_3.toNatClampNeg) (by first | with_reducible rfl | with_reducible assumption | omega)
                refine px_aaldS S hT hw 0 4 11 (n := 15) (f := (g 3)) rfl rfl rfl (x := x94_3) (vp_in_iff.mpr (by first | exact oz_891c5e5184 nc105 k94_11 | (constructor <;> omega))) hgsk111 d_Mpg_checkCall_216 ?_
                refine lv_iconst (v := 0) S.x S.b d_Mpg_checkCall_217 (by decide) ?_
                refine px_calli (pr := [wdP cs h r g tf ta pf na ma_94 wa cf_94 ca ef ea xf xa]) (px_runV (As := [.int 0]) (rest := []) S (c_String_charAt l D cs sk111 st112 (tlen x94_3.toNatClampNeg) (tby x94_3.toNatClampNeg) 0  (show (tlen x94_3.toNatClampNeg) ≤ 1000000 from by first | with_reducible rfl | with_reducible assumption | omega) (show 0 ≤ (0 : Int) from by first | decide | omega) (show (0 : Int) < ((tlen x94_3.toNatClampNeg) : Int) from by first | with_reducible rfl | with_reducible assumption | omega) _) hT (pr := [wdP cs h r g tf ta pf na ma_94 wa cf_94 ca ef ea xf xa]) (pcs := []) hw (oX_call (P := (fun A U H => (oF A U H) ∧ (oZ A U H) ∧ (oS A sk111 st112 (tlen x94_3.toNatClampNeg) (tby x94_3.toNatClampNeg) U H))) (pr := [wdP cs h r g tf ta pf na ma_94 wa cf_94 ca ef ea xf xa]) (oG_and oG_F (oG_and oG_Z oG_S)) hw hA ⟨hF0, hZ, hSsk111⟩) (oS_recv hw hSsk111) m1_68 m11_162 m1_66 m1_67 m1_3 q_String_charAt ⟨show 3 + 1 ≤ (4 * d + 14) from by first | with_reducible rfl | with_reducible assumption | omega, show 8 + (2 + 11) + 90 ≤ (200 * d + 540) from by first | with_reducible rfl | with_reducible assumption | omega⟩ hl.1 rfl (Nat.le_of_ble_eq_true rfl) d_Mpg_checkCall_218 ⟨Nat.le_of_ble_eq_true rfl, Nat.le_of_ble_eq_true rfl⟩) hw hA (fun v114 p113 H locs hp113 hw => ?_)
                obtain ⟨rfl, e115⟩ := hp113
                have e115 : narrow .char (.int v114) = .int v114 := e115
                have hw : pw D A s.heap H locs [wdP cs h r g tf ta pf na ma_94 wa cf_94 ca ef ea xf xa] := hw
                have lv114 := Int32.le_toInt v114
                have uv114 := Int32.toInt_lt v114
                refine lv_bipush (v := 118) S.x S.b d_Mpg_checkCall_221 (by decide) ?_
                refine lv_icmp_ne (tgt := 230) S.x S.b d_Mpg_checkCall_223 (by decide) (fun c116 => ?_) (fun c116 => ?_)
                · have nc116 : ¬ v114.toInt = (118 : Int) := mt (i_eq (x := v114) (y := 118)).mpr c116
                  refine lv_iconst (v := 0) S.x S.b d_Mpg_checkCall_230 (by decide) ?_
                  refine lv_goto (tgt := 255) S.x S.b d_Mpg_checkCall_231 (by decide) ?_
                  refine lv_istore (lv' := [(7, .int 0), (0, .ref h), (1, .int p0), (2, .int x94_2), (3, .int x94_3), (4, .int x94_4), (5, .int x94_5), (6, .int x94_6)]) S.x S.b d_Mpg_checkCall_255 hl (by decide) rfl (fun ls hl => ?_)
                  refine lv_iload S.x S.b d_Mpg_checkCall_257 (lv_at hl 0 rfl) ?_
                  refine lv_if_eq (tgt := 266) S.x S.b d_Mpg_checkCall_259 (by decide) (fun c117 => ?_) (fun c117 => ?_)
                  ·
                    refine lv_iconst (v := 1) S.x S.b d_Mpg_checkCall_266 (by decide) ?_
                    exact px_iret (v := 1) S hr rfl hlk hAe hw (Nat.le_of_ble_eq_true rfl) (Nat.le_of_ble_eq_true rfl) (⟨ma_94, cf_94, rfl, (show KpE cf cf_94 from hke), (show WrV cf_94 (tf 6).toInt from hwr), (show (cf_94 33).toInt = (cf 33).toInt from by first | exact k94_2 | omega), (show (cf_94 38).toInt = (cf 38).toInt from by first | exact k94_3 | omega), (show (cf_94 48).toInt = (cf 48).toInt from by first | exact k94_4 | omega), (show (cf_94 46).toInt = (cf 46).toInt from by first | exact k94_5 | omega), (show (cf_94 47).toInt = (cf 47).toInt from by first | exact k94_6 | omega), (show (cf_94 57).toInt = (cf 57).toInt from by first | exact k94_7 | omega), (show Ann na ma0 ma_94 from han), (show FrC lo hi ma ma_94 from hfc), (show 0 ≤ (1 : Int) from by first | decide | omega), (show (1 : Int) ≤ 4 from by first | decide | omega), (show ZTy cf_94 (Gk ta ca na ma0 ns ys nf) na ma_94 lo hi p0 (1 : Int) from (call_ty hrg (by first | with_reducible rfl | with_reducible assumption | omega) (hkb (by first | with_reducible rfl | with_reducible assumption | omega)) (cen_mk (by first | with_reducible rfl | with_reducible assumption | omega)) rfl (ZTy_le hzta (by first | with_reducible rfl | with_reducible assumption | omega)) (by first | with_reducible rfl | with_reducible assumption | omega) (by first | with_reducible rfl | with_reducible assumption | omega) (by rw [show x94_6.toInt = (0 : Int) by omega, ← htv_160]; omega) (Or.inl (by first | with_reducible rfl | with_reducible assumption | omega)) (by first | with_reducible rfl | with_reducible assumption | omega)))⟩) d_Mpg_checkCall_267
                  · exact absurd c117 (by decide)
                · have nc116 : v114.toInt = (118 : Int) := (i_eq (x := v114) (y := 118)).mp c116
                  refine lv_iconst (v := 1) S.x S.b d_Mpg_checkCall_226 (by decide) ?_
                  refine lv_goto (tgt := 255) S.x S.b d_Mpg_checkCall_227 (by decide) ?_
                  refine lv_istore (lv' := [(7, .int 1), (0, .ref h), (1, .int p0), (2, .int x94_2), (3, .int x94_3), (4, .int x94_4), (5, .int x94_5), (6, .int x94_6)]) S.x S.b d_Mpg_checkCall_255 hl (by decide) rfl (fun ls hl => ?_)
                  refine lv_iload S.x S.b d_Mpg_checkCall_257 (lv_at hl 0 rfl) ?_
                  refine lv_if_eq (tgt := 266) S.x S.b d_Mpg_checkCall_259 (by decide) (fun c118 => ?_) (fun c118 => ?_)
                  · exact absurd c118 (by decide)
                  ·
                    refine lv_iconst (v := 4) S.x S.b d_Mpg_checkCall_262 (by decide) ?_
                    refine lv_goto (tgt := 267) S.x S.b d_Mpg_checkCall_263 (by decide) ?_
                    exact px_iret (v := 4) S hr rfl hlk hAe hw (Nat.le_of_ble_eq_true rfl) (Nat.le_of_ble_eq_true rfl) (⟨ma_94, cf_94, rfl, (show KpE cf cf_94 from hke), (show WrV cf_94 (tf 6).toInt from hwr), (show (cf_94 33).toInt = (cf 33).toInt from by first | exact k94_2 | omega), (show (cf_94 38).toInt = (cf 38).toInt from by first | exact k94_3 | omega), (show (cf_94 48).toInt = (cf 48).toInt from by first | exact k94_4 | omega), (show (cf_94 46).toInt = (cf 46).toInt from by first | exact k94_5 | omega), (show (cf_94 47).toInt = (cf 47).toInt from by first | exact k94_6 | omega), (show (cf_94 57).toInt = (cf 57).toInt from by first | exact k94_7 | omega), (show Ann na ma0 ma_94 from han), (show FrC lo hi ma ma_94 from hfc), (show 0 ≤ (4 : Int) from by first | decide | omega), (show (4 : Int) ≤ 4 from by first | decide | omega), (show ZTy cf_94 (Gk ta ca na ma0 ns ys nf) na ma_94 lo hi p0 (4 : Int) from (call_ty hrg (by first | with_reducible rfl | with_reducible assumption | omega) (hkb (by first | with_reducible rfl | with_reducible assumption | omega)) (cen_mk (by first | with_reducible rfl | with_reducible assumption | omega)) rfl (ZTy_le hzta (by first | with_reducible rfl | with_reducible assumption | omega)) (by first | with_reducible rfl | with_reducible assumption | omega) (by first | with_reducible rfl | with_reducible assumption | omega) (by rw [show x94_6.toInt = (0 : Int) by omega, ← htv_160]; omega) (Or.inl (by first | with_reducible rfl | with_reducible assumption | omega)) (by first | with_reducible rfl | with_reducible assumption | omega)))⟩) d_Mpg_checkCall_267
            · have nc104 : ¬ v102.toInt = (32 : Int) := mt (i_eq (x := v102) (y := 32)).mpr c104
              refine lv_goto (tgt := 201) S.x S.b d_Mpg_checkCall_168 (by decide) ?_
              refine lv_aload_n S.x S.b d_Mpg_checkCall_201 rfl (lv_at hl 0 rfl) ?_
              refine lv_iconst (v := 4) S.x S.b d_Mpg_checkCall_202 (by decide) ?_
              refine lv_iload_n S.x S.b d_Mpg_checkCall_203 rfl (lv_at hl 2 rfl) ?_
              refine px_callv (pr := []) (px_runV (As := [.int 4, .int x94_2]) (rest := []) S (c_mp_bad l D cs h r g tf ta pf na ma_94 wa ca ef ea xf xa cf_94 4 x94_2  (show 1 ≤ (4 : Int) from by first | decide | omega) (show 0 ≤ x94_2.toInt from by first | exact k94_20 | omega) (show x94_2.toInt < (tf 6).toInt from by first | exact k94_21 | omega) htk hwr _) hT (pr := []) (pcs := [wdP cs h r g tf ta pf na ma_94 wa cf_94 ca ef ea xf xa]) hw px_X.tt (px_recv hT hw 0 0 rfl rfl rfl) m12_173 m12_170 m12_172 ms_11_12 m1_21 q_Mpg_bad ⟨show 0 + 1 ≤ (4 * d + 14) from by first | with_reducible rfl | with_reducible assumption | omega, show 8 + (3 + 11) + 0 ≤ (200 * d + 540) from by first | with_reducible rfl | with_reducible assumption | omega⟩ hl.1 rfl (Nat.le_of_ble_eq_true rfl) d_Mpg_checkCall_204 ⟨Nat.le_of_ble_eq_true rfl, Nat.le_of_ble_eq_true rfl⟩) hw hA (fun p121 H locs hp121 hw => ?_)
              obtain ⟨cf120, rfl, e123, e124, e125, e126, e127, e128, e129, e130, e131, e132, e133, e134, e135, e136, e137, e138, e139, e140, e141⟩ := hp121
              have e123 : KpE cf_94 cf120 := e123
              have hke := (hke).tr e123
              have hkz_e123 := e123.2
              have hzta := Zr.kp hzta e123 id
              have e124 : WrV cf120 (tf 6).toInt := e124
              have hwr := e124
              have hw0_e124 := hwr.1
              have e125 : 1 ≤ (cf120 30).toInt := e125
              have e126 : (cf120 33).toInt = (cf_94 33).toInt := e126
              have e127 : (cf120 38).toInt = (cf_94 38).toInt := e127
              have e128 : (cf120 48).toInt = (cf_94 48).toInt := e128
              have e129 : (cf120 46).toInt = (cf_94 46).toInt := e129
              have e130 : (cf120 47).toInt = (cf_94 47).toInt := e130
              have e131 : (cf120 57).toInt = (cf_94 57).toInt := e131
              have e132 : (cf120 37).toInt = (cf_94 37).toInt := e132
              have e133 : (cf120 42).toInt = (cf_94 42).toInt := e133
              have e134 : (cf120 43).toInt = (cf_94 43).toInt := e134
              have e135 : (cf120 44).toInt = (cf_94 44).toInt := e135
              have e136 : (cf120 45).toInt = (cf_94 45).toInt := e136
              have e137 : (cf120 54).toInt = (cf_94 54).toInt := e137
              have e138 : (cf120 55).toInt = (cf_94 55).toInt := e138
              have e139 : (cf120 58).toInt = (cf_94 58).toInt := e139
              have e140 : (cf120 59).toInt = (cf_94 59).toInt := e140
              have e141 : (cf120 41).toInt = (cf_94 41).toInt := e141
              have hw : pw D A s.heap H locs [wdP cs h r g tf ta pf na ma_94 wa cf120 ca ef ea xf xa] := hw
              refine lv_iload_n S.x S.b d_Mpg_checkCall_207 rfl (lv_at hl 3 rfl) ?_
              refine lv_if_lt (tgt := 234) S.x S.b d_Mpg_checkCall_208 (by decide) (fun c142 => ?_) (fun c142 => ?_)
              · have nc142 : x94_3.toInt < (0 : Int) := (i_lt (x := x94_3) (y := 0)).mp c142
                refine lv_aload_n S.x S.b d_Mpg_checkCall_234 rfl (lv_at hl 0 rfl) ?_
                refine px_get S k_Mpg hT hw 0 0 22 (v := .ref (r 22)) rfl rfl rfl (by decide) m10_9 d_Mpg_checkCall_235 ?_
                refine lv_aload_n S.x S.b d_Mpg_checkCall_238 rfl (lv_at hl 0 rfl) ?_
                refine px_get S k_Mpg hT hw 0 0 39 (v := .ref (r 39)) rfl rfl rfl (by decide) m10_28 d_Mpg_checkCall_239 ?_
                refine lv_iload S.x S.b d_Mpg_checkCall_242 (lv_at hl 4 rfl) ?_
                refine px_iald S hT hw 0 26 (n := 260) (f := (ca 39)) rfl gp_39 (x := x94_4) (vp_in_iff.mpr (by constructor <;> omega)) d_Mpg_checkCall_244 ?_
                refine lv_topi (fun z143 ez143 => ?_)
                have lz143 := Int32.le_toInt z143
                have uz143 := Int32.toInt_lt z143
                have rz143 := FnT.at hft (x := x94_4) (by first | with_reducible rfl | with_reducible assumption | omega) (by first | with_reducible rfl | with_reducible assumption | omega) ez143
                refine px_iald S hT hw 0 18 (n := 2100) (f := (ma_94 22)) rfl gp_22 (x := z143) (vp_in_iff.mpr (by constructor <;> omega)) d_Mpg_checkCall_245 ?_
                refine lv_topi (fun z144 ez144 => ?_)
                have lz144 := Int32.le_toInt z144
                have uz144 := Int32.toInt_lt z144
                refine lv_iconst (v := 2) S.x S.b d_Mpg_checkCall_246 (by decide) ?_
                refine lv_icmp_ne (tgt := 254) S.x S.b d_Mpg_checkCall_247 (by decide) (fun c145 => ?_) (fun c145 => ?_)
                · have nc145 : ¬ z144.toInt = (2 : Int) := mt (i_eq (x := z144) (y := 2)).mpr c145
                  refine lv_iconst (v := 0) S.x S.b d_Mpg_checkCall_254 (by decide) ?_
                  refine lv_istore (lv' := [(7, .int 0), (0, .ref h), (1, .int p0), (2, .int x94_2), (3, .int x94_3), (4, .int x94_4), (5, .int x94_5), (6, .int x94_6)]) S.x S.b d_Mpg_checkCall_255 hl (by decide) rfl (fun ls hl => ?_)
                  refine lv_iload S.x S.b d_Mpg_checkCall_257 (lv_at hl 0 rfl) ?_
                  refine lv_if_eq (tgt := 266) S.x S.b d_Mpg_checkCall_259 (by decide) (fun c146 => ?_) (fun c146 => ?_)
                  ·
                    refine lv_iconst (v := 1) S.x S.b d_Mpg_checkCall_266 (by decide) ?_
                    exact px_iret (v := 1) S hr rfl hlk hAe hw (Nat.le_of_ble_eq_true rfl) (Nat.le_of_ble_eq_true rfl) (⟨ma_94, cf120, rfl, (show KpE cf cf120 from hke), (show WrV cf120 (tf 6).toInt from hwr), (show (cf120 33).toInt = (cf 33).toInt from by first | exact oz_1687f4cc65 k94_2 e126 | omega), (show (cf120 38).toInt = (cf 38).toInt from by first | exact oz_1687f4cc65 k94_3 e127 | omega), (show (cf120 48).toInt = (cf 48).toInt from by first | exact oz_1687f4cc65 k94_4 e128 | omega), (show (cf120 46).toInt = (cf 46).toInt from by first | exact oz_1687f4cc65 k94_5 e129 | omega), (show (cf120 47).toInt = (cf 47).toInt from by first | exact oz_1687f4cc65 k94_6 e130 | omega), (show (cf120 57).toInt = (cf 57).toInt from by first | exact oz_1687f4cc65 k94_7 e131 | omega), (show Ann na ma0 ma_94 from han), (show FrC lo hi ma ma_94 from hfc), (show 0 ≤ (1 : Int) from by first | decide | omega), (show (1 : Int) ≤ 4 from by first | decide | omega), (show ZTy cf120 (Gk ta ca na ma0 ns ys nf) na ma_94 lo hi p0 (1 : Int) from (zr_no (by first | with_reducible rfl | with_reducible assumption | omega)))⟩) d_Mpg_checkCall_267
                  · exact absurd c146 (by decide)
                · have nc145 : z144.toInt = (2 : Int) := (i_eq (x := z144) (y := 2)).mp c145
                  refine lv_iconst (v := 1) S.x S.b d_Mpg_checkCall_250 (by decide) ?_
                  refine lv_goto (tgt := 255) S.x S.b d_Mpg_checkCall_251 (by decide) ?_
                  refine lv_istore (lv' := [(7, .int 1), (0, .ref h), (1, .int p0), (2, .int x94_2), (3, .int x94_3), (4, .int x94_4), (5, .int x94_5), (6, .int x94_6)]) S.x S.b d_Mpg_checkCall_255 hl (by decide) rfl (fun ls hl => ?_)
                  refine lv_iload S.x S.b d_Mpg_checkCall_257 (lv_at hl 0 rfl) ?_
                  refine lv_if_eq (tgt := 266) S.x S.b d_Mpg_checkCall_259 (by decide) (fun c147 => ?_) (fun c147 => ?_)
                  · exact absurd c147 (by decide)
                  ·
                    refine lv_iconst (v := 4) S.x S.b d_Mpg_checkCall_262 (by decide) ?_
                    refine lv_goto (tgt := 267) S.x S.b d_Mpg_checkCall_263 (by decide) ?_
                    exact px_iret (v := 4) S hr rfl hlk hAe hw (Nat.le_of_ble_eq_true rfl) (Nat.le_of_ble_eq_true rfl) (⟨ma_94, cf120, rfl, (show KpE cf cf120 from hke), (show WrV cf120 (tf 6).toInt from hwr), (show (cf120 33).toInt = (cf 33).toInt from by first | exact oz_1687f4cc65 k94_2 e126 | omega), (show (cf120 38).toInt = (cf 38).toInt from by first | exact oz_1687f4cc65 k94_3 e127 | omega), (show (cf120 48).toInt = (cf 48).toInt from by first | exact oz_1687f4cc65 k94_4 e128 | omega), (show (cf120 46).toInt = (cf 46).toInt from by first | exact oz_1687f4cc65 k94_5 e129 | omega), (show (cf120 47).toInt = (cf 47).toInt from by first | exact oz_1687f4cc65 k94_6 e130 | omega), (show (cf120 57).toInt = (cf 57).toInt from by first | exact oz_1687f4cc65 k94_7 e131 | omega), (show Ann na ma0 ma_94 from han), (show FrC lo hi ma ma_94 from hfc), (show 0 ≤ (4 : Int) from by first | decide | omega), (show (4 : Int) ≤ 4 from by first | decide | omega), (show ZTy cf120 (Gk ta ca na ma0 ns ys nf) na ma_94 lo hi p0 (4 : Int) from (zr_no (by first | with_reducible rfl | with_reducible assumption | omega)))⟩) d_Mpg_checkCall_267
              · have nc142 : ¬ x94_3.toInt < (0 : Int) := mt (i_lt (x := x94_3) (y := 0)).mpr c142
                refine lv_aload_n S.x S.b d_Mpg_checkCall_211 rfl (lv_at hl 0 rfl) ?_
                refine px_get S k_Mpg hT hw 0 0 3 (v := .ref (r 3)) rfl rfl rfl (by decide) m9_227 d_Mpg_checkCall_212 ?_
                refine lv_iload_n S.x S.b d_Mpg_checkCall_215 rfl (lv_at hl 3 rfl) ?_
                have hclsk148 := cl_nat (x := x94_3) (by first | exact oz_18a5c06a28 nc142 | omega)
                obtain ⟨sk148, hgsk148, st149, hSsk148⟩ := hP.2.2.2.2.2.1 x94_3.toNatClampNeg (by first | with_reducible rfl | with_reducible assumption | omega)
                have hmsk148 := len_3 (i := x94_3.toNatClampNeg) (by first | with_reducible rfl | with_reducible assumption | omega)
                refine px_aaldS S hT hw 0 4 11 (n := 15) (f := (g 3)) rfl rfl rfl (x := x94_3) (vp_in_iff.mpr (by first | exact oz_891c5e5184 nc142 k94_11 | (constructor <;> omega))) hgsk148 d_Mpg_checkCall_216 ?_
                refine lv_iconst (v := 0) S.x S.b d_Mpg_checkCall_217 (by decide) ?_
                refine px_calli (pr := [wdP cs h r g tf ta pf na ma_94 wa cf120 ca ef ea xf xa]) (px_runV (As := [.int 0]) (rest := []) S (c_String_charAt l D cs sk148 st149 (tlen x94_3.toNatClampNeg) (tby x94_3.toNatClampNeg) 0  (show (tlen x94_3.toNatClampNeg) ≤ 1000000 from by first | with_reducible rfl | with_reducible assumption | omega) (show 0 ≤ (0 : Int) from by first | decide | omega) (show (0 : Int) < ((tlen x94_3.toNatClampNeg) : Int) from by first | with_reducible rfl | with_reducible assumption | omega) _) hT (pr := [wdP cs h r g tf ta pf na ma_94 wa cf120 ca ef ea xf xa]) (pcs := []) hw (oX_call (P := (fun A U H => (oF A U H) ∧ (oZ A U H) ∧ (oS A sk148 st149 (tlen x94_3.toNatClampNeg) (tby x94_3.toNatClampNeg) U H))) (pr := [wdP cs h r g tf ta pf na ma_94 wa cf120 ca ef ea xf xa]) (oG_and oG_F (oG_and oG_Z oG_S)) hw hA ⟨hF0, hZ, hSsk148⟩) (oS_recv hw hSsk148) m1_68 m11_162 m1_66 m1_67 m1_3 q_String_charAt ⟨show 3 + 1 ≤ (4 * d + 14) from by first | with_reducible rfl | with_reducible assumption | omega, show 8 + (2 + 11) + 90 ≤ (200 * d + 540) from by first | with_reducible rfl | with_reducible assumption | omega⟩ hl.1 rfl (Nat.le_of_ble_eq_true rfl) d_Mpg_checkCall_218 ⟨Nat.le_of_ble_eq_true rfl, Nat.le_of_ble_eq_true rfl⟩) hw hA (fun v151 p150 H locs hp150 hw => ?_)
                obtain ⟨rfl, e152⟩ := hp150
                have e152 : narrow .char (.int v151) = .int v151 := e152
                have hw : pw D A s.heap H locs [wdP cs h r g tf ta pf na ma_94 wa cf120 ca ef ea xf xa] := hw
                have lv151 := Int32.le_toInt v151
                have uv151 := Int32.toInt_lt v151
                refine lv_bipush (v := 118) S.x S.b d_Mpg_checkCall_221 (by decide) ?_
                refine lv_icmp_ne (tgt := 230) S.x S.b d_Mpg_checkCall_223 (by decide) (fun c153 => ?_) (fun c153 => ?_)
                · have nc153 : ¬ v151.toInt = (118 : Int) := mt (i_eq (x := v151) (y := 118)).mpr c153
                  refine lv_iconst (v := 0) S.x S.b d_Mpg_checkCall_230 (by decide) ?_
                  refine lv_goto (tgt := 255) S.x S.b d_Mpg_checkCall_231 (by decide) ?_
                  refine lv_istore (lv' := [(7, .int 0), (0, .ref h), (1, .int p0), (2, .int x94_2), (3, .int x94_3), (4, .int x94_4), (5, .int x94_5), (6, .int x94_6)]) S.x S.b d_Mpg_checkCall_255 hl (by decide) rfl (fun ls hl => ?_)
                  refine lv_iload S.x S.b d_Mpg_checkCall_257 (lv_at hl 0 rfl) ?_
                  refine lv_if_eq (tgt := 266) S.x S.b d_Mpg_checkCall_259 (by decide) (fun c154 => ?_) (fun c154 => ?_)
                  ·
                    refine lv_iconst (v := 1) S.x S.b d_Mpg_checkCall_266 (by decide) ?_
                    exact px_iret (v := 1) S hr rfl hlk hAe hw (Nat.le_of_ble_eq_true rfl) (Nat.le_of_ble_eq_true rfl) (⟨ma_94, cf120, rfl, (show KpE cf cf120 from hke), (show WrV cf120 (tf 6).toInt from hwr), (show (cf120 33).toInt = (cf 33).toInt from by first | exact oz_1687f4cc65 k94_2 e126 | omega), (show (cf120 38).toInt = (cf 38).toInt from by first | exact oz_1687f4cc65 k94_3 e127 | omega), (show (cf120 48).toInt = (cf 48).toInt from by first | exact oz_1687f4cc65 k94_4 e128 | omega), (show (cf120 46).toInt = (cf 46).toInt from by first | exact oz_1687f4cc65 k94_5 e129 | omega), (show (cf120 47).toInt = (cf 47).toInt from by first | exact oz_1687f4cc65 k94_6 e130 | omega), (show (cf120 57).toInt = (cf 57).toInt from by first | exact oz_1687f4cc65 k94_7 e131 | omega), (show Ann na ma0 ma_94 from han), (show FrC lo hi ma ma_94 from hfc), (show 0 ≤ (1 : Int) from by first | decide | omega), (show (1 : Int) ≤ 4 from by first | decide | omega), (show ZTy cf120 (Gk ta ca na ma0 ns ys nf) na ma_94 lo hi p0 (1 : Int) from (zr_no (by first | with_reducible rfl | with_reducible assumption | omega)))⟩) d_Mpg_checkCall_267
                  · exact absurd c154 (by decide)
                · have nc153 : v151.toInt = (118 : Int) := (i_eq (x := v151) (y := 118)).mp c153
                  refine lv_iconst (v := 1) S.x S.b d_Mpg_checkCall_226 (by decide) ?_
                  refine lv_goto (tgt := 255) S.x S.b d_Mpg_checkCall_227 (by decide) ?_
                  refine lv_istore (lv' := [(7, .int 1), (0, .ref h), (1, .int p0), (2, .int x94_2), (3, .int x94_3), (4, .int x94_4), (5, .int x94_5), (6, .int x94_6)]) S.x S.b d_Mpg_checkCall_255 hl (by decide) rfl (fun ls hl => ?_)
                  refine lv_iload S.x S.b d_Mpg_checkCall_257 (lv_at hl 0 rfl) ?_
                  refine lv_if_eq (tgt := 266) S.x S.b d_Mpg_checkCall_259 (by decide) (fun c155 => ?_) (fun c155 => ?_)
                  · exact absurd c155 (by decide)
                  ·
                    refine lv_iconst (v := 4) S.x S.b d_Mpg_checkCall_262 (by decide) ?_
                    refine lv_goto (tgt := 267) S.x S.b d_Mpg_checkCall_263 (by decide) ?_
                    exact px_iret (v := 4) S hr rfl hlk hAe hw (Nat.le_of_ble_eq_true rfl) (Nat.le_of_ble_eq_true rfl) (⟨ma_94, cf120, rfl, (show KpE cf cf120 from hke), (show WrV cf120 (tf 6).toInt from hwr), (show (cf120 33).toInt = (cf 33).toInt from by first | exact oz_1687f4cc65 k94_2 e126 | omega), (show (cf120 38).toInt = (cf 38).toInt from by first | exact oz_1687f4cc65 k94_3 e127 | omega), (show (cf120 48).toInt = (cf 48).toInt from by first | exact oz_1687f4cc65 k94_4 e128 | omega), (show (cf120 46).toInt = (cf 46).toInt from by first | exact oz_1687f4cc65 k94_5 e129 | omega), (show (cf120 47).toInt = (cf 47).toInt from by first | exact oz_1687f4cc65 k94_6 e130 | omega), (show (cf120 57).toInt = (cf 57).toInt from by first | exact oz_1687f4cc65 k94_7 e131 | omega), (show Ann na ma0 ma_94 from han), (show FrC lo hi ma ma_94 from hfc), (show 0 ≤ (4 : Int) from by first | decide | omega), (show (4 : Int) ≤ 4 from by first | decide | omega), (show ZTy cf120 (Gk ta ca na ma0 ns ys nf) na ma_94 lo hi p0 (4 : Int) from (zr_no (by first | with_reducible rfl | with_reducible assumption | omega)))⟩) d_Mpg_checkCall_267
        · have nc2 : x94_5.toInt = (0 : Int) := (i_eq (x := x94_5) (y := 0)).mp c2
          refine lv_iconst (v := 0) S.x S.b d_Mpg_checkCall_148 (by decide) ?_
          exact px_iret (v := 0) S hr rfl hlk hAe hw (Nat.le_of_ble_eq_true rfl) (Nat.le_of_ble_eq_true rfl) (⟨ma_94, cf_94, rfl, (show KpE cf cf_94 from hke), (show WrV cf_94 (tf 6).toInt from hwr), (show (cf_94 33).toInt = (cf 33).toInt from by first | exact k94_2 | omega), (show (cf_94 38).toInt = (cf 38).toInt from by first | exact k94_3 | omega), (show (cf_94 48).toInt = (cf 48).toInt from by first | exact k94_4 | omega), (show (cf_94 46).toInt = (cf 46).toInt from by first | exact k94_5 | omega), (show (cf_94 47).toInt = (cf 47).toInt from by first | exact k94_6 | omega), (show (cf_94 57).toInt = (cf 57).toInt from by first | exact k94_7 | omega), (show Ann na ma0 ma_94 from han), (show FrC lo hi ma ma_94 from hfc), (show 0 ≤ (0 : Int) from by first | decide | omega), (show (0 : Int) ≤ 4 from by first | decide | omega), (show ZTy cf_94 (Gk ta ca na ma0 ns ys nf) na ma_94 lo hi p0 (0 : Int) from (zr_no (by first | with_reducible rfl | with_reducible assumption | omega)))⟩) d_Mpg_checkCall_149
      · have nc1 : ¬ x94_7.toInt < (0 : Int) := mt (i_lt (x := x94_7) (y := 0)).mpr c1
        refine lv_iload S.x S.b d_Mpg_checkCall_99 (lv_at hl 5 rfl) ?_
        obtain ⟨md156, hm1_md156, hm2_md156, hec_x94_7, hx3_md156, hrr2⟩ := RcE.step hrr (by first | with_reducible rfl | with_reducible assumption | omega)
        refine lv_if_eq (tgt := 116) S.x S.b d_Mpg_checkCall_101 (by decide) (fun c157 => ?_) (fun c157 => ?_)
        · have nc157 : x94_5.toInt = (0 : Int) := (i_eq (x := x94_5) (y := 0)).mp c157
          refine lv_bipush (v := 32) S.x S.b d_Mpg_checkCall_116 (by decide) ?_
          refine lv_istore (lv' := [(8, .int 32), (0, .ref h), (1, .int p0), (2, .int x94_2), (3, .int x94_3), (4, .int x94_4), (5, .int x94_5), (6, .int x94_6), (7, .int x94_7)]) S.x S.b d_Mpg_checkCall_118 hl (by decide) rfl (fun ls hl => ?_)
          refine lv_aload_n S.x S.b d_Mpg_checkCall_120 rfl (lv_at hl 1 rfl) ?_
          refine lv_iload S.x S.b d_Mpg_checkCall_121 (lv_at hl 8 rfl) ?_
          refine lv_iload S.x S.b d_Mpg_checkCall_123 (lv_at hl 0 rfl) ?_
          refine px_callv (pr := []) (px_runV (As := [.int x94_7, .int 32]) (rest := []) S (c_mp_checkArgument l D cs ma0 ys ns nf kn d mid_94 md156 h r g tf ta pf na wa ca ef ea xf xa ma_94 cf_94 x94_7 32  (show 0 ≤ mid_94 from by first | exact oz_06d7f15a5c k94_22 hrg.2.2 | omega) (show md156 ≤ (pf 13).toInt from by first | exact oz_bbb5b20c1a g1 hm2_md156 | omega) (show (pf 13).toInt ≤ 2100 from by first | exact g2 | omega) (show (tf 6).toInt ≤ 2049 from by first | exact g3 | omega) (show (cf_94 33).toInt = kn from by first | exact oz_1687f4cc65 g4 k94_2 | omega) (show 0 ≤ kn from by first | exact g5 | omega) (show (cf_94 48).toInt = ns from by first | exact oz_1687f4cc65 g6 k94_4 | omega) (show (cf_94 38).toInt = nf from by first | exact oz_1687f4cc65 g7 k94_3 | omega) (show 0 ≤ nf from by first | exact g8 | omega) (show (32 : Int) = 32 ∨ (32 : Int) = 105 ∨ (32 : Int) = 115 ∨ (32 : Int) = 97 ∨ (32 : Int) = 99 from by first | with_reducible rfl | with_reducible assumption | omega) htk (FsI.le (N' := (pf 13).toInt) hfs (by first | with_reducible rfl | with_reducible assumption | omega)) hwr (KnT.eq hkt (by first | with_reducible rfl | with_reducible assumption | omega)) (FnT.eq hft (by first | with_reducible rfl | with_reducible assumption | omega)) hks hfp han hec_x94_7 hLC _) hT (pr := []) (pcs := [wdP cs h r g tf ta pf na ma_94 wa cf_94 ca ef ea xf xa]) hw (oX_call (P := (fun A U H => (oP A g U H))) (pr := []) oG_P hw hA hP) (px_recv hT hw 0 0 rfl rfl rfl) m12_233 m12_230 m12_232 ms_12_11 m1_21 q_Mpg_checkArgument ⟨show (4 * d + 13) + 1 ≤ (4 * d + 14) from by first | with_reducible rfl | with_reducible assumption | omega, show 8 + (5 + 11) + (200 * d + 470) ≤ (200 * d + 540) from by first | with_reducible rfl | with_reducible assumption | omega⟩ hl.1 rfl (Nat.le_of_ble_eq_true rfl) d_Mpg_checkCall_125 ⟨Nat.le_of_ble_eq_true rfl, Nat.le_of_ble_eq_true rfl⟩) hw hA (fun p162 H locs hp162 hw => ?_)
          obtain ⟨ma160, cf161, rfl, e164, e165, e166, e167, e168, e169, e170, e171, e172, e173, e174⟩ := hp162
          have e164 : KpE cf_94 cf161 := e164
          have hke := (hke).tr e164
          have hkz_e164 := e164.2
          have e165 : WrV cf161 (tf 6).toInt := e165
          have hwr := e165
          have hw0_e165 := hwr.1
          have e166 : (cf161 33).toInt = (cf_94 33).toInt := e166
          have e167 : (cf161 38).toInt = (cf_94 38).toInt := e167
          have e168 : (cf161 48).toInt = (cf_94 48).toInt := e168
          have e169 : (cf161 46).toInt = (cf_94 46).toInt := e169
          have e170 : (cf161 47).toInt = (cf_94 47).toInt := e170
          have e171 : (cf161 57).toInt = (cf_94 57).toInt := e171
          have e172 : Ann na ma0 ma160 := e172
          have han := e172
          have e173 : FrC mid_94 md156 ma_94 ma160 := e173
          have hfc := hfc.tr e173 (by first | with_reducible rfl | with_reducible assumption | omega) (by first | with_reducible rfl | with_reducible assumption | omega)
          have hkb := KbI.tr hkb e173 (by first | with_reducible rfl | with_reducible assumption | omega) (by first | with_reducible rfl | with_reducible assumption | omega)
          have hzta := ZTa.tr hzta e164 e173 (by first | with_reducible rfl | with_reducible assumption | omega)
          have e174 : ZAr cf161 (Gk ta ca na ma0 ns ys nf) na ma160 mid_94 md156 x94_7 (32 : Int) := e174
          have hzar_x94_7 := e174
          have hw : pw D A s.heap H locs [wdP cs h r g tf ta pf na ma160 wa cf161 ca ef ea xf xa] := hw
          obtain ⟨z175, ez175⟩ : ∃ y : Int32, y = x94_6 + 1 := ⟨_, rfl⟩
          have tz175 : z175.toInt = (x94_6.toInt + 1 + 2147483648) % 4294967296 - 2147483648 := by rw [ez175]; exact i_add x94_6 1
          have lz175 := Int32.le_toInt z175
          have uz175 := Int32.toInt_lt z175
          try replace tz175 : z175.toInt = x94_6.toInt + 1 := by omega
          refine lv_iinc (v := z175) (lv' := [(6, .int z175), (8, .int 32), (0, .ref h), (1, .int p0), (2, .int x94_2), (3, .int x94_3), (4, .int x94_4), (5, .int x94_5), (7, .int x94_7)]) S.x S.b d_Mpg_checkCall_128 hl (k := 7) rfl (by rw [ez175]; rfl) (by decide) rfl (fun ls hl => ?_)
          refine lv_aload_n S.x S.b d_Mpg_checkCall_131 rfl (lv_at hl 2 rfl) ?_
          refine px_get S k_Mpg hT hw 0 0 21 (v := .ref (r 21)) rfl rfl rfl (by decide) m10_7 d_Mpg_checkCall_132 ?_
          refine lv_iload S.x S.b d_Mpg_checkCall_135 (lv_at hl 8 rfl) ?_
          refine px_iald S hT hw 0 17 (n := 2100) (f := (na 21)) rfl gp_21 (x := x94_7) (vp_in_iff.mpr (by constructor <;> omega)) d_Mpg_checkCall_137 ?_
          refine lv_topi (fun z176 ez176 => ?_)
          have lz176 := Int32.le_toInt z176
          have uz176 := Int32.toInt_lt z176
          refine lv_istore (lv' := [(7, .int z176), (6, .int z175), (8, .int 32), (0, .ref h), (1, .int p0), (2, .int x94_2), (3, .int x94_3), (4, .int x94_4), (5, .int x94_5)]) S.x S.b d_Mpg_checkCall_138 hl (by decide) rfl (fun ls hl => ?_)
          refine lv_goto (tgt := 94) S.x S.b d_Mpg_checkCall_140 (by decide) ?_
          exact ih94 ma160 cf161 md156 x94_2 x94_3 x94_4 x94_5 z175 z176 _ _ ls (show KpE cf cf161 from hke) (show WrV cf161 (tf 6).toInt from hwr) (show (cf161 33).toInt = (cf 33).toInt from by first | exact oz_1687f4cc65 k94_2 e166 | omega) (show (cf161 38).toInt = (cf 38).toInt from by first | exact oz_1687f4cc65 k94_3 e167 | omega) (show (cf161 48).toInt = (cf 48).toInt from by first | exact oz_1687f4cc65 k94_4 e168 | omega) (show (cf161 46).toInt = (cf 46).toInt from by first | exact oz_1687f4cc65 k94_5 e169 | omega) (show (cf161 47).toInt = (cf 47).toInt from by first | exact oz_1687f4cc65 k94_6 e170 | omega) (show (cf161 57).toInt = (cf 57).toInt from by first | exact oz_1687f4cc65 k94_7 e171 | omega) (show Ann na ma0 ma160 from han) (show FrC lo hi ma ma160 from hfc) (show -1 ≤ x94_3.toInt from by first | exact k94_10 | omega) (show x94_3.toInt ≤ 9 from by first | exact k94_11 | omega) (show -1 ≤ x94_4.toInt from by first | exact k94_12 | omega) (show x94_4.toInt < nf from by first | exact k94_13 | omega) (show 0 ≤ x94_5.toInt from by first | exact k94_14 | omega) (show x94_5.toInt ≤ 1 from by first | exact k94_15 | omega) (show x94_5.toInt = 1 → (0 ≤ x94_3.toInt ∧ x94_4.toInt = -1) ∨ (x94_3.toInt < 0 ∧ 0 ≤ x94_4.toInt) from by first | exact k94_16 | omega) (show x94_5.toInt = 0 → 1 ≤ (cf161 30).toInt from by first | with_reducible rfl | with_reducible assumption | omega) (show 0 ≤ z175.toInt from by first | exact oz_ae613611c0 tz175 k94_18 | omega) (show z175.toInt + p0.toInt + 1 ≤ md156 from by first | with_reducible rfl | with_reducible assumption | omega) (show 0 ≤ x94_2.toInt from by first | exact k94_20 | omega) (show x94_2.toInt < (tf 6).toInt from by first | exact k94_21 | omega) (show p0.toInt + 1 ≤ md156 from by first | with_reducible rfl | with_reducible assumption | omega) (show md156 ≤ hi from by first | exact hm2_md156 | omega) (show RcR ta (tf 6).toInt na ma0 d md156 hi z176 from (by rw [ez176]; exact hrr2)) (show KbI ma160 p0 x94_5.toInt (cod x94_4.toInt x94_3.toInt) from hkb) (show ZTa cf161 (Gk ta ca na ma0 ns ys nf) na ma160 (p0.toInt + 1) md156 (cod x94_4.toInt x94_3.toInt) (na 17 p0.toNatClampNeg) z176 z175.toInt from (ZTa.s hzta hzar_x94_7 (fun q => absurd q (by first | with_reducible rfl | with_reducible assumption | omega)) (by first | with_reducible rfl | with_reducible assumption | omega) (by first | with_reducible rfl | with_reducible assumption | omega) (by first | with_reducible rfl | with_reducible assumption | omega) ez176 (by first | with_reducible rfl | with_reducible assumption | omega) (by first | with_reducible rfl | with_reducible assumption | omega))) (show hi - md156 < (n_94 : Int) from by first | with_reducible rfl | with_reducible assumption | omega) hw (lv_sub hl [3, 4, 5, 6, 7, 8, 1, 0] rfl)
        · have nc157 : ¬ x94_5.toInt = (0 : Int) := mt (i_eq (x := x94_5) (y := 0)).mpr c157
          refine lv_aload_n S.x S.b d_Mpg_checkCall_104 rfl (lv_at hl 0 rfl) ?_
          refine lv_iload S.x S.b d_Mpg_checkCall_105 (lv_at hl 4 rfl) ?_
          refine lv_iload_n S.x S.b d_Mpg_checkCall_107 rfl (lv_at hl 3 rfl) ?_
          refine lv_iload S.x S.b d_Mpg_checkCall_108 (lv_at hl 6 rfl) ?_
          refine px_calli (pr := []) (px_runV (As := [.int x94_4, .int x94_3, .int x94_6]) (rest := []) S (c_mp_taken l D cs h r g tf ta pf na ma_94 wa cf_94 ca ef ea xf xa x94_4 x94_3 x94_6  (show -1 ≤ x94_4.toInt from by first | exact k94_12 | omega) (show x94_4.toInt < (cf_94 38).toInt from by first | exact oz_0f2ac8ea3f k94_3 k94_13 g7 | omega) (show x94_4.toInt < 0 → 0 ≤ x94_3.toInt ∧ x94_3.toInt < 10 from by first | with_reducible rfl | with_reducible assumption | omega) (show 0 ≤ x94_6.toInt from by first | exact k94_18 | omega) (show x94_6.toInt ≤ 4000 from by first | exact oz_2634073f30 k94_19 hrg.2.2 k94_23 g1 g2 | omega) (show 0 ≤ (cf_94 38).toInt from by first | exact oz_e2fef14871 k94_3 g7 g8 | omega) htk (FnT.eq hft (by first | with_reducible rfl | with_reducible assumption | omega)) (FnP.eq hfp (by first | with_reducible rfl | with_reducible assumption | omega)) _) hT (pr := []) (pcs := [wdP cs h r g tf ta pf na ma_94 wa cf_94 ca ef ea xf xa]) hw (oX_call (P := (fun A U H => (oP A g U H))) (pr := []) oG_P hw hA hP) (px_recv hT hw 0 0 rfl rfl rfl) m12_229 m12_226 m12_228 ms_12_10 m1_21 q_Mpg_taken ⟨show 4 + 1 ≤ (4 * d + 14) from by first | with_reducible rfl | with_reducible assumption | omega, show 8 + (6 + 11) + 140 ≤ (200 * d + 540) from by first | with_reducible rfl | with_reducible assumption | omega⟩ hl.1 rfl (Nat.le_of_ble_eq_true rfl) d_Mpg_checkCall_110 ⟨Nat.le_of_ble_eq_true rfl, Nat.le_of_ble_eq_true rfl⟩) hw hA (fun v178 p177 H locs hp177 hw => ?_)
          obtain ⟨rfl, e179⟩ := hp177
          have e179 : TkV na ma_94 ca x94_4.toInt x94_3.toInt x94_6.toInt v178.toInt := e179
          have hw : pw D A s.heap H locs [wdP cs h r g tf ta pf na ma_94 wa cf_94 ca ef ea xf xa] := hw
          have lv178 := Int32.le_toInt v178
          have uv178 := Int32.toInt_lt v178
          have hcn_110 : CeN nf (cod x94_4.toInt x94_3.toInt) := cen_mk (by first | with_reducible rfl | with_reducible assumption | omega); have htv_110 := tkv_at (ta := ta) (ns := ns) (ys := ys) e179 han hfp hcn_110; have htg_110 := tkv_rng e179 hcn_110
          refine lv_goto (tgt := 118) S.x S.b d_Mpg_checkCall_113 (by decide) ?_
          refine lv_istore (lv' := [(8, .int v178), (0, .ref h), (1, .int p0), (2, .int x94_2), (3, .int x94_3), (4, .int x94_4), (5, .int x94_5), (6, .int x94_6), (7, .int x94_7)]) S.x S.b d_Mpg_checkCall_118 hl (by decide) rfl (fun ls hl => ?_)
          refine lv_aload_n S.x S.b d_Mpg_checkCall_120 rfl (lv_at hl 1 rfl) ?_
          refine lv_iload S.x S.b d_Mpg_checkCall_121 (lv_at hl 8 rfl) ?_
          refine lv_iload S.x S.b d_Mpg_checkCall_123 (lv_at hl 0 rfl) ?_
          refine px_callv (pr := []) (px_runV (As := [.int x94_7, .int v178]) (rest := []) S (c_mp_checkArgument l D cs ma0 ys ns nf kn d mid_94 md156 h r g tf ta pf na wa ca ef ea xf xa ma_94 cf_94 x94_7 v178  (show 0 ≤ mid_94 from by first | exact oz_06d7f15a5c k94_22 hrg.2.2 | omega) (show md156 ≤ (pf 13).toInt from by first | exact oz_bbb5b20c1a g1 hm2_md156 | omega) (show (pf 13).toInt ≤ 2100 from by first | exact g2 | omega) (show (tf 6).toInt ≤ 2049 from by first | exact g3 | omega) (show (cf_94 33).toInt = kn from by first | exact oz_1687f4cc65 g4 k94_2 | omega) (show 0 ≤ kn from by first | exact g5 | omega) (show (cf_94 48).toInt = ns from by first | exact oz_1687f4cc65 g6 k94_4 | omega) (show (cf_94 38).toInt = nf from by first | exact oz_1687f4cc65 g7 k94_3 | omega) (show 0 ≤ nf from by first | exact g8 | omega) (show v178.toInt = 32 ∨ v178.toInt = 105 ∨ v178.toInt = 115 ∨ v178.toInt = 97 ∨ v178.toInt = 99 from by first | with_reducible rfl | with_reducible assumption | omega) htk (FsI.le (N' := (pf 13).toInt) hfs (by first | with_reducible rfl | with_reducible assumption | omega)) hwr (KnT.eq hkt (by first | with_reducible rfl | with_reducible assumption | omega)) (FnT.eq hft (by first | with_reducible rfl | with_reducible assumption | omega)) hks hfp han hec_x94_7 hLC _) hT (pr := []) (pcs := [wdP cs h r g tf ta pf na ma_94 wa cf_94 ca ef ea xf xa]) hw (oX_call (P := (fun A U H => (oP A g U H))) (pr := []) oG_P hw hA hP) (px_recv hT hw 0 0 rfl rfl rfl) m12_233 m12_230 m12_232 ms_12_11 m1_21 q_Mpg_checkArgument ⟨show (4 * d + 13) + 1 ≤ (4 * d + 14) from by first | with_reducible rfl | with_reducible assumption | omega, show 8 + (5 + 11) + (200 * d + 470) ≤ (200 * d + 540) from by first | with_reducible rfl | with_reducible assumption | omega⟩ hl.1 rfl (Nat.le_of_ble_eq_true rfl) d_Mpg_checkCall_125 ⟨Nat.le_of_ble_eq_true rfl, Nat.le_of_ble_eq_true rfl⟩) hw hA (fun p184 H locs hp184 hw => ?_)
          obtain ⟨ma182, cf183, rfl, e186, e187, e188, e189, e190, e191, e192, e193, e194, e195, e196⟩ := hp184
          have e186 : KpE cf_94 cf183 := e186
          have hke := (hke).tr e186
          have hkz_e186 := e186.2
          have e187 : WrV cf183 (tf 6).toInt := e187
          have hwr := e187
          have hw0_e187 := hwr.1
          have e188 : (cf183 33).toInt = (cf_94 33).toInt := e188
          have e189 : (cf183 38).toInt = (cf_94 38).toInt := e189
          have e190 : (cf183 48).toInt = (cf_94 48).toInt := e190
          have e191 : (cf183 46).toInt = (cf_94 46).toInt := e191
          have e192 : (cf183 47).toInt = (cf_94 47).toInt := e192
          have e193 : (cf183 57).toInt = (cf_94 57).toInt := e193
          have e194 : Ann na ma0 ma182 := e194
          have han := e194
          have e195 : FrC mid_94 md156 ma_94 ma182 := e195
          have hfc := hfc.tr e195 (by first | with_reducible rfl | with_reducible assumption | omega) (by first | with_reducible rfl | with_reducible assumption | omega)
          have hkb := KbI.tr hkb e195 (by first | with_reducible rfl | with_reducible assumption | omega) (by first | with_reducible rfl | with_reducible assumption | omega)
          have hzta := ZTa.tr hzta e186 e195 (by first | with_reducible rfl | with_reducible assumption | omega)
          have e196 : ZAr cf183 (Gk ta ca na ma0 ns ys nf) na ma182 mid_94 md156 x94_7 v178.toInt := e196
          have hzar_x94_7 := e196
          have hw : pw D A s.heap H locs [wdP cs h r g tf ta pf na ma182 wa cf183 ca ef ea xf xa] := hw
          obtain ⟨z197, ez197⟩ : ∃ y : Int32, y = x94_6 + 1 := ⟨_, rfl⟩
          have tz197 : z197.toInt = (x94_6.toInt + 1 + 2147483648) % 4294967296 - 2147483648 := by rw [ez197]; exact i_add x94_6 1
          have lz197 := Int32.le_toInt z197
          have uz197 := Int32.toInt_lt z197
          try replace tz197 : z197.toInt = x94_6.toInt + 1 := by omega
          refine lv_iinc (v := z197) (lv' := [(6, .int z197), (8, .int v178), (0, .ref h), (1, .int p0), (2, .int x94_2), (3, .int x94_3), (4, .int x94_4), (5, .int x94_5), (7, .int x94_7)]) S.x S.b d_Mpg_checkCall_128 hl (k := 7) rfl (by rw [ez197]; rfl) (by decide) rfl (fun ls hl => ?_)
          refine lv_aload_n S.x S.b d_Mpg_checkCall_131 rfl (lv_at hl 2 rfl) ?_
          refine px_get S k_Mpg hT hw 0 0 21 (v := .ref (r 21)) rfl rfl rfl (by decide) m10_7 d_Mpg_checkCall_132 ?_
          refine lv_iload S.x S.b d_Mpg_checkCall_135 (lv_at hl 8 rfl) ?_
          refine px_iald S hT hw 0 17 (n := 2100) (f := (na 21)) rfl gp_21 (x := x94_7) (vp_in_iff.mpr (by constructor <;> omega)) d_Mpg_checkCall_137 ?_
          refine lv_topi (fun z198 ez198 => ?_)
          have lz198 := Int32.le_toInt z198
          have uz198 := Int32.toInt_lt z198
          refine lv_istore (lv' := [(7, .int z198), (6, .int z197), (8, .int v178), (0, .ref h), (1, .int p0), (2, .int x94_2), (3, .int x94_3), (4, .int x94_4), (5, .int x94_5)]) S.x S.b d_Mpg_checkCall_138 hl (by decide) rfl (fun ls hl => ?_)
          refine lv_goto (tgt := 94) S.x S.b d_Mpg_checkCall_140 (by decide) ?_
          exact ih94 ma182 cf183 md156 x94_2 x94_3 x94_4 x94_5 z197 z198 _ _ ls (show KpE cf cf183 from hke) (show WrV cf183 (tf 6).toInt from hwr) (show (cf183 33).toInt = (cf 33).toInt from by first | exact oz_1687f4cc65 k94_2 e188 | omega) (show (cf183 38).toInt = (cf 38).toInt from by first | exact oz_1687f4cc65 k94_3 e189 | omega) (show (cf183 48).toInt = (cf 48).toInt from by first | exact oz_1687f4cc65 k94_4 e190 | omega) (show (cf183 46).toInt = (cf 46).toInt from by first | exact oz_1687f4cc65 k94_5 e191 | omega) (show (cf183 47).toInt = (cf 47).toInt from by first | exact oz_1687f4cc65 k94_6 e192 | omega) (show (cf183 57).toInt = (cf 57).toInt from by first | exact oz_1687f4cc65 k94_7 e193 | omega) (show Ann na ma0 ma182 from han) (show FrC lo hi ma ma182 from hfc) (show -1 ≤ x94_3.toInt from by first | exact k94_10 | omega) (show x94_3.toInt ≤ 9 from by first | exact k94_11 | omega) (show -1 ≤ x94_4.toInt from by first | exact k94_12 | omega) (show x94_4.toInt < nf from by first | exact k94_13 | omega) (show 0 ≤ x94_5.toInt from by first | exact k94_14 | omega) (show x94_5.toInt ≤ 1 from by first | exact k94_15 | omega) (show x94_5.toInt = 1 → (0 ≤ x94_3.toInt ∧ x94_4.toInt = -1) ∨ (x94_3.toInt < 0 ∧ 0 ≤ x94_4.toInt) from by first | exact k94_16 | omega) (show x94_5.toInt = 0 → 1 ≤ (cf183 30).toInt from by first | with_reducible rfl | with_reducible assumption | omega) (show 0 ≤ z197.toInt from by first | exact oz_ae613611c0 tz197 k94_18 | omega) (show z197.toInt + p0.toInt + 1 ≤ md156 from by first | with_reducible rfl | with_reducible assumption | omega) (show 0 ≤ x94_2.toInt from by first | exact k94_20 | omega) (show x94_2.toInt < (tf 6).toInt from by first | exact k94_21 | omega) (show p0.toInt + 1 ≤ md156 from by first | with_reducible rfl | with_reducible assumption | omega) (show md156 ≤ hi from by first | exact hm2_md156 | omega) (show RcR ta (tf 6).toInt na ma0 d md156 hi z198 from (by rw [ez198]; exact hrr2)) (show KbI ma182 p0 x94_5.toInt (cod x94_4.toInt x94_3.toInt) from hkb) (show ZTa cf183 (Gk ta ca na ma0 ns ys nf) na ma182 (p0.toInt + 1) md156 (cod x94_4.toInt x94_3.toInt) (na 17 p0.toNatClampNeg) z198 z197.toInt from (ZTa.s hzta hzar_x94_7 (fun _ => htv_110) (by first | with_reducible rfl | with_reducible assumption | omega) (by first | with_reducible rfl | with_reducible assumption | omega) (by first | with_reducible rfl | with_reducible assumption | omega) ez198 (by first | with_reducible rfl | with_reducible assumption | omega) (by first | with_reducible rfl | with_reducible assumption | omega))) (show hi - md156 < (n_94 : Int) from by first | with_reducible rfl | with_reducible assumption | omega) hw (lv_sub hl [3, 4, 5, 6, 7, 8, 1, 0] rfl)
  refine lv_aload_n S.x S.b d_Mpg_checkCall_0 rfl (lv_at hl 0 rfl) ?_
  refine px_get S k_Mpg hT hw 0 0 15 (v := .ref (r 15)) rfl rfl rfl (by decide) m9_239 d_Mpg_checkCall_1 ?_
  refine lv_iload_n S.x S.b d_Mpg_checkCall_4 rfl (lv_at hl 1 rfl) ?_
  refine px_iald S hT hw 0 11 (n := 2100) (f := (na 15)) rfl gp_15 (x := p0) (vp_in_iff.mpr (by first | exact oz_a7e05de1cd hrg.2.2 hrg.2.1 g1 g2 | (constructor <;> omega))) d_Mpg_checkCall_5 ?_
  refine lv_topi (fun z199 ez199 => ?_)
  have lz199 := Int32.le_toInt z199
  have uz199 := Int32.toInt_lt z199
  have rz199 := EcV.tok hec_p0 ez199
  refine lv_istore_n (lv' := [(2, .int z199), (0, .ref h), (1, .int p0)]) S.x S.b d_Mpg_checkCall_6 rfl hl (by decide) rfl (fun ls hl => ?_)
  refine lv_aload_n S.x S.b d_Mpg_checkCall_7 rfl (lv_at hl 1 rfl) ?_
  refine lv_iload_n S.x S.b d_Mpg_checkCall_8 rfl (lv_at hl 0 rfl) ?_
  refine px_calli (pr := []) (px_runV (As := [.int z199]) (rest := []) S (c_mp_findOwn l D cs h r g tf ta pf na ma wa cf ca ef ea xf xa z199  (show 0 ≤ z199.toInt from by first | exact rz199.1 | omega) (show z199.toInt < (tf 6).toInt from by first | exact oz_7fe81129bf rz199.2 | omega) (show (tf 6).toInt ≤ 2049 from by first | exact g3 | omega) htk _) hT (pr := []) (pcs := [wdP cs h r g tf ta pf na ma wa cf ca ef ea xf xa]) hw (oX_call (P := (fun A U H => (oP A g U H))) (pr := []) oG_P hw hA hP) (px_recv hT hw 0 0 rfl rfl rfl) m12_157 m12_154 m12_156 ms_11_8 m1_21 q_Mpg_findOwn ⟨show 6 + 1 ≤ (4 * d + 14) from by first | with_reducible rfl | with_reducible assumption | omega, show 8 + (3 + 11) + 230 ≤ (200 * d + 540) from by first | with_reducible rfl | with_reducible assumption | omega⟩ hl.1 rfl (Nat.le_of_ble_eq_true rfl) d_Mpg_checkCall_9 ⟨Nat.le_of_ble_eq_true rfl, Nat.le_of_ble_eq_true rfl⟩) hw hA (fun v201 p200 H locs hp200 hw => ?_)
  obtain ⟨rfl, e202, e203⟩ := hp200
  have e202 : -1 ≤ v201.toInt := e202
  have e203 : v201.toInt ≤ 9 := e203
  have hw : pw D A s.heap H locs [wdP cs h r g tf ta pf na ma wa cf ca ef ea xf xa] := hw
  have lv201 := Int32.le_toInt v201
  have uv201 := Int32.toInt_lt v201
  refine lv_istore_n (lv' := [(3, .int v201), (2, .int z199), (0, .ref h), (1, .int p0)]) S.x S.b d_Mpg_checkCall_12 rfl hl (by decide) rfl (fun ls hl => ?_)
  refine lv_iload_n S.x S.b d_Mpg_checkCall_13 rfl (lv_at hl 0 rfl) ?_
  refine lv_if_lt (tgt := 21) S.x S.b d_Mpg_checkCall_14 (by decide) (fun c204 => ?_) (fun c204 => ?_)
  · have nc204 : v201.toInt < (0 : Int) := (i_lt (x := v201) (y := 0)).mp c204
    refine lv_aload_n S.x S.b d_Mpg_checkCall_21 rfl (lv_at hl 2 rfl) ?_
    refine lv_iload_n S.x S.b d_Mpg_checkCall_22 rfl (lv_at hl 1 rfl) ?_
    refine px_calli (pr := []) (px_runV (As := [.int z199]) (rest := []) S (c_mp_findFunction l D cs h r g tf ta pf na ma wa cf ca ef ea xf xa z199  (show 0 ≤ z199.toInt from by first | exact rz199.1 | omega) (show z199.toInt < (tf 6).toInt from by first | exact oz_7fe81129bf rz199.2 | omega) (show (tf 6).toInt ≤ 2049 from by first | exact g3 | omega) (show 0 ≤ (cf 38).toInt from by first | exact oz_f3ebed1ad0 g7 g8 | omega) htk (FnT.eq hft (by first | with_reducible rfl | with_reducible assumption | omega)) _) hT (pr := []) (pcs := [wdP cs h r g tf ta pf na ma wa cf ca ef ea xf xa]) hw px_X.tt (px_recv hT hw 0 0 rfl rfl rfl) m12_165 m12_162 m12_164 ms_11_10 m1_21 q_Mpg_findFunction ⟨show 1 + 1 ≤ (4 * d + 14) from by first | with_reducible rfl | with_reducible assumption | omega, show 8 + (3 + 11) + 40 ≤ (200 * d + 540) from by first | with_reducible rfl | with_reducible assumption | omega⟩ hl.1 rfl (Nat.le_of_ble_eq_true rfl) d_Mpg_checkCall_23 ⟨Nat.le_of_ble_eq_true rfl, Nat.le_of_ble_eq_true rfl⟩) hw hA (fun v206 p205 H locs hp205 hw => ?_)
    obtain ⟨rfl, e207, e208⟩ := hp205
    have e207 : -1 ≤ v206.toInt := e207
    have e208 : v206.toInt < (cf 38).toInt := e208
    have hw : pw D A s.heap H locs [wdP cs h r g tf ta pf na ma wa cf ca ef ea xf xa] := hw
    have lv206 := Int32.le_toInt v206
    have uv206 := Int32.toInt_lt v206
    refine lv_istore (lv' := [(4, .int v206), (3, .int v201), (2, .int z199), (0, .ref h), (1, .int p0)]) S.x S.b d_Mpg_checkCall_26 hl (by decide) rfl (fun ls hl => ?_)
    refine lv_aload_n S.x S.b d_Mpg_checkCall_28 rfl (lv_at hl 3 rfl) ?_
    refine lv_iload_n S.x S.b d_Mpg_checkCall_29 rfl (lv_at hl 2 rfl) ?_
    refine lv_iconst (v := 0) S.x S.b d_Mpg_checkCall_30 (by decide) ?_
    refine px_calli (pr := []) (px_runV (As := [.int z199, .int 0]) (rest := []) S (c_mp_find l D cs h r g tf ta pf na ma wa cf ca ef ea xf xa z199 0  (show 0 ≤ z199.toInt from by first | exact rz199.1 | omega) (show z199.toInt < (tf 6).toInt from by first | exact oz_7fe81129bf rz199.2 | omega) (show (tf 6).toInt ≤ 2049 from by first | exact g3 | omega) (show 0 ≤ (0 : Int) from by first | decide | omega) (show 0 ≤ (cf 33).toInt from by first | exact oz_f3ebed1ad0 g4 g5 | omega) htk (KnT.eq hkt (by first | with_reducible rfl | with_reducible assumption | omega)) _) hT (pr := []) (pcs := [wdP cs h r g tf ta pf na ma wa cf ca ef ea xf xa]) hw px_X.tt (px_recv hT hw 0 0 rfl rfl rfl) m12_181 m12_178 m12_180 ms_11_14 m1_21 q_Mpg_find ⟨show 1 + 1 ≤ (4 * d + 14) from by first | with_reducible rfl | with_reducible assumption | omega, show 8 + (4 + 11) + 40 ≤ (200 * d + 540) from by first | with_reducible rfl | with_reducible assumption | omega⟩ hl.1 rfl (Nat.le_of_ble_eq_true rfl) d_Mpg_checkCall_31 ⟨Nat.le_of_ble_eq_true rfl, Nat.le_of_ble_eq_true rfl⟩) hw hA (fun v210 p209 H locs hp209 hw => ?_)
    obtain ⟨rfl, e211, e212, e213, e214⟩ := hp209
    have e211 : -1 ≤ v210.toInt := e211
    have e212 : v210.toInt < (cf 33).toInt := e212
    have e213 : 0 ≤ v210.toInt → (0 : Int) ≤ v210.toInt := e213
    have e214 : FndV ta ca (cf 33).toInt z199 (0 : Int) v210.toInt := e214
    have hw : pw D A s.heap H locs [wdP cs h r g tf ta pf na ma wa cf ca ef ea xf xa] := hw
    have lv210 := Int32.le_toInt v210
    have uv210 := Int32.toInt_lt v210
    refine lv_if_ge (tgt := 50) S.x S.b d_Mpg_checkCall_34 (by decide) (fun c215 => ?_) (fun c215 => ?_)
    · have nc215 : (0 : Int) ≤ v210.toInt := (i_le (x := 0) (y := v210)).mp c215
      refine lv_iconst (v := 0) S.x S.b d_Mpg_checkCall_50 (by decide) ?_
      refine lv_istore (lv' := [(5, .int 0), (4, .int v206), (3, .int v201), (2, .int z199), (0, .ref h), (1, .int p0)]) S.x S.b d_Mpg_checkCall_51 hl (by decide) rfl (fun ls hl => ?_)
      refine lv_iload S.x S.b d_Mpg_checkCall_53 (lv_at hl 0 rfl) ?_
      refine lv_if_ne (tgt := 64) S.x S.b d_Mpg_checkCall_55 (by decide) (fun c216 => ?_) (fun c216 => ?_)
      · exact absurd c216 (by decide)
      ·
        refine lv_aload_n S.x S.b d_Mpg_checkCall_58 rfl (lv_at hl 4 rfl) ?_
        refine lv_iconst (v := 2) S.x S.b d_Mpg_checkCall_59 (by decide) ?_
        refine lv_iload_n S.x S.b d_Mpg_checkCall_60 rfl (lv_at hl 3 rfl) ?_
        refine px_callv (pr := []) (px_runV (As := [.int 2, .int z199]) (rest := []) S (c_mp_bad l D cs h r g tf ta pf na ma wa ca ef ea xf xa cf 2 z199  (show 1 ≤ (2 : Int) from by first | decide | omega) (show 0 ≤ z199.toInt from by first | exact rz199.1 | omega) (show z199.toInt < (tf 6).toInt from by first | exact oz_7fe81129bf rz199.2 | omega) htk hwr _) hT (pr := []) (pcs := [wdP cs h r g tf ta pf na ma wa cf ca ef ea xf xa]) hw px_X.tt (px_recv hT hw 0 0 rfl rfl rfl) m12_173 m12_170 m12_172 ms_11_12 m1_21 q_Mpg_bad ⟨show 0 + 1 ≤ (4 * d + 14) from by first | with_reducible rfl | with_reducible assumption | omega, show 8 + (3 + 11) + 0 ≤ (200 * d + 540) from by first | with_reducible rfl | with_reducible assumption | omega⟩ hl.1 rfl (Nat.le_of_ble_eq_true rfl) d_Mpg_checkCall_61 ⟨Nat.le_of_ble_eq_true rfl, Nat.le_of_ble_eq_true rfl⟩) hw hA (fun p219 H locs hp219 hw => ?_)
        obtain ⟨cf218, rfl, e221, e222, e223, e224, e225, e226, e227, e228, e229, e230, e231, e232, e233, e234, e235, e236, e237, e238, e239⟩ := hp219
        have e221 : KpE cf cf218 := e221
        have hke := (hke).tr e221
        have hkz_e221 := e221.2
        have e222 : WrV cf218 (tf 6).toInt := e222
        have hwr := e222
        have hw0_e222 := hwr.1
        have e223 : 1 ≤ (cf218 30).toInt := e223
        have e224 : (cf218 33).toInt = (cf 33).toInt := e224
        have e225 : (cf218 38).toInt = (cf 38).toInt := e225
        have e226 : (cf218 48).toInt = (cf 48).toInt := e226
        have e227 : (cf218 46).toInt = (cf 46).toInt := e227
        have e228 : (cf218 47).toInt = (cf 47).toInt := e228
        have e229 : (cf218 57).toInt = (cf 57).toInt := e229
        have e230 : (cf218 37).toInt = (cf 37).toInt := e230
        have e231 : (cf218 42).toInt = (cf 42).toInt := e231
        have e232 : (cf218 43).toInt = (cf 43).toInt := e232
        have e233 : (cf218 44).toInt = (cf 44).toInt := e233
        have e234 : (cf218 45).toInt = (cf 45).toInt := e234
        have e235 : (cf218 54).toInt = (cf 54).toInt := e235
        have e236 : (cf218 55).toInt = (cf 55).toInt := e236
        have e237 : (cf218 58).toInt = (cf 58).toInt := e237
        have e238 : (cf218 59).toInt = (cf 59).toInt := e238
        have e239 : (cf218 41).toInt = (cf 41).toInt := e239
        have hw : pw D A s.heap H locs [wdP cs h r g tf ta pf na ma wa cf218 ca ef ea xf xa] := hw
        refine lv_aload_n S.x S.b d_Mpg_checkCall_64 rfl (lv_at hl 4 rfl) ?_
        refine px_get S k_Mpg hT hw 0 0 18 (v := .ref (r 18)) rfl rfl rfl (by decide) m10_3 d_Mpg_checkCall_65 ?_
        refine lv_iload_n S.x S.b d_Mpg_checkCall_68 rfl (lv_at hl 5 rfl) ?_
        refine lv_iload_n S.x S.b d_Mpg_checkCall_69 rfl (lv_at hl 2 rfl) ?_
        refine lv_if_lt (tgt := 77) S.x S.b d_Mpg_checkCall_70 (by decide) (fun c240 => ?_) (fun c240 => ?_)
        · have nc240 : v201.toInt < (0 : Int) := (i_lt (x := v201) (y := 0)).mp c240
          refine lv_bipush (v := 100) S.x S.b d_Mpg_checkCall_77 (by decide) ?_
          refine lv_iload S.x S.b d_Mpg_checkCall_79 (lv_at hl 1 rfl) ?_
          refine lv_iadd S.x S.b d_Mpg_checkCall_81 ?_
          refine lv_topi (fun z241 ez241 => ?_)
          have tz241 : z241.toInt = ((100 : Int) + v206.toInt + 2147483648) % 4294967296 - 2147483648 := by rw [ez241]; exact i_add 100 v206
          have lz241 := Int32.le_toInt z241
          have uz241 := Int32.toInt_lt z241
          try replace tz241 : z241.toInt = (100 : Int) + v206.toInt := by omega
          refine px_iast S hT hw 0 14 (n := 2100) (f := (ma 18)) (x := p0) (y := z241) rfl gp_18 (vp_in_iff.mpr (by constructor <;> omega)) d_Mpg_checkCall_82 (w' := wdP cs h r g tf ta pf na (va_up ma 18 (upd (ma 18) p0.toNatClampNeg z241)) wa cf218 ca ef ea xf xa) (ps' := [wdP cs h r g tf ta pf na (va_up ma 18 (upd (ma 18) p0.toNatClampNeg z241)) wa cf218 ca ef ea xf xa]) sp_18 rfl (fun H locs hw => ?_)
          obtain ⟨ma242, hu_ma242⟩ : ∃ y : Nat → Nat → Int32, y = va_up ma 18 (upd (ma 18) p0.toNatClampNeg z241) := ⟨_, rfl⟩
          have hw : pw D A s.heap _ _ [wdP cs h r g tf ta pf na ma242 wa cf218 ca ef ea xf xa] := (by rw [hu_ma242]; exact hw)
          have hf1_ma242 : FrC p0.toInt (p0.toInt + 1) ma ma242 := (by rw [hu_ma242]; exact FrC.w FrC.rf (by first | with_reducible rfl | with_reducible assumption | omega) (by first | with_reducible rfl | with_reducible assumption | omega) (by first | with_reducible rfl | with_reducible assumption | omega))
          have han : Ann na ma0 ma242 := (by rw [hu_ma242]; exact Ann.w18 han (by first | with_reducible rfl | with_reducible assumption | omega))
          have hfc := hfc.tr hf1_ma242 (by first | with_reducible rfl | with_reducible assumption | omega) (by first | with_reducible rfl | with_reducible assumption | omega)
          have hv_18_p0 : ma242 18 p0.toNatClampNeg = z241 := (by rw [hu_ma242, va_up_s, pk_us])
          have hnhv_18_p0 : (ma242 18 p0.toNatClampNeg).toInt = z241.toInt := (by rw [hv_18_p0])
          have hcd1 : v206.toInt < 0 → cod v206.toInt v201.toInt = v201.toInt := fun h => cod_own h; have hcd2 : 0 ≤ v206.toInt → cod v206.toInt v201.toInt = 100 + v206.toInt := fun h => cod_fun h
          refine lv_iconst (v := 0) S.x S.b d_Mpg_checkCall_83 (by decide) ?_
          refine lv_istore (lv' := [(6, .int 0), (5, .int 0), (4, .int v206), (3, .int v201), (2, .int z199), (0, .ref h), (1, .int p0)]) S.x S.b d_Mpg_checkCall_84 hl (by decide) rfl (fun ls hl => ?_)
          refine lv_aload_n S.x S.b d_Mpg_checkCall_86 rfl (lv_at hl 5 rfl) ?_
          refine px_get S k_Mpg hT hw 0 0 17 (v := .ref (r 17)) rfl rfl rfl (by decide) m10_1 d_Mpg_checkCall_87 ?_
          refine lv_iload_n S.x S.b d_Mpg_checkCall_90 rfl (lv_at hl 6 rfl) ?_
          refine px_iald S hT hw 0 13 (n := 2100) (f := (na 17)) rfl gp_17 (x := p0) (vp_in_iff.mpr (by first | exact oz_a7e05de1cd hrg.2.2 hrg.2.1 g1 g2 | (constructor <;> omega))) d_Mpg_checkCall_91 ?_
          refine lv_topi (fun z243 ez243 => ?_)
          have lz243 := Int32.le_toInt z243
          have uz243 := Int32.toInt_lt z243
          have hrr := EcV.k3 hec_p0 (by first | with_reducible rfl | with_reducible assumption | omega) ez243
          refine lv_istore (lv' := [(7, .int z243), (6, .int 0), (5, .int 0), (4, .int v206), (3, .int v201), (2, .int z199), (0, .ref h), (1, .int p0)]) S.x S.b d_Mpg_checkCall_92 hl (by decide) rfl (fun ls hl => ?_)
          exact J94 ((hi - (p0.toInt + 1)).toNat + 1) ma242 cf218 (p0.toInt + 1) z199 v201 v206 (0 : Int32) (0 : Int32) z243 _ _ ls (show KpE cf cf218 from hke) (show WrV cf218 (tf 6).toInt from hwr) (show (cf218 33).toInt = (cf 33).toInt from by first | exact e224 | omega) (show (cf218 38).toInt = (cf 38).toInt from by first | exact e225 | omega) (show (cf218 48).toInt = (cf 48).toInt from by first | exact e226 | omega) (show (cf218 46).toInt = (cf 46).toInt from by first | exact e227 | omega) (show (cf218 47).toInt = (cf 47).toInt from by first | exact e228 | omega) (show (cf218 57).toInt = (cf 57).toInt from by first | exact e229 | omega) (show Ann na ma0 ma242 from han) (show FrC lo hi ma ma242 from hfc) (show -1 ≤ v201.toInt from by first | exact e202 | omega) (show v201.toInt ≤ 9 from by first | exact e203 | omega) (show -1 ≤ v206.toInt from by first | exact e207 | omega) (show v206.toInt < nf from by first | exact oz_3b93307734 g7 e208 | omega) (show 0 ≤ (0 : Int) from by first | decide | omega) (show (0 : Int) ≤ 1 from by first | decide | omega) (show (0 : Int) = 1 → (0 ≤ v201.toInt ∧ v206.toInt = -1) ∨ (v201.toInt < 0 ∧ 0 ≤ v206.toInt) from by first | with_reducible rfl | with_reducible assumption | omega) (show (0 : Int) = 0 → 1 ≤ (cf218 30).toInt from by first | with_reducible rfl | with_reducible assumption | omega) (show 0 ≤ (0 : Int) from by first | decide | omega) (show (0 : Int) + p0.toInt + 1 ≤ (p0.toInt + 1) from by first | exact oz_5323360a91 | omega) (show 0 ≤ z199.toInt from by first | exact rz199.1 | omega) (show z199.toInt < (tf 6).toInt from by first | exact oz_7fe81129bf rz199.2 | omega) (show p0.toInt + 1 ≤ (p0.toInt + 1) from by first | exact oz_a1bc7e1f12 | omega) (show (p0.toInt + 1) ≤ hi from by first | exact oz_8cd8185cc8 hrg.2.1 | omega) (show RcR ta (tf 6).toInt na ma0 d (p0.toInt + 1) hi z243 from hrr) (show KbI ma242 p0 (0 : Int) (cod v206.toInt v201.toInt) from (fun h => by first | with_reducible rfl | with_reducible assumption | omega)) (show ZTa cf218 (Gk ta ca na ma0 ns ys nf) na ma242 (p0.toInt + 1) (p0.toInt + 1) (cod v206.toInt v201.toInt) (na 17 p0.toNatClampNeg) z243 (0 : Int) from (fun _ => by rw [← ez243]; exact tya_0)) (show hi - (p0.toInt + 1) < ((((hi - (p0.toInt + 1)).toNat + 1 : Nat) : Int) : Int) from by first | exact oz_natlt | omega) hw (lv_sub hl [6, 7, 5, 4, 3, 2, 1, 0] rfl)
        · have nc240 : ¬ v201.toInt < (0 : Int) := mt (i_lt (x := v201) (y := 0)).mpr c240
          refine lv_iload_n S.x S.b d_Mpg_checkCall_73 rfl (lv_at hl 2 rfl) ?_
          refine lv_goto (tgt := 82) S.x S.b d_Mpg_checkCall_74 (by decide) ?_
          refine px_iast S hT hw 0 14 (n := 2100) (f := (ma 18)) (x := p0) (y := v201) rfl gp_18 (vp_in_iff.mpr (by constructor <;> omega)) d_Mpg_checkCall_82 (w' := wdP cs h r g tf ta pf na (va_up ma 18 (upd (ma 18) p0.toNatClampNeg v201)) wa cf218 ca ef ea xf xa) (ps' := [wdP cs h r g tf ta pf na (va_up ma 18 (upd (ma 18) p0.toNatClampNeg v201)) wa cf218 ca ef ea xf xa]) sp_18 rfl (fun H locs hw => ?_)
          obtain ⟨ma244, hu_ma244⟩ : ∃ y : Nat → Nat → Int32, y = va_up ma 18 (upd (ma 18) p0.toNatClampNeg v201) := ⟨_, rfl⟩
          have hw : pw D A s.heap _ _ [wdP cs h r g tf ta pf na ma244 wa cf218 ca ef ea xf xa] := (by rw [hu_ma244]; exact hw)
          have hf1_ma244 : FrC p0.toInt (p0.toInt + 1) ma ma244 := (by rw [hu_ma244]; exact FrC.w FrC.rf (by first | with_reducible rfl | with_reducible assumption | omega) (by first | with_reducible rfl | with_reducible assumption | omega) (by first | with_reducible rfl | with_reducible assumption | omega))
          have han : Ann na ma0 ma244 := (by rw [hu_ma244]; exact Ann.w18 han (by first | with_reducible rfl | with_reducible assumption | omega))
          have hfc := hfc.tr hf1_ma244 (by first | with_reducible rfl | with_reducible assumption | omega) (by first | with_reducible rfl | with_reducible assumption | omega)
          have hv_18_p0 : ma244 18 p0.toNatClampNeg = v201 := (by rw [hu_ma244, va_up_s, pk_us])
          have hnhv_18_p0 : (ma244 18 p0.toNatClampNeg).toInt = v201.toInt := (by rw [hv_18_p0])
          have hcd1 : v206.toInt < 0 → cod v206.toInt v201.toInt = v201.toInt := fun h => cod_own h; have hcd2 : 0 ≤ v206.toInt → cod v206.toInt v201.toInt = 100 + v206.toInt := fun h => cod_fun h
          refine lv_iconst (v := 0) S.x S.b d_Mpg_checkCall_83 (by decide) ?_
          refine lv_istore (lv' := [(6, .int 0), (5, .int 0), (4, .int v206), (3, .int v201), (2, .int z199), (0, .ref h), (1, .int p0)]) S.x S.b d_Mpg_checkCall_84 hl (by decide) rfl (fun ls hl => ?_)
          refine lv_aload_n S.x S.b d_Mpg_checkCall_86 rfl (lv_at hl 5 rfl) ?_
          refine px_get S k_Mpg hT hw 0 0 17 (v := .ref (r 17)) rfl rfl rfl (by decide) m10_1 d_Mpg_checkCall_87 ?_
          refine lv_iload_n S.x S.b d_Mpg_checkCall_90 rfl (lv_at hl 6 rfl) ?_
          refine px_iald S hT hw 0 13 (n := 2100) (f := (na 17)) rfl gp_17 (x := p0) (vp_in_iff.mpr (by first | exact oz_a7e05de1cd hrg.2.2 hrg.2.1 g1 g2 | (constructor <;> omega))) d_Mpg_checkCall_91 ?_
          refine lv_topi (fun z245 ez245 => ?_)
          have lz245 := Int32.le_toInt z245
          have uz245 := Int32.toInt_lt z245
          have hrr := EcV.k3 hec_p0 (by first | with_reducible rfl | with_reducible assumption | omega) ez245
          refine lv_istore (lv' := [(7, .int z245), (6, .int 0), (5, .int 0), (4, .int v206), (3, .int v201), (2, .int z199), (0, .ref h), (1, .int p0)]) S.x S.b d_Mpg_checkCall_92 hl (by decide) rfl (fun ls hl => ?_)
          exact J94 ((hi - (p0.toInt + 1)).toNat + 1) ma244 cf218 (p0.toInt + 1) z199 v201 v206 (0 : Int32) (0 : Int32) z245 _ _ ls (show KpE cf cf218 from hke) (show WrV cf218 (tf 6).toInt from hwr) (show (cf218 33).toInt = (cf 33).toInt from by first | exact e224 | omega) (show (cf218 38).toInt = (cf 38).toInt from by first | exact e225 | omega) (show (cf218 48).toInt = (cf 48).toInt from by first | exact e226 | omega) (show (cf218 46).toInt = (cf 46).toInt from by first | exact e227 | omega) (show (cf218 47).toInt = (cf 47).toInt from by first | exact e228 | omega) (show (cf218 57).toInt = (cf 57).toInt from by first | exact e229 | omega) (show Ann na ma0 ma244 from han) (show FrC lo hi ma ma244 from hfc) (show -1 ≤ v201.toInt from by first | exact e202 | omega) (show v201.toInt ≤ 9 from by first | exact e203 | omega) (show -1 ≤ v206.toInt from by first | exact e207 | omega) (show v206.toInt < nf from by first | exact oz_3b93307734 g7 e208 | omega) (show 0 ≤ (0 : Int) from by first | decide | omega) (show (0 : Int) ≤ 1 from by first | decide | omega) (show (0 : Int) = 1 → (0 ≤ v201.toInt ∧ v206.toInt = -1) ∨ (v201.toInt < 0 ∧ 0 ≤ v206.toInt) from by first | with_reducible rfl | with_reducible assumption | omega) (show (0 : Int) = 0 → 1 ≤ (cf218 30).toInt from by first | with_reducible rfl | with_reducible assumption | omega) (show 0 ≤ (0 : Int) from by first | decide | omega) (show (0 : Int) + p0.toInt + 1 ≤ (p0.toInt + 1) from by first | exact oz_5323360a91 | omega) (show 0 ≤ z199.toInt from by first | exact rz199.1 | omega) (show z199.toInt < (tf 6).toInt from by first | exact oz_7fe81129bf rz199.2 | omega) (show p0.toInt + 1 ≤ (p0.toInt + 1) from by first | exact oz_a1bc7e1f12 | omega) (show (p0.toInt + 1) ≤ hi from by first | exact oz_8cd8185cc8 hrg.2.1 | omega) (show RcR ta (tf 6).toInt na ma0 d (p0.toInt + 1) hi z245 from hrr) (show KbI ma244 p0 (0 : Int) (cod v206.toInt v201.toInt) from (fun h => by first | with_reducible rfl | with_reducible assumption | omega)) (show ZTa cf218 (Gk ta ca na ma0 ns ys nf) na ma244 (p0.toInt + 1) (p0.toInt + 1) (cod v206.toInt v201.toInt) (na 17 p0.toNatClampNeg) z245 (0 : Int) from (fun _ => by rw [← ez245]; exact tya_0)) (show hi - (p0.toInt + 1) < ((((hi - (p0.toInt + 1)).toNat + 1 : Nat) : Int) : Int) from by first | exact oz_natlt | omega) hw (lv_sub hl [6, 7, 5, 4, 3, 2, 1, 0] rfl)
    · have nc215 : ¬ (0 : Int) ≤ v210.toInt := mt (i_le (x := 0) (y := v210)).mpr c215
      refine lv_iload_n S.x S.b d_Mpg_checkCall_37 rfl (lv_at hl 1 rfl) ?_
      refine lv_if_ge (tgt := 46) S.x S.b d_Mpg_checkCall_38 (by decide) (fun c246 => ?_) (fun c246 => ?_)
      · have nc246 : (0 : Int) ≤ v201.toInt := (i_le (x := 0) (y := v201)).mp c246
        refine lv_iconst (v := 1) S.x S.b d_Mpg_checkCall_46 (by decide) ?_
        refine lv_goto (tgt := 51) S.x S.b d_Mpg_checkCall_47 (by decide) ?_
        refine lv_istore (lv' := [(5, .int 1), (4, .int v206), (3, .int v201), (2, .int z199), (0, .ref h), (1, .int p0)]) S.x S.b d_Mpg_checkCall_51 hl (by decide) rfl (fun ls hl => ?_)
        refine lv_iload S.x S.b d_Mpg_checkCall_53 (lv_at hl 0 rfl) ?_
        refine lv_if_ne (tgt := 64) S.x S.b d_Mpg_checkCall_55 (by decide) (fun c247 => ?_) (fun c247 => ?_)
        ·
          refine lv_aload_n S.x S.b d_Mpg_checkCall_64 rfl (lv_at hl 4 rfl) ?_
          refine px_get S k_Mpg hT hw 0 0 18 (v := .ref (r 18)) rfl rfl rfl (by decide) m10_3 d_Mpg_checkCall_65 ?_
          refine lv_iload_n S.x S.b d_Mpg_checkCall_68 rfl (lv_at hl 5 rfl) ?_
          refine lv_iload_n S.x S.b d_Mpg_checkCall_69 rfl (lv_at hl 2 rfl) ?_
          refine lv_if_lt (tgt := 77) S.x S.b d_Mpg_checkCall_70 (by decide) (fun c248 => ?_) (fun c248 => ?_)
          · have nc248 : v201.toInt < (0 : Int) := (i_lt (x := v201) (y := 0)).mp c248
            refine lv_bipush (v := 100) S.x S.b d_Mpg_checkCall_77 (by decide) ?_
            refine lv_iload S.x S.b d_Mpg_checkCall_79 (lv_at hl 1 rfl) ?_
            refine lv_iadd S.x S.b d_Mpg_checkCall_81 ?_
            refine lv_topi (fun z249 ez249 => ?_)
            have tz249 : z249.toInt = ((100 : Int) + v206.toInt + 2147483648) % 4294967296 - 2147483648 := by rw [ez249]; exact i_add 100 v206
            have lz249 := Int32.le_toInt z249
            have uz249 := Int32.toInt_lt z249
            try replace tz249 : z249.toInt = (100 : Int) + v206.toInt := by omega
            refine px_iast S hT hw 0 14 (n := 2100) (f := (ma 18)) (x := p0) (y := z249) rfl gp_18 (vp_in_iff.mpr (by constructor <;> omega)) d_Mpg_checkCall_82 (w' := wdP cs h r g tf ta pf na (va_up ma 18 (upd (ma 18) p0.toNatClampNeg z249)) wa cf ca ef ea xf xa) (ps' := [wdP cs h r g tf ta pf na (va_up ma 18 (upd (ma 18) p0.toNatClampNeg z249)) wa cf ca ef ea xf xa]) sp_18 rfl (fun H locs hw => ?_)
            obtain ⟨ma250, hu_ma250⟩ : ∃ y : Nat → Nat → Int32, y = va_up ma 18 (upd (ma 18) p0.toNatClampNeg z249) := ⟨_, rfl⟩
            have hw : pw D A s.heap _ _ [wdP cs h r g tf ta pf na ma250 wa cf ca ef ea xf xa] := (by rw [hu_ma250]; exact hw)
            have hf1_ma250 : FrC p0.toInt (p0.toInt + 1) ma ma250 := (by rw [hu_ma250]; exact FrC.w FrC.rf (by first | with_reducible rfl | with_reducible assumption | omega) (by first | with_reducible rfl | with_reducible assumption | omega) (by first | with_reducible rfl | with_reducible assumption | omega))
            have han : Ann na ma0 ma250 := (by rw [hu_ma250]; exact Ann.w18 han (by first | with_reducible rfl | with_reducible assumption | omega))
            have hfc := hfc.tr hf1_ma250 (by first | with_reducible rfl | with_reducible assumption | omega) (by first | with_reducible rfl | with_reducible assumption | omega)
            have hv_18_p0 : ma250 18 p0.toNatClampNeg = z249 := (by rw [hu_ma250, va_up_s, pk_us])
            have hnhv_18_p0 : (ma250 18 p0.toNatClampNeg).toInt = z249.toInt := (by rw [hv_18_p0])
            have hcd1 : v206.toInt < 0 → cod v206.toInt v201.toInt = v201.toInt := fun h => cod_own h; have hcd2 : 0 ≤ v206.toInt → cod v206.toInt v201.toInt = 100 + v206.toInt := fun h => cod_fun h
            refine lv_iconst (v := 0) S.x S.b d_Mpg_checkCall_83 (by decide) ?_
            refine lv_istore (lv' := [(6, .int 0), (5, .int 1), (4, .int v206), (3, .int v201), (2, .int z199), (0, .ref h), (1, .int p0)]) S.x S.b d_Mpg_checkCall_84 hl (by decide) rfl (fun ls hl => ?_)
            refine lv_aload_n S.x S.b d_Mpg_checkCall_86 rfl (lv_at hl 5 rfl) ?_
            refine px_get S k_Mpg hT hw 0 0 17 (v := .ref (r 17)) rfl rfl rfl (by decide) m10_1 d_Mpg_checkCall_87 ?_
            refine lv_iload_n S.x S.b d_Mpg_checkCall_90 rfl (lv_at hl 6 rfl) ?_
            refine px_iald S hT hw 0 13 (n := 2100) (f := (na 17)) rfl gp_17 (x := p0) (vp_in_iff.mpr (by first | exact oz_a7e05de1cd hrg.2.2 hrg.2.1 g1 g2 | (constructor <;> omega))) d_Mpg_checkCall_91 ?_
            refine lv_topi (fun z251 ez251 => ?_)
            have lz251 := Int32.le_toInt z251
            have uz251 := Int32.toInt_lt z251
            have hrr := EcV.k3 hec_p0 (by first | with_reducible rfl | with_reducible assumption | omega) ez251
            refine lv_istore (lv' := [(7, .int z251), (6, .int 0), (5, .int 1), (4, .int v206), (3, .int v201), (2, .int z199), (0, .ref h), (1, .int p0)]) S.x S.b d_Mpg_checkCall_92 hl (by decide) rfl (fun ls hl => ?_)
            exact J94 ((hi - (p0.toInt + 1)).toNat + 1) ma250 cf (p0.toInt + 1) z199 v201 v206 (1 : Int32) (0 : Int32) z251 _ _ ls (show KpE cf cf from hke) (show WrV cf (tf 6).toInt from hwr) (show (cf 33).toInt = (cf 33).toInt from rfl) (show (cf 38).toInt = (cf 38).toInt from rfl) (show (cf 48).toInt = (cf 48).toInt from rfl) (show (cf 46).toInt = (cf 46).toInt from rfl) (show (cf 47).toInt = (cf 47).toInt from rfl) (show (cf 57).toInt = (cf 57).toInt from rfl) (show Ann na ma0 ma250 from han) (show FrC lo hi ma ma250 from hfc) (show -1 ≤ v201.toInt from by first | exact e202 | omega) (show v201.toInt ≤ 9 from by first | exact e203 | omega) (show -1 ≤ v206.toInt from by first | exact e207 | omega) (show v206.toInt < nf from by first | exact oz_3b93307734 g7 e208 | omega) (show 0 ≤ (1 : Int) from by first | decide | omega) (show (1 : Int) ≤ 1 from by first | decide | omega) (show (1 : Int) = 1 → (0 ≤ v201.toInt ∧ v206.toInt = -1) ∨ (v201.toInt < 0 ∧ 0 ≤ v206.toInt) from by first | with_reducible rfl | with_reducible assumption | omega) (show (1 : Int) = 0 → 1 ≤ (cf 30).toInt from by first | with_reducible rfl | with_reducible assumption | omega) (show 0 ≤ (0 : Int) from by first | decide | omega) (show (0 : Int) + p0.toInt + 1 ≤ (p0.toInt + 1) from by first | exact oz_5323360a91 | omega) (show 0 ≤ z199.toInt from by first | exact rz199.1 | omega) (show z199.toInt < (tf 6).toInt from by first | exact oz_7fe81129bf rz199.2 | omega) (show p0.toInt + 1 ≤ (p0.toInt + 1) from by first | exact oz_a1bc7e1f12 | omega) (show (p0.toInt + 1) ≤ hi from by first | exact oz_8cd8185cc8 hrg.2.1 | omega) (show RcR ta (tf 6).toInt na ma0 d (p0.toInt + 1) hi z251 from hrr) (show KbI ma250 p0 (1 : Int) (cod v206.toInt v201.toInt) from (fun h => by first | with_reducible rfl | with_reducible assumption | omega)) (show ZTa cf (Gk ta ca na ma0 ns ys nf) na ma250 (p0.toInt + 1) (p0.toInt + 1) (cod v206.toInt v201.toInt) (na 17 p0.toNatClampNeg) z251 (0 : Int) from (fun _ => by rw [← ez251]; exact tya_0)) (show hi - (p0.toInt + 1) < ((((hi - (p0.toInt + 1)).toNat + 1 : Nat) : Int) : Int) from by first | exact oz_natlt | omega) hw (lv_sub hl [6, 7, 5, 4, 3, 2, 1, 0] rfl)
          · have nc248 : ¬ v201.toInt < (0 : Int) := mt (i_lt (x := v201) (y := 0)).mpr c248
            refine lv_iload_n S.x S.b d_Mpg_checkCall_73 rfl (lv_at hl 2 rfl) ?_
            refine lv_goto (tgt := 82) S.x S.b d_Mpg_checkCall_74 (by decide) ?_
            refine px_iast S hT hw 0 14 (n := 2100) (f := (ma 18)) (x := p0) (y := v201) rfl gp_18 (vp_in_iff.mpr (by constructor <;> omega)) d_Mpg_checkCall_82 (w' := wdP cs h r g tf ta pf na (va_up ma 18 (upd (ma 18) p0.toNatClampNeg v201)) wa cf ca ef ea xf xa) (ps' := [wdP cs h r g tf ta pf na (va_up ma 18 (upd (ma 18) p0.toNatClampNeg v201)) wa cf ca ef ea xf xa]) sp_18 rfl (fun H locs hw => ?_)
            obtain ⟨ma252, hu_ma252⟩ : ∃ y : Nat → Nat → Int32, y = va_up ma 18 (upd (ma 18) p0.toNatClampNeg v201) := ⟨_, rfl⟩
            have hw : pw D A s.heap _ _ [wdP cs h r g tf ta pf na ma252 wa cf ca ef ea xf xa] := (by rw [hu_ma252]; exact hw)
            have hf1_ma252 : FrC p0.toInt (p0.toInt + 1) ma ma252 := (by rw [hu_ma252]; exact FrC.w FrC.rf (by first | with_reducible rfl | with_reducible assumption | omega) (by first | with_reducible rfl | with_reducible assumption | omega) (by first | with_reducible rfl | with_reducible assumption | omega))
            have han : Ann na ma0 ma252 := (by rw [hu_ma252]; exact Ann.w18 han (by first | with_reducible rfl | with_reducible assumption | omega))
            have hfc := hfc.tr hf1_ma252 (by first | with_reducible rfl | with_reducible assumption | omega) (by first | with_reducible rfl | with_reducible assumption | omega)
            have hv_18_p0 : ma252 18 p0.toNatClampNeg = v201 := (by rw [hu_ma252, va_up_s, pk_us])
            have hnhv_18_p0 : (ma252 18 p0.toNatClampNeg).toInt = v201.toInt := (by rw [hv_18_p0])
            have hcd1 : v206.toInt < 0 → cod v206.toInt v201.toInt = v201.toInt := fun h => cod_own h; have hcd2 : 0 ≤ v206.toInt → cod v206.toInt v201.toInt = 100 + v206.toInt := fun h => cod_fun h
            refine lv_iconst (v := 0) S.x S.b d_Mpg_checkCall_83 (by decide) ?_
            refine lv_istore (lv' := [(6, .int 0), (5, .int 1), (4, .int v206), (3, .int v201), (2, .int z199), (0, .ref h), (1, .int p0)]) S.x S.b d_Mpg_checkCall_84 hl (by decide) rfl (fun ls hl => ?_)
            refine lv_aload_n S.x S.b d_Mpg_checkCall_86 rfl (lv_at hl 5 rfl) ?_
            refine px_get S k_Mpg hT hw 0 0 17 (v := .ref (r 17)) rfl rfl rfl (by decide) m10_1 d_Mpg_checkCall_87 ?_
            refine lv_iload_n S.x S.b d_Mpg_checkCall_90 rfl (lv_at hl 6 rfl) ?_
            refine px_iald S hT hw 0 13 (n := 2100) (f := (na 17)) rfl gp_17 (x := p0) (vp_in_iff.mpr (by first | exact oz_a7e05de1cd hrg.2.2 hrg.2.1 g1 g2 | (constructor <;> omega))) d_Mpg_checkCall_91 ?_
            refine lv_topi (fun z253 ez253 => ?_)
            have lz253 := Int32.le_toInt z253
            have uz253 := Int32.toInt_lt z253
            have hrr := EcV.k3 hec_p0 (by first | with_reducible rfl | with_reducible assumption | omega) ez253
            refine lv_istore (lv' := [(7, .int z253), (6, .int 0), (5, .int 1), (4, .int v206), (3, .int v201), (2, .int z199), (0, .ref h), (1, .int p0)]) S.x S.b d_Mpg_checkCall_92 hl (by decide) rfl (fun ls hl => ?_)
            exact J94 ((hi - (p0.toInt + 1)).toNat + 1) ma252 cf (p0.toInt + 1) z199 v201 v206 (1 : Int32) (0 : Int32) z253 _ _ ls (show KpE cf cf from hke) (show WrV cf (tf 6).toInt from hwr) (show (cf 33).toInt = (cf 33).toInt from rfl) (show (cf 38).toInt = (cf 38).toInt from rfl) (show (cf 48).toInt = (cf 48).toInt from rfl) (show (cf 46).toInt = (cf 46).toInt from rfl) (show (cf 47).toInt = (cf 47).toInt from rfl) (show (cf 57).toInt = (cf 57).toInt from rfl) (show Ann na ma0 ma252 from han) (show FrC lo hi ma ma252 from hfc) (show -1 ≤ v201.toInt from by first | exact e202 | omega) (show v201.toInt ≤ 9 from by first | exact e203 | omega) (show -1 ≤ v206.toInt from by first | exact e207 | omega) (show v206.toInt < nf from by first | exact oz_3b93307734 g7 e208 | omega) (show 0 ≤ (1 : Int) from by first | decide | omega) (show (1 : Int) ≤ 1 from by first | decide | omega) (show (1 : Int) = 1 → (0 ≤ v201.toInt ∧ v206.toInt = -1) ∨ (v201.toInt < 0 ∧ 0 ≤ v206.toInt) from by first | with_reducible rfl | with_reducible assumption | omega) (show (1 : Int) = 0 → 1 ≤ (cf 30).toInt from by first | with_reducible rfl | with_reducible assumption | omega) (show 0 ≤ (0 : Int) from by first | decide | omega) (show (0 : Int) + p0.toInt + 1 ≤ (p0.toInt + 1) from by first | exact oz_5323360a91 | omega) (show 0 ≤ z199.toInt from by first | exact rz199.1 | omega) (show z199.toInt < (tf 6).toInt from by first | exact oz_7fe81129bf rz199.2 | omega) (show p0.toInt + 1 ≤ (p0.toInt + 1) from by first | exact oz_a1bc7e1f12 | omega) (show (p0.toInt + 1) ≤ hi from by first | exact oz_8cd8185cc8 hrg.2.1 | omega) (show RcR ta (tf 6).toInt na ma0 d (p0.toInt + 1) hi z253 from hrr) (show KbI ma252 p0 (1 : Int) (cod v206.toInt v201.toInt) from (fun h => by first | with_reducible rfl | with_reducible assumption | omega)) (show ZTa cf (Gk ta ca na ma0 ns ys nf) na ma252 (p0.toInt + 1) (p0.toInt + 1) (cod v206.toInt v201.toInt) (na 17 p0.toNatClampNeg) z253 (0 : Int) from (fun _ => by rw [← ez253]; exact tya_0)) (show hi - (p0.toInt + 1) < ((((hi - (p0.toInt + 1)).toNat + 1 : Nat) : Int) : Int) from by first | exact oz_natlt | omega) hw (lv_sub hl [6, 7, 5, 4, 3, 2, 1, 0] rfl)
        · exact absurd c247 (by decide)
      · have nc246 : ¬ (0 : Int) ≤ v201.toInt := mt (i_le (x := 0) (y := v201)).mpr c246
        refine lv_iload S.x S.b d_Mpg_checkCall_41 (lv_at hl 0 rfl) ?_
        refine lv_if_lt (tgt := 50) S.x S.b d_Mpg_checkCall_43 (by decide) (fun c254 => ?_) (fun c254 => ?_)
        · have nc254 : v206.toInt < (0 : Int) := (i_lt (x := v206) (y := 0)).mp c254
          refine lv_iconst (v := 0) S.x S.b d_Mpg_checkCall_50 (by decide) ?_
          refine lv_istore (lv' := [(5, .int 0), (4, .int v206), (3, .int v201), (2, .int z199), (0, .ref h), (1, .int p0)]) S.x S.b d_Mpg_checkCall_51 hl (by decide) rfl (fun ls hl => ?_)
          refine lv_iload S.x S.b d_Mpg_checkCall_53 (lv_at hl 0 rfl) ?_
          refine lv_if_ne (tgt := 64) S.x S.b d_Mpg_checkCall_55 (by decide) (fun c255 => ?_) (fun c255 => ?_)
          · exact absurd c255 (by decide)
          ·
            refine lv_aload_n S.x S.b d_Mpg_checkCall_58 rfl (lv_at hl 4 rfl) ?_
            refine lv_iconst (v := 2) S.x S.b d_Mpg_checkCall_59 (by decide) ?_
            refine lv_iload_n S.x S.b d_Mpg_checkCall_60 rfl (lv_at hl 3 rfl) ?_
            refine px_callv (pr := []) (px_runV (As := [.int 2, .int z199]) (rest := []) S (c_mp_bad l D cs h r g tf ta pf na ma wa ca ef ea xf xa cf 2 z199  (show 1 ≤ (2 : Int) from by first | decide | omega) (show 0 ≤ z199.toInt from by first | exact rz199.1 | omega) (show z199.toInt < (tf 6).toInt from by first | exact oz_7fe81129bf rz199.2 | omega) htk hwr _) hT (pr := []) (pcs := [wdP cs h r g tf ta pf na ma wa cf ca ef ea xf xa]) hw px_X.tt (px_recv hT hw 0 0 rfl rfl rfl) m12_173 m12_170 m12_172 ms_11_12 m1_21 q_Mpg_bad ⟨show 0 + 1 ≤ (4 * d + 14) from by first | with_reducible rfl | with_reducible assumption | omega, show 8 + (3 + 11) + 0 ≤ (200 * d + 540) from by first | with_reducible rfl | with_reducible assumption | omega⟩ hl.1 rfl (Nat.le_of_ble_eq_true rfl) d_Mpg_checkCall_61 ⟨Nat.le_of_ble_eq_true rfl, Nat.le_of_ble_eq_true rfl⟩) hw hA (fun p258 H locs hp258 hw => ?_)
            obtain ⟨cf257, rfl, e260, e261, e262, e263, e264, e265, e266, e267, e268, e269, e270, e271, e272, e273, e274, e275, e276, e277, e278⟩ := hp258
            have e260 : KpE cf cf257 := e260
            have hke := (hke).tr e260
            have hkz_e260 := e260.2
            have e261 : WrV cf257 (tf 6).toInt := e261
            have hwr := e261
            have hw0_e261 := hwr.1
            have e262 : 1 ≤ (cf257 30).toInt := e262
            have e263 : (cf257 33).toInt = (cf 33).toInt := e263
            have e264 : (cf257 38).toInt = (cf 38).toInt := e264
            have e265 : (cf257 48).toInt = (cf 48).toInt := e265
            have e266 : (cf257 46).toInt = (cf 46).toInt := e266
            have e267 : (cf257 47).toInt = (cf 47).toInt := e267
            have e268 : (cf257 57).toInt = (cf 57).toInt := e268
            have e269 : (cf257 37).toInt = (cf 37).toInt := e269
            have e270 : (cf257 42).toInt = (cf 42).toInt := e270
            have e271 : (cf257 43).toInt = (cf 43).toInt := e271
            have e272 : (cf257 44).toInt = (cf 44).toInt := e272
            have e273 : (cf257 45).toInt = (cf 45).toInt := e273
            have e274 : (cf257 54).toInt = (cf 54).toInt := e274
            have e275 : (cf257 55).toInt = (cf 55).toInt := e275
            have e276 : (cf257 58).toInt = (cf 58).toInt := e276
            have e277 : (cf257 59).toInt = (cf 59).toInt := e277
            have e278 : (cf257 41).toInt = (cf 41).toInt := e278
            have hw : pw D A s.heap H locs [wdP cs h r g tf ta pf na ma wa cf257 ca ef ea xf xa] := hw
            refine lv_aload_n S.x S.b d_Mpg_checkCall_64 rfl (lv_at hl 4 rfl) ?_
            refine px_get S k_Mpg hT hw 0 0 18 (v := .ref (r 18)) rfl rfl rfl (by decide) m10_3 d_Mpg_checkCall_65 ?_
            refine lv_iload_n S.x S.b d_Mpg_checkCall_68 rfl (lv_at hl 5 rfl) ?_
            refine lv_iload_n S.x S.b d_Mpg_checkCall_69 rfl (lv_at hl 2 rfl) ?_
            refine lv_if_lt (tgt := 77) S.x S.b d_Mpg_checkCall_70 (by decide) (fun c279 => ?_) (fun c279 => ?_)
            · have nc279 : v201.toInt < (0 : Int) := (i_lt (x := v201) (y := 0)).mp c279
              refine lv_bipush (v := 100) S.x S.b d_Mpg_checkCall_77 (by decide) ?_
              refine lv_iload S.x S.b d_Mpg_checkCall_79 (lv_at hl 1 rfl) ?_
              refine lv_iadd S.x S.b d_Mpg_checkCall_81 ?_
              refine lv_topi (fun z280 ez280 => ?_)
              have tz280 : z280.toInt = ((100 : Int) + v206.toInt + 2147483648) % 4294967296 - 2147483648 := by rw [ez280]; exact i_add 100 v206
              have lz280 := Int32.le_toInt z280
              have uz280 := Int32.toInt_lt z280
              try replace tz280 : z280.toInt = (100 : Int) + v206.toInt := by omega
              refine px_iast S hT hw 0 14 (n := 2100) (f := (ma 18)) (x := p0) (y := z280) rfl gp_18 (vp_in_iff.mpr (by constructor <;> omega)) d_Mpg_checkCall_82 (w' := wdP cs h r g tf ta pf na (va_up ma 18 (upd (ma 18) p0.toNatClampNeg z280)) wa cf257 ca ef ea xf xa) (ps' := [wdP cs h r g tf ta pf na (va_up ma 18 (upd (ma 18) p0.toNatClampNeg z280)) wa cf257 ca ef ea xf xa]) sp_18 rfl (fun H locs hw => ?_)
              obtain ⟨ma281, hu_ma281⟩ : ∃ y : Nat → Nat → Int32, y = va_up ma 18 (upd (ma 18) p0.toNatClampNeg z280) := ⟨_, rfl⟩
              have hw : pw D A s.heap _ _ [wdP cs h r g tf ta pf na ma281 wa cf257 ca ef ea xf xa] := (by rw [hu_ma281]; exact hw)
              have hf1_ma281 : FrC p0.toInt (p0.toInt + 1) ma ma281 := (by rw [hu_ma281]; exact FrC.w FrC.rf (by first | with_reducible rfl | with_reducible assumption | omega) (by first | with_reducible rfl | with_reducible assumption | omega) (by first | with_reducible rfl | with_reducible assumption | omega))
              have han : Ann na ma0 ma281 := (by rw [hu_ma281]; exact Ann.w18 han (by first | with_reducible rfl | with_reducible assumption | omega))
              have hfc := hfc.tr hf1_ma281 (by first | with_reducible rfl | with_reducible assumption | omega) (by first | with_reducible rfl | with_reducible assumption | omega)
              have hv_18_p0 : ma281 18 p0.toNatClampNeg = z280 := (by rw [hu_ma281, va_up_s, pk_us])
              have hnhv_18_p0 : (ma281 18 p0.toNatClampNeg).toInt = z280.toInt := (by rw [hv_18_p0])
              have hcd1 : v206.toInt < 0 → cod v206.toInt v201.toInt = v201.toInt := fun h => cod_own h; have hcd2 : 0 ≤ v206.toInt → cod v206.toInt v201.toInt = 100 + v206.toInt := fun h => cod_fun h
              refine lv_iconst (v := 0) S.x S.b d_Mpg_checkCall_83 (by decide) ?_
              refine lv_istore (lv' := [(6, .int 0), (5, .int 0), (4, .int v206), (3, .int v201), (2, .int z199), (0, .ref h), (1, .int p0)]) S.x S.b d_Mpg_checkCall_84 hl (by decide) rfl (fun ls hl => ?_)
              refine lv_aload_n S.x S.b d_Mpg_checkCall_86 rfl (lv_at hl 5 rfl) ?_
              refine px_get S k_Mpg hT hw 0 0 17 (v := .ref (r 17)) rfl rfl rfl (by decide) m10_1 d_Mpg_checkCall_87 ?_
              refine lv_iload_n S.x S.b d_Mpg_checkCall_90 rfl (lv_at hl 6 rfl) ?_
              refine px_iald S hT hw 0 13 (n := 2100) (f := (na 17)) rfl gp_17 (x := p0) (vp_in_iff.mpr (by first | exact oz_a7e05de1cd hrg.2.2 hrg.2.1 g1 g2 | (constructor <;> omega))) d_Mpg_checkCall_91 ?_
              refine lv_topi (fun z282 ez282 => ?_)
              have lz282 := Int32.le_toInt z282
              have uz282 := Int32.toInt_lt z282
              have hrr := EcV.k3 hec_p0 (by first | with_reducible rfl | with_reducible assumption | omega) ez282
              refine lv_istore (lv' := [(7, .int z282), (6, .int 0), (5, .int 0), (4, .int v206), (3, .int v201), (2, .int z199), (0, .ref h), (1, .int p0)]) S.x S.b d_Mpg_checkCall_92 hl (by decide) rfl (fun ls hl => ?_)
              exact J94 ((hi - (p0.toInt + 1)).toNat + 1) ma281 cf257 (p0.toInt + 1) z199 v201 v206 (0 : Int32) (0 : Int32) z282 _ _ ls (show KpE cf cf257 from hke) (show WrV cf257 (tf 6).toInt from hwr) (show (cf257 33).toInt = (cf 33).toInt from by first | exact e263 | omega) (show (cf257 38).toInt = (cf 38).toInt from by first | exact e264 | omega) (show (cf257 48).toInt = (cf 48).toInt from by first | exact e265 | omega) (show (cf257 46).toInt = (cf 46).toInt from by first | exact e266 | omega) (show (cf257 47).toInt = (cf 47).toInt from by first | exact e267 | omega) (show (cf257 57).toInt = (cf 57).toInt from by first | exact e268 | omega) (show Ann na ma0 ma281 from han) (show FrC lo hi ma ma281 from hfc) (show -1 ≤ v201.toInt from by first | exact e202 | omega) (show v201.toInt ≤ 9 from by first | exact e203 | omega) (show -1 ≤ v206.toInt from by first | exact e207 | omega) (show v206.toInt < nf from by first | exact oz_f437a3dc8c g8 nc254 | omega) (show 0 ≤ (0 : Int) from by first | decide | omega) (show (0 : Int) ≤ 1 from by first | decide | omega) (show (0 : Int) = 1 → (0 ≤ v201.toInt ∧ v206.toInt = -1) ∨ (v201.toInt < 0 ∧ 0 ≤ v206.toInt) from by first | with_reducible rfl | with_reducible assumption | omega) (show (0 : Int) = 0 → 1 ≤ (cf257 30).toInt from by first | with_reducible rfl | with_reducible assumption | omega) (show 0 ≤ (0 : Int) from by first | decide | omega) (show (0 : Int) + p0.toInt + 1 ≤ (p0.toInt + 1) from by first | exact oz_5323360a91 | omega) (show 0 ≤ z199.toInt from by first | exact rz199.1 | omega) (show z199.toInt < (tf 6).toInt from by first | exact oz_7fe81129bf rz199.2 | omega) (show p0.toInt + 1 ≤ (p0.toInt + 1) from by first | exact oz_a1bc7e1f12 | omega) (show (p0.toInt + 1) ≤ hi from by first | exact oz_8cd8185cc8 hrg.2.1 | omega) (show RcR ta (tf 6).toInt na ma0 d (p0.toInt + 1) hi z282 from hrr) (show KbI ma281 p0 (0 : Int) (cod v206.toInt v201.toInt) from (fun h => by first | with_reducible rfl | with_reducible assumption | omega)) (show ZTa cf257 (Gk ta ca na ma0 ns ys nf) na ma281 (p0.toInt + 1) (p0.toInt + 1) (cod v206.toInt v201.toInt) (na 17 p0.toNatClampNeg) z282 (0 : Int) from (fun _ => by rw [← ez282]; exact tya_0)) (show hi - (p0.toInt + 1) < ((((hi - (p0.toInt + 1)).toNat + 1 : Nat) : Int) : Int) from by first | exact oz_natlt | omega) hw (lv_sub hl [6, 7, 5, 4, 3, 2, 1, 0] rfl)
            · have nc279 : ¬ v201.toInt < (0 : Int) := mt (i_lt (x := v201) (y := 0)).mpr c279
              refine lv_iload_n S.x S.b d_Mpg_checkCall_73 rfl (lv_at hl 2 rfl) ?_
              refine lv_goto (tgt := 82) S.x S.b d_Mpg_checkCall_74 (by decide) ?_
              refine px_iast S hT hw 0 14 (n := 2100) (f := (ma 18)) (x := p0) (y := v201) rfl gp_18 (vp_in_iff.mpr (by constructor <;> omega)) d_Mpg_checkCall_82 (w' := wdP cs h r g tf ta pf na (va_up ma 18 (upd (ma 18) p0.toNatClampNeg v201)) wa cf257 ca ef ea xf xa) (ps' := [wdP cs h r g tf ta pf na (va_up ma 18 (upd (ma 18) p0.toNatClampNeg v201)) wa cf257 ca ef ea xf xa]) sp_18 rfl (fun H locs hw => ?_)
              obtain ⟨ma283, hu_ma283⟩ : ∃ y : Nat → Nat → Int32, y = va_up ma 18 (upd (ma 18) p0.toNatClampNeg v201) := ⟨_, rfl⟩
              have hw : pw D A s.heap _ _ [wdP cs h r g tf ta pf na ma283 wa cf257 ca ef ea xf xa] := (by rw [hu_ma283]; exact hw)
              have hf1_ma283 : FrC p0.toInt (p0.toInt + 1) ma ma283 := (by rw [hu_ma283]; exact FrC.w FrC.rf (by first | with_reducible rfl | with_reducible assumption | omega) (by first | with_reducible rfl | with_reducible assumption | omega) (by first | with_reducible rfl | with_reducible assumption | omega))
              have han : Ann na ma0 ma283 := (by rw [hu_ma283]; exact Ann.w18 han (by first | with_reducible rfl | with_reducible assumption | omega))
              have hfc := hfc.tr hf1_ma283 (by first | with_reducible rfl | with_reducible assumption | omega) (by first | with_reducible rfl | with_reducible assumption | omega)
              have hv_18_p0 : ma283 18 p0.toNatClampNeg = v201 := (by rw [hu_ma283, va_up_s, pk_us])
              have hnhv_18_p0 : (ma283 18 p0.toNatClampNeg).toInt = v201.toInt := (by rw [hv_18_p0])
              have hcd1 : v206.toInt < 0 → cod v206.toInt v201.toInt = v201.toInt := fun h => cod_own h; have hcd2 : 0 ≤ v206.toInt → cod v206.toInt v201.toInt = 100 + v206.toInt := fun h => cod_fun h
              refine lv_iconst (v := 0) S.x S.b d_Mpg_checkCall_83 (by decide) ?_
              refine lv_istore (lv' := [(6, .int 0), (5, .int 0), (4, .int v206), (3, .int v201), (2, .int z199), (0, .ref h), (1, .int p0)]) S.x S.b d_Mpg_checkCall_84 hl (by decide) rfl (fun ls hl => ?_)
              refine lv_aload_n S.x S.b d_Mpg_checkCall_86 rfl (lv_at hl 5 rfl) ?_
              refine px_get S k_Mpg hT hw 0 0 17 (v := .ref (r 17)) rfl rfl rfl (by decide) m10_1 d_Mpg_checkCall_87 ?_
              refine lv_iload_n S.x S.b d_Mpg_checkCall_90 rfl (lv_at hl 6 rfl) ?_
              refine px_iald S hT hw 0 13 (n := 2100) (f := (na 17)) rfl gp_17 (x := p0) (vp_in_iff.mpr (by first | exact oz_a7e05de1cd hrg.2.2 hrg.2.1 g1 g2 | (constructor <;> omega))) d_Mpg_checkCall_91 ?_
              refine lv_topi (fun z284 ez284 => ?_)
              have lz284 := Int32.le_toInt z284
              have uz284 := Int32.toInt_lt z284
              have hrr := EcV.k3 hec_p0 (by first | with_reducible rfl | with_reducible assumption | omega) ez284
              refine lv_istore (lv' := [(7, .int z284), (6, .int 0), (5, .int 0), (4, .int v206), (3, .int v201), (2, .int z199), (0, .ref h), (1, .int p0)]) S.x S.b d_Mpg_checkCall_92 hl (by decide) rfl (fun ls hl => ?_)
              exact J94 ((hi - (p0.toInt + 1)).toNat + 1) ma283 cf257 (p0.toInt + 1) z199 v201 v206 (0 : Int32) (0 : Int32) z284 _ _ ls (show KpE cf cf257 from hke) (show WrV cf257 (tf 6).toInt from hwr) (show (cf257 33).toInt = (cf 33).toInt from by first | exact e263 | omega) (show (cf257 38).toInt = (cf 38).toInt from by first | exact e264 | omega) (show (cf257 48).toInt = (cf 48).toInt from by first | exact e265 | omega) (show (cf257 46).toInt = (cf 46).toInt from by first | exact e266 | omega) (show (cf257 47).toInt = (cf 47).toInt from by first | exact e267 | omega) (show (cf257 57).toInt = (cf 57).toInt from by first | exact e268 | omega) (show Ann na ma0 ma283 from han) (show FrC lo hi ma ma283 from hfc) (show -1 ≤ v201.toInt from by first | exact e202 | omega) (show v201.toInt ≤ 9 from by first | exact e203 | omega) (show -1 ≤ v206.toInt from by first | exact e207 | omega) (show v206.toInt < nf from by first | exact oz_f437a3dc8c g8 nc254 | omega) (show 0 ≤ (0 : Int) from by first | decide | omega) (show (0 : Int) ≤ 1 from by first | decide | omega) (show (0 : Int) = 1 → (0 ≤ v201.toInt ∧ v206.toInt = -1) ∨ (v201.toInt < 0 ∧ 0 ≤ v206.toInt) from by first | with_reducible rfl | with_reducible assumption | omega) (show (0 : Int) = 0 → 1 ≤ (cf257 30).toInt from by first | with_reducible rfl | with_reducible assumption | omega) (show 0 ≤ (0 : Int) from by first | decide | omega) (show (0 : Int) + p0.toInt + 1 ≤ (p0.toInt + 1) from by first | exact oz_5323360a91 | omega) (show 0 ≤ z199.toInt from by first | exact rz199.1 | omega) (show z199.toInt < (tf 6).toInt from by first | exact oz_7fe81129bf rz199.2 | omega) (show p0.toInt + 1 ≤ (p0.toInt + 1) from by first | exact oz_a1bc7e1f12 | omega) (show (p0.toInt + 1) ≤ hi from by first | exact oz_8cd8185cc8 hrg.2.1 | omega) (show RcR ta (tf 6).toInt na ma0 d (p0.toInt + 1) hi z284 from hrr) (show KbI ma283 p0 (0 : Int) (cod v206.toInt v201.toInt) from (fun h => by first | with_reducible rfl | with_reducible assumption | omega)) (show ZTa cf257 (Gk ta ca na ma0 ns ys nf) na ma283 (p0.toInt + 1) (p0.toInt + 1) (cod v206.toInt v201.toInt) (na 17 p0.toNatClampNeg) z284 (0 : Int) from (fun _ => by rw [← ez284]; exact tya_0)) (show hi - (p0.toInt + 1) < ((((hi - (p0.toInt + 1)).toNat + 1 : Nat) : Int) : Int) from by first | exact oz_natlt | omega) hw (lv_sub hl [6, 7, 5, 4, 3, 2, 1, 0] rfl)
        · have nc254 : ¬ v206.toInt < (0 : Int) := mt (i_lt (x := v206) (y := 0)).mpr c254
          refine lv_iconst (v := 1) S.x S.b d_Mpg_checkCall_46 (by decide) ?_
          refine lv_goto (tgt := 51) S.x S.b d_Mpg_checkCall_47 (by decide) ?_
          refine lv_istore (lv' := [(5, .int 1), (4, .int v206), (3, .int v201), (2, .int z199), (0, .ref h), (1, .int p0)]) S.x S.b d_Mpg_checkCall_51 hl (by decide) rfl (fun ls hl => ?_)
          refine lv_iload S.x S.b d_Mpg_checkCall_53 (lv_at hl 0 rfl) ?_
          refine lv_if_ne (tgt := 64) S.x S.b d_Mpg_checkCall_55 (by decide) (fun c285 => ?_) (fun c285 => ?_)
          ·
            refine lv_aload_n S.x S.b d_Mpg_checkCall_64 rfl (lv_at hl 4 rfl) ?_
            refine px_get S k_Mpg hT hw 0 0 18 (v := .ref (r 18)) rfl rfl rfl (by decide) m10_3 d_Mpg_checkCall_65 ?_
            refine lv_iload_n S.x S.b d_Mpg_checkCall_68 rfl (lv_at hl 5 rfl) ?_
            refine lv_iload_n S.x S.b d_Mpg_checkCall_69 rfl (lv_at hl 2 rfl) ?_
            refine lv_if_lt (tgt := 77) S.x S.b d_Mpg_checkCall_70 (by decide) (fun c286 => ?_) (fun c286 => ?_)
            · have nc286 : v201.toInt < (0 : Int) := (i_lt (x := v201) (y := 0)).mp c286
              refine lv_bipush (v := 100) S.x S.b d_Mpg_checkCall_77 (by decide) ?_
              refine lv_iload S.x S.b d_Mpg_checkCall_79 (lv_at hl 1 rfl) ?_
              refine lv_iadd S.x S.b d_Mpg_checkCall_81 ?_
              refine lv_topi (fun z287 ez287 => ?_)
              have tz287 : z287.toInt = ((100 : Int) + v206.toInt + 2147483648) % 4294967296 - 2147483648 := by rw [ez287]; exact i_add 100 v206
              have lz287 := Int32.le_toInt z287
              have uz287 := Int32.toInt_lt z287
              try replace tz287 : z287.toInt = (100 : Int) + v206.toInt := by omega
              refine px_iast S hT hw 0 14 (n := 2100) (f := (ma 18)) (x := p0) (y := z287) rfl gp_18 (vp_in_iff.mpr (by constructor <;> omega)) d_Mpg_checkCall_82 (w' := wdP cs h r g tf ta pf na (va_up ma 18 (upd (ma 18) p0.toNatClampNeg z287)) wa cf ca ef ea xf xa) (ps' := [wdP cs h r g tf ta pf na (va_up ma 18 (upd (ma 18) p0.toNatClampNeg z287)) wa cf ca ef ea xf xa]) sp_18 rfl (fun H locs hw => ?_)
              obtain ⟨ma288, hu_ma288⟩ : ∃ y : Nat → Nat → Int32, y = va_up ma 18 (upd (ma 18) p0.toNatClampNeg z287) := ⟨_, rfl⟩
              have hw : pw D A s.heap _ _ [wdP cs h r g tf ta pf na ma288 wa cf ca ef ea xf xa] := (by rw [hu_ma288]; exact hw)
              have hf1_ma288 : FrC p0.toInt (p0.toInt + 1) ma ma288 := (by rw [hu_ma288]; exact FrC.w FrC.rf (by first | with_reducible rfl | with_reducible assumption | omega) (by first | with_reducible rfl | with_reducible assumption | omega) (by first | with_reducible rfl | with_reducible assumption | omega))
              have han : Ann na ma0 ma288 := (by rw [hu_ma288]; exact Ann.w18 han (by first | with_reducible rfl | with_reducible assumption | omega))
              have hfc := hfc.tr hf1_ma288 (by first | with_reducible rfl | with_reducible assumption | omega) (by first | with_reducible rfl | with_reducible assumption | omega)
              have hv_18_p0 : ma288 18 p0.toNatClampNeg = z287 := (by rw [hu_ma288, va_up_s, pk_us])
              have hnhv_18_p0 : (ma288 18 p0.toNatClampNeg).toInt = z287.toInt := (by rw [hv_18_p0])
              have hcd1 : v206.toInt < 0 → cod v206.toInt v201.toInt = v201.toInt := fun h => cod_own h; have hcd2 : 0 ≤ v206.toInt → cod v206.toInt v201.toInt = 100 + v206.toInt := fun h => cod_fun h
              refine lv_iconst (v := 0) S.x S.b d_Mpg_checkCall_83 (by decide) ?_
              refine lv_istore (lv' := [(6, .int 0), (5, .int 1), (4, .int v206), (3, .int v201), (2, .int z199), (0, .ref h), (1, .int p0)]) S.x S.b d_Mpg_checkCall_84 hl (by decide) rfl (fun ls hl => ?_)
              refine lv_aload_n S.x S.b d_Mpg_checkCall_86 rfl (lv_at hl 5 rfl) ?_
              refine px_get S k_Mpg hT hw 0 0 17 (v := .ref (r 17)) rfl rfl rfl (by decide) m10_1 d_Mpg_checkCall_87 ?_
              refine lv_iload_n S.x S.b d_Mpg_checkCall_90 rfl (lv_at hl 6 rfl) ?_
              refine px_iald S hT hw 0 13 (n := 2100) (f := (na 17)) rfl gp_17 (x := p0) (vp_in_iff.mpr (by first | exact oz_a7e05de1cd hrg.2.2 hrg.2.1 g1 g2 | (constructor <;> omega))) d_Mpg_checkCall_91 ?_
              refine lv_topi (fun z289 ez289 => ?_)
              have lz289 := Int32.le_toInt z289
              have uz289 := Int32.toInt_lt z289
              have hrr := EcV.k3 hec_p0 (by first | with_reducible rfl | with_reducible assumption | omega) ez289
              refine lv_istore (lv' := [(7, .int z289), (6, .int 0), (5, .int 1), (4, .int v206), (3, .int v201), (2, .int z199), (0, .ref h), (1, .int p0)]) S.x S.b d_Mpg_checkCall_92 hl (by decide) rfl (fun ls hl => ?_)
              exact J94 ((hi - (p0.toInt + 1)).toNat + 1) ma288 cf (p0.toInt + 1) z199 v201 v206 (1 : Int32) (0 : Int32) z289 _ _ ls (show KpE cf cf from hke) (show WrV cf (tf 6).toInt from hwr) (show (cf 33).toInt = (cf 33).toInt from rfl) (show (cf 38).toInt = (cf 38).toInt from rfl) (show (cf 48).toInt = (cf 48).toInt from rfl) (show (cf 46).toInt = (cf 46).toInt from rfl) (show (cf 47).toInt = (cf 47).toInt from rfl) (show (cf 57).toInt = (cf 57).toInt from rfl) (show Ann na ma0 ma288 from han) (show FrC lo hi ma ma288 from hfc) (show -1 ≤ v201.toInt from by first | exact e202 | omega) (show v201.toInt ≤ 9 from by first | exact e203 | omega) (show -1 ≤ v206.toInt from by first | exact e207 | omega) (show v206.toInt < nf from by first | exact oz_3b93307734 g7 e208 | omega) (show 0 ≤ (1 : Int) from by first | decide | omega) (show (1 : Int) ≤ 1 from by first | decide | omega) (show (1 : Int) = 1 → (0 ≤ v201.toInt ∧ v206.toInt = -1) ∨ (v201.toInt < 0 ∧ 0 ≤ v206.toInt) from by first | with_reducible rfl | with_reducible assumption | omega) (show (1 : Int) = 0 → 1 ≤ (cf 30).toInt from by first | with_reducible rfl | with_reducible assumption | omega) (show 0 ≤ (0 : Int) from by first | decide | omega) (show (0 : Int) + p0.toInt + 1 ≤ (p0.toInt + 1) from by first | exact oz_5323360a91 | omega) (show 0 ≤ z199.toInt from by first | exact rz199.1 | omega) (show z199.toInt < (tf 6).toInt from by first | exact oz_7fe81129bf rz199.2 | omega) (show p0.toInt + 1 ≤ (p0.toInt + 1) from by first | exact oz_a1bc7e1f12 | omega) (show (p0.toInt + 1) ≤ hi from by first | exact oz_8cd8185cc8 hrg.2.1 | omega) (show RcR ta (tf 6).toInt na ma0 d (p0.toInt + 1) hi z289 from hrr) (show KbI ma288 p0 (1 : Int) (cod v206.toInt v201.toInt) from (fun h => by first | with_reducible rfl | with_reducible assumption | omega)) (show ZTa cf (Gk ta ca na ma0 ns ys nf) na ma288 (p0.toInt + 1) (p0.toInt + 1) (cod v206.toInt v201.toInt) (na 17 p0.toNatClampNeg) z289 (0 : Int) from (fun _ => by rw [← ez289]; exact tya_0)) (show hi - (p0.toInt + 1) < ((((hi - (p0.toInt + 1)).toNat + 1 : Nat) : Int) : Int) from by first | exact oz_natlt | omega) hw (lv_sub hl [6, 7, 5, 4, 3, 2, 1, 0] rfl)
            · have nc286 : ¬ v201.toInt < (0 : Int) := mt (i_lt (x := v201) (y := 0)).mpr c286
              refine lv_iload_n S.x S.b d_Mpg_checkCall_73 rfl (lv_at hl 2 rfl) ?_
              refine lv_goto (tgt := 82) S.x S.b d_Mpg_checkCall_74 (by decide) ?_
              refine px_iast S hT hw 0 14 (n := 2100) (f := (ma 18)) (x := p0) (y := v201) rfl gp_18 (vp_in_iff.mpr (by constructor <;> omega)) d_Mpg_checkCall_82 (w' := wdP cs h r g tf ta pf na (va_up ma 18 (upd (ma 18) p0.toNatClampNeg v201)) wa cf ca ef ea xf xa) (ps' := [wdP cs h r g tf ta pf na (va_up ma 18 (upd (ma 18) p0.toNatClampNeg v201)) wa cf ca ef ea xf xa]) sp_18 rfl (fun H locs hw => ?_)
              obtain ⟨ma290, hu_ma290⟩ : ∃ y : Nat → Nat → Int32, y = va_up ma 18 (upd (ma 18) p0.toNatClampNeg v201) := ⟨_, rfl⟩
              have hw : pw D A s.heap _ _ [wdP cs h r g tf ta pf na ma290 wa cf ca ef ea xf xa] := (by rw [hu_ma290]; exact hw)
              have hf1_ma290 : FrC p0.toInt (p0.toInt + 1) ma ma290 := (by rw [hu_ma290]; exact FrC.w FrC.rf (by first | with_reducible rfl | with_reducible assumption | omega) (by first | with_reducible rfl | with_reducible assumption | omega) (by first | with_reducible rfl | with_reducible assumption | omega))
              have han : Ann na ma0 ma290 := (by rw [hu_ma290]; exact Ann.w18 han (by first | with_reducible rfl | with_reducible assumption | omega))
              have hfc := hfc.tr hf1_ma290 (by first | with_reducible rfl | with_reducible assumption | omega) (by first | with_reducible rfl | with_reducible assumption | omega)
              have hv_18_p0 : ma290 18 p0.toNatClampNeg = v201 := (by rw [hu_ma290, va_up_s, pk_us])
              have hnhv_18_p0 : (ma290 18 p0.toNatClampNeg).toInt = v201.toInt := (by rw [hv_18_p0])
              have hcd1 : v206.toInt < 0 → cod v206.toInt v201.toInt = v201.toInt := fun h => cod_own h; have hcd2 : 0 ≤ v206.toInt → cod v206.toInt v201.toInt = 100 + v206.toInt := fun h => cod_fun h
              refine lv_iconst (v := 0) S.x S.b d_Mpg_checkCall_83 (by decide) ?_
              refine lv_istore (lv' := [(6, .int 0), (5, .int 1), (4, .int v206), (3, .int v201), (2, .int z199), (0, .ref h), (1, .int p0)]) S.x S.b d_Mpg_checkCall_84 hl (by decide) rfl (fun ls hl => ?_)
              refine lv_aload_n S.x S.b d_Mpg_checkCall_86 rfl (lv_at hl 5 rfl) ?_
              refine px_get S k_Mpg hT hw 0 0 17 (v := .ref (r 17)) rfl rfl rfl (by decide) m10_1 d_Mpg_checkCall_87 ?_
              refine lv_iload_n S.x S.b d_Mpg_checkCall_90 rfl (lv_at hl 6 rfl) ?_
              refine px_iald S hT hw 0 13 (n := 2100) (f := (na 17)) rfl gp_17 (x := p0) (vp_in_iff.mpr (by first | exact oz_a7e05de1cd hrg.2.2 hrg.2.1 g1 g2 | (constructor <;> omega))) d_Mpg_checkCall_91 ?_
              refine lv_topi (fun z291 ez291 => ?_)
              have lz291 := Int32.le_toInt z291
              have uz291 := Int32.toInt_lt z291
              have hrr := EcV.k3 hec_p0 (by first | with_reducible rfl | with_reducible assumption | omega) ez291
              refine lv_istore (lv' := [(7, .int z291), (6, .int 0), (5, .int 1), (4, .int v206), (3, .int v201), (2, .int z199), (0, .ref h), (1, .int p0)]) S.x S.b d_Mpg_checkCall_92 hl (by decide) rfl (fun ls hl => ?_)
              exact J94 ((hi - (p0.toInt + 1)).toNat + 1) ma290 cf (p0.toInt + 1) z199 v201 v206 (1 : Int32) (0 : Int32) z291 _ _ ls (show KpE cf cf from hke) (show WrV cf (tf 6).toInt from hwr) (show (cf 33).toInt = (cf 33).toInt from rfl) (show (cf 38).toInt = (cf 38).toInt from rfl) (show (cf 48).toInt = (cf 48).toInt from rfl) (show (cf 46).toInt = (cf 46).toInt from rfl) (show (cf 47).toInt = (cf 47).toInt from rfl) (show (cf 57).toInt = (cf 57).toInt from rfl) (show Ann na ma0 ma290 from han) (show FrC lo hi ma ma290 from hfc) (show -1 ≤ v201.toInt from by first | exact e202 | omega) (show v201.toInt ≤ 9 from by first | exact e203 | omega) (show -1 ≤ v206.toInt from by first | exact e207 | omega) (show v206.toInt < nf from by first | exact oz_3b93307734 g7 e208 | omega) (show 0 ≤ (1 : Int) from by first | decide | omega) (show (1 : Int) ≤ 1 from by first | decide | omega) (show (1 : Int) = 1 → (0 ≤ v201.toInt ∧ v206.toInt = -1) ∨ (v201.toInt < 0 ∧ 0 ≤ v206.toInt) from by first | with_reducible rfl | with_reducible assumption | omega) (show (1 : Int) = 0 → 1 ≤ (cf 30).toInt from by first | with_reducible rfl | with_reducible assumption | omega) (show 0 ≤ (0 : Int) from by first | decide | omega) (show (0 : Int) + p0.toInt + 1 ≤ (p0.toInt + 1) from by first | exact oz_5323360a91 | omega) (show 0 ≤ z199.toInt from by first | exact rz199.1 | omega) (show z199.toInt < (tf 6).toInt from by first | exact oz_7fe81129bf rz199.2 | omega) (show p0.toInt + 1 ≤ (p0.toInt + 1) from by first | exact oz_a1bc7e1f12 | omega) (show (p0.toInt + 1) ≤ hi from by first | exact oz_8cd8185cc8 hrg.2.1 | omega) (show RcR ta (tf 6).toInt na ma0 d (p0.toInt + 1) hi z291 from hrr) (show KbI ma290 p0 (1 : Int) (cod v206.toInt v201.toInt) from (fun h => by first | with_reducible rfl | with_reducible assumption | omega)) (show ZTa cf (Gk ta ca na ma0 ns ys nf) na ma290 (p0.toInt + 1) (p0.toInt + 1) (cod v206.toInt v201.toInt) (na 17 p0.toNatClampNeg) z291 (0 : Int) from (fun _ => by rw [← ez291]; exact tya_0)) (show hi - (p0.toInt + 1) < ((((hi - (p0.toInt + 1)).toNat + 1 : Nat) : Int) : Int) from by first | exact oz_natlt | omega) hw (lv_sub hl [6, 7, 5, 4, 3, 2, 1, 0] rfl)
          · exact absurd c285 (by decide)
  · have nc204 : ¬ v201.toInt < (0 : Int) := mt (i_lt (x := v201) (y := 0)).mpr c204
    refine lv_iconst (v := (-1)) S.x S.b d_Mpg_checkCall_17 (by decide) ?_
    refine lv_goto (tgt := 26) S.x S.b d_Mpg_checkCall_18 (by decide) ?_
    refine lv_istore (lv' := [(4, .int (-1)), (3, .int v201), (2, .int z199), (0, .ref h), (1, .int p0)]) S.x S.b d_Mpg_checkCall_26 hl (by decide) rfl (fun ls hl => ?_)
    refine lv_aload_n S.x S.b d_Mpg_checkCall_28 rfl (lv_at hl 3 rfl) ?_
    refine lv_iload_n S.x S.b d_Mpg_checkCall_29 rfl (lv_at hl 2 rfl) ?_
    refine lv_iconst (v := 0) S.x S.b d_Mpg_checkCall_30 (by decide) ?_
    refine px_calli (pr := []) (px_runV (As := [.int z199, .int 0]) (rest := []) S (c_mp_find l D cs h r g tf ta pf na ma wa cf ca ef ea xf xa z199 0  (show 0 ≤ z199.toInt from by first | exact rz199.1 | omega) (show z199.toInt < (tf 6).toInt from by first | exact oz_7fe81129bf rz199.2 | omega) (show (tf 6).toInt ≤ 2049 from by first | exact g3 | omega) (show 0 ≤ (0 : Int) from by first | decide | omega) (show 0 ≤ (cf 33).toInt from by first | exact oz_f3ebed1ad0 g4 g5 | omega) htk (KnT.eq hkt (by first | with_reducible rfl | with_reducible assumption | omega)) _) hT (pr := []) (pcs := [wdP cs h r g tf ta pf na ma wa cf ca ef ea xf xa]) hw px_X.tt (px_recv hT hw 0 0 rfl rfl rfl) m12_181 m12_178 m12_180 ms_11_14 m1_21 q_Mpg_find ⟨show 1 + 1 ≤ (4 * d + 14) from by first | with_reducible rfl | with_reducible assumption | omega, show 8 + (4 + 11) + 40 ≤ (200 * d + 540) from by first | with_reducible rfl | with_reducible assumption | omega⟩ hl.1 rfl (Nat.le_of_ble_eq_true rfl) d_Mpg_checkCall_31 ⟨Nat.le_of_ble_eq_true rfl, Nat.le_of_ble_eq_true rfl⟩) hw hA (fun v293 p292 H locs hp292 hw => ?_)
    obtain ⟨rfl, e294, e295, e296, e297⟩ := hp292
    have e294 : -1 ≤ v293.toInt := e294
    have e295 : v293.toInt < (cf 33).toInt := e295
    have e296 : 0 ≤ v293.toInt → (0 : Int) ≤ v293.toInt := e296
    have e297 : FndV ta ca (cf 33).toInt z199 (0 : Int) v293.toInt := e297
    have hw : pw D A s.heap H locs [wdP cs h r g tf ta pf na ma wa cf ca ef ea xf xa] := hw
    have lv293 := Int32.le_toInt v293
    have uv293 := Int32.toInt_lt v293
    refine lv_if_ge (tgt := 50) S.x S.b d_Mpg_checkCall_34 (by decide) (fun c298 => ?_) (fun c298 => ?_)
    · have nc298 : (0 : Int) ≤ v293.toInt := (i_le (x := 0) (y := v293)).mp c298
      refine lv_iconst (v := 0) S.x S.b d_Mpg_checkCall_50 (by decide) ?_
      refine lv_istore (lv' := [(5, .int 0), (4, .int (-1)), (3, .int v201), (2, .int z199), (0, .ref h), (1, .int p0)]) S.x S.b d_Mpg_checkCall_51 hl (by decide) rfl (fun ls hl => ?_)
      refine lv_iload S.x S.b d_Mpg_checkCall_53 (lv_at hl 0 rfl) ?_
      refine lv_if_ne (tgt := 64) S.x S.b d_Mpg_checkCall_55 (by decide) (fun c299 => ?_) (fun c299 => ?_)
      · exact absurd c299 (by decide)
      ·
        refine lv_aload_n S.x S.b d_Mpg_checkCall_58 rfl (lv_at hl 4 rfl) ?_
        refine lv_iconst (v := 2) S.x S.b d_Mpg_checkCall_59 (by decide) ?_
        refine lv_iload_n S.x S.b d_Mpg_checkCall_60 rfl (lv_at hl 3 rfl) ?_
        refine px_callv (pr := []) (px_runV (As := [.int 2, .int z199]) (rest := []) S (c_mp_bad l D cs h r g tf ta pf na ma wa ca ef ea xf xa cf 2 z199  (show 1 ≤ (2 : Int) from by first | decide | omega) (show 0 ≤ z199.toInt from by first | exact rz199.1 | omega) (show z199.toInt < (tf 6).toInt from by first | exact oz_7fe81129bf rz199.2 | omega) htk hwr _) hT (pr := []) (pcs := [wdP cs h r g tf ta pf na ma wa cf ca ef ea xf xa]) hw px_X.tt (px_recv hT hw 0 0 rfl rfl rfl) m12_173 m12_170 m12_172 ms_11_12 m1_21 q_Mpg_bad ⟨show 0 + 1 ≤ (4 * d + 14) from by first | with_reducible rfl | with_reducible assumption | omega, show 8 + (3 + 11) + 0 ≤ (200 * d + 540) from by first | with_reducible rfl | with_reducible assumption | omega⟩ hl.1 rfl (Nat.le_of_ble_eq_true rfl) d_Mpg_checkCall_61 ⟨Nat.le_of_ble_eq_true rfl, Nat.le_of_ble_eq_true rfl⟩) hw hA (fun p302 H locs hp302 hw => ?_)
        obtain ⟨cf301, rfl, e304, e305, e306, e307, e308, e309, e310, e311, e312, e313, e314, e315, e316, e317, e318, e319, e320, e321, e322⟩ := hp302
        have e304 : KpE cf cf301 := e304
        have hke := (hke).tr e304
        have hkz_e304 := e304.2
        have e305 : WrV cf301 (tf 6).toInt := e305
        have hwr := e305
        have hw0_e305 := hwr.1
        have e306 : 1 ≤ (cf301 30).toInt := e306
        have e307 : (cf301 33).toInt = (cf 33).toInt := e307
        have e308 : (cf301 38).toInt = (cf 38).toInt := e308
        have e309 : (cf301 48).toInt = (cf 48).toInt := e309
        have e310 : (cf301 46).toInt = (cf 46).toInt := e310
        have e311 : (cf301 47).toInt = (cf 47).toInt := e311
        have e312 : (cf301 57).toInt = (cf 57).toInt := e312
        have e313 : (cf301 37).toInt = (cf 37).toInt := e313
        have e314 : (cf301 42).toInt = (cf 42).toInt := e314
        have e315 : (cf301 43).toInt = (cf 43).toInt := e315
        have e316 : (cf301 44).toInt = (cf 44).toInt := e316
        have e317 : (cf301 45).toInt = (cf 45).toInt := e317
        have e318 : (cf301 54).toInt = (cf 54).toInt := e318
        have e319 : (cf301 55).toInt = (cf 55).toInt := e319
        have e320 : (cf301 58).toInt = (cf 58).toInt := e320
        have e321 : (cf301 59).toInt = (cf 59).toInt := e321
        have e322 : (cf301 41).toInt = (cf 41).toInt := e322
        have hw : pw D A s.heap H locs [wdP cs h r g tf ta pf na ma wa cf301 ca ef ea xf xa] := hw
        refine lv_aload_n S.x S.b d_Mpg_checkCall_64 rfl (lv_at hl 4 rfl) ?_
        refine px_get S k_Mpg hT hw 0 0 18 (v := .ref (r 18)) rfl rfl rfl (by decide) m10_3 d_Mpg_checkCall_65 ?_
        refine lv_iload_n S.x S.b d_Mpg_checkCall_68 rfl (lv_at hl 5 rfl) ?_
        refine lv_iload_n S.x S.b d_Mpg_checkCall_69 rfl (lv_at hl 2 rfl) ?_
        refine lv_if_lt (tgt := 77) S.x S.b d_Mpg_checkCall_70 (by decide) (fun c323 => ?_) (fun c323 => ?_)
        · have nc323 : v201.toInt < (0 : Int) := (i_lt (x := v201) (y := 0)).mp c323
          refine lv_bipush (v := 100) S.x S.b d_Mpg_checkCall_77 (by decide) ?_
          refine lv_iload S.x S.b d_Mpg_checkCall_79 (lv_at hl 1 rfl) ?_
          refine lv_iadd S.x S.b d_Mpg_checkCall_81 ?_
          refine lv_topi (fun z324 ez324 => ?_)
          have tz324 : z324.toInt = ((100 : Int) + (-1 : Int) + 2147483648) % 4294967296 - 2147483648 := by rw [ez324]; exact i_add 100 (-1)
          have lz324 := Int32.le_toInt z324
          have uz324 := Int32.toInt_lt z324
          try replace tz324 : z324.toInt = (100 : Int) + (-1 : Int) := by omega
          refine px_iast S hT hw 0 14 (n := 2100) (f := (ma 18)) (x := p0) (y := z324) rfl gp_18 (vp_in_iff.mpr (by constructor <;> omega)) d_Mpg_checkCall_82 (w' := wdP cs h r g tf ta pf na (va_up ma 18 (upd (ma 18) p0.toNatClampNeg z324)) wa cf301 ca ef ea xf xa) (ps' := [wdP cs h r g tf ta pf na (va_up ma 18 (upd (ma 18) p0.toNatClampNeg z324)) wa cf301 ca ef ea xf xa]) sp_18 rfl (fun H locs hw => ?_)
          obtain ⟨ma325, hu_ma325⟩ : ∃ y : Nat → Nat → Int32, y = va_up ma 18 (upd (ma 18) p0.toNatClampNeg z324) := ⟨_, rfl⟩
          have hw : pw D A s.heap _ _ [wdP cs h r g tf ta pf na ma325 wa cf301 ca ef ea xf xa] := (by rw [hu_ma325]; exact hw)
          have hf1_ma325 : FrC p0.toInt (p0.toInt + 1) ma ma325 := (by rw [hu_ma325]; exact FrC.w FrC.rf (by first | with_reducible rfl | with_reducible assumption | omega) (by first | with_reducible rfl | with_reducible assumption | omega) (by first | with_reducible rfl | with_reducible assumption | omega))
          have han : Ann na ma0 ma325 := (by rw [hu_ma325]; exact Ann.w18 han (by first | with_reducible rfl | with_reducible assumption | omega))
          have hfc := hfc.tr hf1_ma325 (by first | with_reducible rfl | with_reducible assumption | omega) (by first | with_reducible rfl | with_reducible assumption | omega)
          have hv_18_p0 : ma325 18 p0.toNatClampNeg = z324 := (by rw [hu_ma325, va_up_s, pk_us])
          have hnhv_18_p0 : (ma325 18 p0.toNatClampNeg).toInt = z324.toInt := (by rw [hv_18_p0])
          have hcd1 : (-1 : Int) < 0 → cod (-1 : Int) v201.toInt = v201.toInt := fun h => cod_own h; have hcd2 : 0 ≤ (-1 : Int) → cod (-1 : Int) v201.toInt = 100 + (-1 : Int) := fun h => cod_fun h
          refine lv_iconst (v := 0) S.x S.b d_Mpg_checkCall_83 (by decide) ?_
          refine lv_istore (lv' := [(6, .int 0), (5, .int 0), (4, .int (-1)), (3, .int v201), (2, .int z199), (0, .ref h), (1, .int p0)]) S.x S.b d_Mpg_checkCall_84 hl (by decide) rfl (fun ls hl => ?_)
          refine lv_aload_n S.x S.b d_Mpg_checkCall_86 rfl (lv_at hl 5 rfl) ?_
          refine px_get S k_Mpg hT hw 0 0 17 (v := .ref (r 17)) rfl rfl rfl (by decide) m10_1 d_Mpg_checkCall_87 ?_
          refine lv_iload_n S.x S.b d_Mpg_checkCall_90 rfl (lv_at hl 6 rfl) ?_
          refine px_iald S hT hw 0 13 (n := 2100) (f := (na 17)) rfl gp_17 (x := p0) (vp_in_iff.mpr (by first | exact oz_a7e05de1cd hrg.2.2 hrg.2.1 g1 g2 | (constructor <;> omega))) d_Mpg_checkCall_91 ?_
          refine lv_topi (fun z326 ez326 => ?_)
          have lz326 := Int32.le_toInt z326
          have uz326 := Int32.toInt_lt z326
          have hrr := EcV.k3 hec_p0 (by first | with_reducible rfl | with_reducible assumption | omega) ez326
          refine lv_istore (lv' := [(7, .int z326), (6, .int 0), (5, .int 0), (4, .int (-1)), (3, .int v201), (2, .int z199), (0, .ref h), (1, .int p0)]) S.x S.b d_Mpg_checkCall_92 hl (by decide) rfl (fun ls hl => ?_)
          exact J94 ((hi - (p0.toInt + 1)).toNat + 1) ma325 cf301 (p0.toInt + 1) z199 v201 (-1) (0 : Int32) (0 : Int32) z326 _ _ ls (show KpE cf cf301 from hke) (show WrV cf301 (tf 6).toInt from hwr) (show (cf301 33).toInt = (cf 33).toInt from by first | exact e307 | omega) (show (cf301 38).toInt = (cf 38).toInt from by first | exact e308 | omega) (show (cf301 48).toInt = (cf 48).toInt from by first | exact e309 | omega) (show (cf301 46).toInt = (cf 46).toInt from by first | exact e310 | omega) (show (cf301 47).toInt = (cf 47).toInt from by first | exact e311 | omega) (show (cf301 57).toInt = (cf 57).toInt from by first | exact e312 | omega) (show Ann na ma0 ma325 from han) (show FrC lo hi ma ma325 from hfc) (show -1 ≤ v201.toInt from by first | exact e202 | omega) (show v201.toInt ≤ 9 from by first | exact e203 | omega) (show -1 ≤ (-1 : Int) from by first | decide | omega) (show (-1 : Int) < nf from by first | exact oz_46b89dfbf6 g8 | omega) (show 0 ≤ (0 : Int) from by first | decide | omega) (show (0 : Int) ≤ 1 from by first | decide | omega) (show (0 : Int) = 1 → (0 ≤ v201.toInt ∧ (-1 : Int) = -1) ∨ (v201.toInt < 0 ∧ 0 ≤ (-1 : Int)) from by first | with_reducible rfl | with_reducible assumption | omega) (show (0 : Int) = 0 → 1 ≤ (cf301 30).toInt from by first | with_reducible rfl | with_reducible assumption | omega) (show 0 ≤ (0 : Int) from by first | decide | omega) (show (0 : Int) + p0.toInt + 1 ≤ (p0.toInt + 1) from by first | exact oz_5323360a91 | omega) (show 0 ≤ z199.toInt from by first | exact rz199.1 | omega) (show z199.toInt < (tf 6).toInt from by first | exact oz_7fe81129bf rz199.2 | omega) (show p0.toInt + 1 ≤ (p0.toInt + 1) from by first | exact oz_a1bc7e1f12 | omega) (show (p0.toInt + 1) ≤ hi from by first | exact oz_8cd8185cc8 hrg.2.1 | omega) (show RcR ta (tf 6).toInt na ma0 d (p0.toInt + 1) hi z326 from hrr) (show KbI ma325 p0 (0 : Int) (cod (-1 : Int) v201.toInt) from (fun h => by first | with_reducible rfl | with_reducible assumption | omega)) (show ZTa cf301 (Gk ta ca na ma0 ns ys nf) na ma325 (p0.toInt + 1) (p0.toInt + 1) (cod (-1 : Int) v201.toInt) (na 17 p0.toNatClampNeg) z326 (0 : Int) from (fun _ => by rw [← ez326]; exact tya_0)) (show hi - (p0.toInt + 1) < ((((hi - (p0.toInt + 1)).toNat + 1 : Nat) : Int) : Int) from by first | exact oz_natlt | omega) hw (lv_sub hl [6, 7, 5, 4, 3, 2, 1, 0] rfl)
        · have nc323 : ¬ v201.toInt < (0 : Int) := mt (i_lt (x := v201) (y := 0)).mpr c323
          refine lv_iload_n S.x S.b d_Mpg_checkCall_73 rfl (lv_at hl 2 rfl) ?_
          refine lv_goto (tgt := 82) S.x S.b d_Mpg_checkCall_74 (by decide) ?_
          refine px_iast S hT hw 0 14 (n := 2100) (f := (ma 18)) (x := p0) (y := v201) rfl gp_18 (vp_in_iff.mpr (by constructor <;> omega)) d_Mpg_checkCall_82 (w' := wdP cs h r g tf ta pf na (va_up ma 18 (upd (ma 18) p0.toNatClampNeg v201)) wa cf301 ca ef ea xf xa) (ps' := [wdP cs h r g tf ta pf na (va_up ma 18 (upd (ma 18) p0.toNatClampNeg v201)) wa cf301 ca ef ea xf xa]) sp_18 rfl (fun H locs hw => ?_)
          obtain ⟨ma327, hu_ma327⟩ : ∃ y : Nat → Nat → Int32, y = va_up ma 18 (upd (ma 18) p0.toNatClampNeg v201) := ⟨_, rfl⟩
          have hw : pw D A s.heap _ _ [wdP cs h r g tf ta pf na ma327 wa cf301 ca ef ea xf xa] := (by rw [hu_ma327]; exact hw)
          have hf1_ma327 : FrC p0.toInt (p0.toInt + 1) ma ma327 := (by rw [hu_ma327]; exact FrC.w FrC.rf (by first | with_reducible rfl | with_reducible assumption | omega) (by first | with_reducible rfl | with_reducible assumption | omega) (by first | with_reducible rfl | with_reducible assumption | omega))
          have han : Ann na ma0 ma327 := (by rw [hu_ma327]; exact Ann.w18 han (by first | with_reducible rfl | with_reducible assumption | omega))
          have hfc := hfc.tr hf1_ma327 (by first | with_reducible rfl | with_reducible assumption | omega) (by first | with_reducible rfl | with_reducible assumption | omega)
          have hv_18_p0 : ma327 18 p0.toNatClampNeg = v201 := (by rw [hu_ma327, va_up_s, pk_us])
          have hnhv_18_p0 : (ma327 18 p0.toNatClampNeg).toInt = v201.toInt := (by rw [hv_18_p0])
          have hcd1 : (-1 : Int) < 0 → cod (-1 : Int) v201.toInt = v201.toInt := fun h => cod_own h; have hcd2 : 0 ≤ (-1 : Int) → cod (-1 : Int) v201.toInt = 100 + (-1 : Int) := fun h => cod_fun h
          refine lv_iconst (v := 0) S.x S.b d_Mpg_checkCall_83 (by decide) ?_
          refine lv_istore (lv' := [(6, .int 0), (5, .int 0), (4, .int (-1)), (3, .int v201), (2, .int z199), (0, .ref h), (1, .int p0)]) S.x S.b d_Mpg_checkCall_84 hl (by decide) rfl (fun ls hl => ?_)
          refine lv_aload_n S.x S.b d_Mpg_checkCall_86 rfl (lv_at hl 5 rfl) ?_
          refine px_get S k_Mpg hT hw 0 0 17 (v := .ref (r 17)) rfl rfl rfl (by decide) m10_1 d_Mpg_checkCall_87 ?_
          refine lv_iload_n S.x S.b d_Mpg_checkCall_90 rfl (lv_at hl 6 rfl) ?_
          refine px_iald S hT hw 0 13 (n := 2100) (f := (na 17)) rfl gp_17 (x := p0) (vp_in_iff.mpr (by first | exact oz_a7e05de1cd hrg.2.2 hrg.2.1 g1 g2 | (constructor <;> omega))) d_Mpg_checkCall_91 ?_
          refine lv_topi (fun z328 ez328 => ?_)
          have lz328 := Int32.le_toInt z328
          have uz328 := Int32.toInt_lt z328
          have hrr := EcV.k3 hec_p0 (by first | with_reducible rfl | with_reducible assumption | omega) ez328
          refine lv_istore (lv' := [(7, .int z328), (6, .int 0), (5, .int 0), (4, .int (-1)), (3, .int v201), (2, .int z199), (0, .ref h), (1, .int p0)]) S.x S.b d_Mpg_checkCall_92 hl (by decide) rfl (fun ls hl => ?_)
          exact J94 ((hi - (p0.toInt + 1)).toNat + 1) ma327 cf301 (p0.toInt + 1) z199 v201 (-1) (0 : Int32) (0 : Int32) z328 _ _ ls (show KpE cf cf301 from hke) (show WrV cf301 (tf 6).toInt from hwr) (show (cf301 33).toInt = (cf 33).toInt from by first | exact e307 | omega) (show (cf301 38).toInt = (cf 38).toInt from by first | exact e308 | omega) (show (cf301 48).toInt = (cf 48).toInt from by first | exact e309 | omega) (show (cf301 46).toInt = (cf 46).toInt from by first | exact e310 | omega) (show (cf301 47).toInt = (cf 47).toInt from by first | exact e311 | omega) (show (cf301 57).toInt = (cf 57).toInt from by first | exact e312 | omega) (show Ann na ma0 ma327 from han) (show FrC lo hi ma ma327 from hfc) (show -1 ≤ v201.toInt from by first | exact e202 | omega) (show v201.toInt ≤ 9 from by first | exact e203 | omega) (show -1 ≤ (-1 : Int) from by first | decide | omega) (show (-1 : Int) < nf from by first | exact oz_46b89dfbf6 g8 | omega) (show 0 ≤ (0 : Int) from by first | decide | omega) (show (0 : Int) ≤ 1 from by first | decide | omega) (show (0 : Int) = 1 → (0 ≤ v201.toInt ∧ (-1 : Int) = -1) ∨ (v201.toInt < 0 ∧ 0 ≤ (-1 : Int)) from by first | with_reducible rfl | with_reducible assumption | omega) (show (0 : Int) = 0 → 1 ≤ (cf301 30).toInt from by first | with_reducible rfl | with_reducible assumption | omega) (show 0 ≤ (0 : Int) from by first | decide | omega) (show (0 : Int) + p0.toInt + 1 ≤ (p0.toInt + 1) from by first | exact oz_5323360a91 | omega) (show 0 ≤ z199.toInt from by first | exact rz199.1 | omega) (show z199.toInt < (tf 6).toInt from by first | exact oz_7fe81129bf rz199.2 | omega) (show p0.toInt + 1 ≤ (p0.toInt + 1) from by first | exact oz_a1bc7e1f12 | omega) (show (p0.toInt + 1) ≤ hi from by first | exact oz_8cd8185cc8 hrg.2.1 | omega) (show RcR ta (tf 6).toInt na ma0 d (p0.toInt + 1) hi z328 from hrr) (show KbI ma327 p0 (0 : Int) (cod (-1 : Int) v201.toInt) from (fun h => by first | with_reducible rfl | with_reducible assumption | omega)) (show ZTa cf301 (Gk ta ca na ma0 ns ys nf) na ma327 (p0.toInt + 1) (p0.toInt + 1) (cod (-1 : Int) v201.toInt) (na 17 p0.toNatClampNeg) z328 (0 : Int) from (fun _ => by rw [← ez328]; exact tya_0)) (show hi - (p0.toInt + 1) < ((((hi - (p0.toInt + 1)).toNat + 1 : Nat) : Int) : Int) from by first | exact oz_natlt | omega) hw (lv_sub hl [6, 7, 5, 4, 3, 2, 1, 0] rfl)
    · have nc298 : ¬ (0 : Int) ≤ v293.toInt := mt (i_le (x := 0) (y := v293)).mpr c298
      refine lv_iload_n S.x S.b d_Mpg_checkCall_37 rfl (lv_at hl 1 rfl) ?_
      refine lv_if_ge (tgt := 46) S.x S.b d_Mpg_checkCall_38 (by decide) (fun c329 => ?_) (fun c329 => ?_)
      · have nc329 : (0 : Int) ≤ v201.toInt := (i_le (x := 0) (y := v201)).mp c329
        refine lv_iconst (v := 1) S.x S.b d_Mpg_checkCall_46 (by decide) ?_
        refine lv_goto (tgt := 51) S.x S.b d_Mpg_checkCall_47 (by decide) ?_
        refine lv_istore (lv' := [(5, .int 1), (4, .int (-1)), (3, .int v201), (2, .int z199), (0, .ref h), (1, .int p0)]) S.x S.b d_Mpg_checkCall_51 hl (by decide) rfl (fun ls hl => ?_)
        refine lv_iload S.x S.b d_Mpg_checkCall_53 (lv_at hl 0 rfl) ?_
        refine lv_if_ne (tgt := 64) S.x S.b d_Mpg_checkCall_55 (by decide) (fun c330 => ?_) (fun c330 => ?_)
        ·
          refine lv_aload_n S.x S.b d_Mpg_checkCall_64 rfl (lv_at hl 4 rfl) ?_
          refine px_get S k_Mpg hT hw 0 0 18 (v := .ref (r 18)) rfl rfl rfl (by decide) m10_3 d_Mpg_checkCall_65 ?_
          refine lv_iload_n S.x S.b d_Mpg_checkCall_68 rfl (lv_at hl 5 rfl) ?_
          refine lv_iload_n S.x S.b d_Mpg_checkCall_69 rfl (lv_at hl 2 rfl) ?_
          refine lv_if_lt (tgt := 77) S.x S.b d_Mpg_checkCall_70 (by decide) (fun c331 => ?_) (fun c331 => ?_)
          · have nc331 : v201.toInt < (0 : Int) := (i_lt (x := v201) (y := 0)).mp c331
            refine lv_bipush (v := 100) S.x S.b d_Mpg_checkCall_77 (by decide) ?_
            refine lv_iload S.x S.b d_Mpg_checkCall_79 (lv_at hl 1 rfl) ?_
            refine lv_iadd S.x S.b d_Mpg_checkCall_81 ?_
            refine lv_topi (fun z332 ez332 => ?_)
            have tz332 : z332.toInt = ((100 : Int) + (-1 : Int) + 2147483648) % 4294967296 - 2147483648 := by rw [ez332]; exact i_add 100 (-1)
            have lz332 := Int32.le_toInt z332
            have uz332 := Int32.toInt_lt z332
            try replace tz332 : z332.toInt = (100 : Int) + (-1 : Int) := by omega
            refine px_iast S hT hw 0 14 (n := 2100) (f := (ma 18)) (x := p0) (y := z332) rfl gp_18 (vp_in_iff.mpr (by constructor <;> omega)) d_Mpg_checkCall_82 (w' := wdP cs h r g tf ta pf na (va_up ma 18 (upd (ma 18) p0.toNatClampNeg z332)) wa cf ca ef ea xf xa) (ps' := [wdP cs h r g tf ta pf na (va_up ma 18 (upd (ma 18) p0.toNatClampNeg z332)) wa cf ca ef ea xf xa]) sp_18 rfl (fun H locs hw => ?_)
            obtain ⟨ma333, hu_ma333⟩ : ∃ y : Nat → Nat → Int32, y = va_up ma 18 (upd (ma 18) p0.toNatClampNeg z332) := ⟨_, rfl⟩
            have hw : pw D A s.heap _ _ [wdP cs h r g tf ta pf na ma333 wa cf ca ef ea xf xa] := (by rw [hu_ma333]; exact hw)
            have hf1_ma333 : FrC p0.toInt (p0.toInt + 1) ma ma333 := (by rw [hu_ma333]; exact FrC.w FrC.rf (by first | with_reducible rfl | with_reducible assumption | omega) (by first | with_reducible rfl | with_reducible assumption | omega) (by first | with_reducible rfl | with_reducible assumption | omega))
            have han : Ann na ma0 ma333 := (by rw [hu_ma333]; exact Ann.w18 han (by first | with_reducible rfl | with_reducible assumption | omega))
            have hfc := hfc.tr hf1_ma333 (by first | with_reducible rfl | with_reducible assumption | omega) (by first | with_reducible rfl | with_reducible assumption | omega)
            have hv_18_p0 : ma333 18 p0.toNatClampNeg = z332 := (by rw [hu_ma333, va_up_s, pk_us])
            have hnhv_18_p0 : (ma333 18 p0.toNatClampNeg).toInt = z332.toInt := (by rw [hv_18_p0])
            have hcd1 : (-1 : Int) < 0 → cod (-1 : Int) v201.toInt = v201.toInt := fun h => cod_own h; have hcd2 : 0 ≤ (-1 : Int) → cod (-1 : Int) v201.toInt = 100 + (-1 : Int) := fun h => cod_fun h
            refine lv_iconst (v := 0) S.x S.b d_Mpg_checkCall_83 (by decide) ?_
            refine lv_istore (lv' := [(6, .int 0), (5, .int 1), (4, .int (-1)), (3, .int v201), (2, .int z199), (0, .ref h), (1, .int p0)]) S.x S.b d_Mpg_checkCall_84 hl (by decide) rfl (fun ls hl => ?_)
            refine lv_aload_n S.x S.b d_Mpg_checkCall_86 rfl (lv_at hl 5 rfl) ?_
            refine px_get S k_Mpg hT hw 0 0 17 (v := .ref (r 17)) rfl rfl rfl (by decide) m10_1 d_Mpg_checkCall_87 ?_
            refine lv_iload_n S.x S.b d_Mpg_checkCall_90 rfl (lv_at hl 6 rfl) ?_
            refine px_iald S hT hw 0 13 (n := 2100) (f := (na 17)) rfl gp_17 (x := p0) (vp_in_iff.mpr (by first | exact oz_a7e05de1cd hrg.2.2 hrg.2.1 g1 g2 | (constructor <;> omega))) d_Mpg_checkCall_91 ?_
            refine lv_topi (fun z334 ez334 => ?_)
            have lz334 := Int32.le_toInt z334
            have uz334 := Int32.toInt_lt z334
            have hrr := EcV.k3 hec_p0 (by first | with_reducible rfl | with_reducible assumption | omega) ez334
            refine lv_istore (lv' := [(7, .int z334), (6, .int 0), (5, .int 1), (4, .int (-1)), (3, .int v201), (2, .int z199), (0, .ref h), (1, .int p0)]) S.x S.b d_Mpg_checkCall_92 hl (by decide) rfl (fun ls hl => ?_)
            exact J94 ((hi - (p0.toInt + 1)).toNat + 1) ma333 cf (p0.toInt + 1) z199 v201 (-1) (1 : Int32) (0 : Int32) z334 _ _ ls (show KpE cf cf from hke) (show WrV cf (tf 6).toInt from hwr) (show (cf 33).toInt = (cf 33).toInt from rfl) (show (cf 38).toInt = (cf 38).toInt from rfl) (show (cf 48).toInt = (cf 48).toInt from rfl) (show (cf 46).toInt = (cf 46).toInt from rfl) (show (cf 47).toInt = (cf 47).toInt from rfl) (show (cf 57).toInt = (cf 57).toInt from rfl) (show Ann na ma0 ma333 from han) (show FrC lo hi ma ma333 from hfc) (show -1 ≤ v201.toInt from by first | exact e202 | omega) (show v201.toInt ≤ 9 from by first | exact e203 | omega) (show -1 ≤ (-1 : Int) from by first | decide | omega) (show (-1 : Int) < nf from by first | exact oz_46b89dfbf6 g8 | omega) (show 0 ≤ (1 : Int) from by first | decide | omega) (show (1 : Int) ≤ 1 from by first | decide | omega) (show (1 : Int) = 1 → (0 ≤ v201.toInt ∧ (-1 : Int) = -1) ∨ (v201.toInt < 0 ∧ 0 ≤ (-1 : Int)) from by first | with_reducible rfl | with_reducible assumption | omega) (show (1 : Int) = 0 → 1 ≤ (cf 30).toInt from by first | with_reducible rfl | with_reducible assumption | omega) (show 0 ≤ (0 : Int) from by first | decide | omega) (show (0 : Int) + p0.toInt + 1 ≤ (p0.toInt + 1) from by first | exact oz_5323360a91 | omega) (show 0 ≤ z199.toInt from by first | exact rz199.1 | omega) (show z199.toInt < (tf 6).toInt from by first | exact oz_7fe81129bf rz199.2 | omega) (show p0.toInt + 1 ≤ (p0.toInt + 1) from by first | exact oz_a1bc7e1f12 | omega) (show (p0.toInt + 1) ≤ hi from by first | exact oz_8cd8185cc8 hrg.2.1 | omega) (show RcR ta (tf 6).toInt na ma0 d (p0.toInt + 1) hi z334 from hrr) (show KbI ma333 p0 (1 : Int) (cod (-1 : Int) v201.toInt) from (fun h => by first | with_reducible rfl | with_reducible assumption | omega)) (show ZTa cf (Gk ta ca na ma0 ns ys nf) na ma333 (p0.toInt + 1) (p0.toInt + 1) (cod (-1 : Int) v201.toInt) (na 17 p0.toNatClampNeg) z334 (0 : Int) from (fun _ => by rw [← ez334]; exact tya_0)) (show hi - (p0.toInt + 1) < ((((hi - (p0.toInt + 1)).toNat + 1 : Nat) : Int) : Int) from by first | exact oz_natlt | omega) hw (lv_sub hl [6, 7, 5, 4, 3, 2, 1, 0] rfl)
          · have nc331 : ¬ v201.toInt < (0 : Int) := mt (i_lt (x := v201) (y := 0)).mpr c331
            refine lv_iload_n S.x S.b d_Mpg_checkCall_73 rfl (lv_at hl 2 rfl) ?_
            refine lv_goto (tgt := 82) S.x S.b d_Mpg_checkCall_74 (by decide) ?_
            refine px_iast S hT hw 0 14 (n := 2100) (f := (ma 18)) (x := p0) (y := v201) rfl gp_18 (vp_in_iff.mpr (by constructor <;> omega)) d_Mpg_checkCall_82 (w' := wdP cs h r g tf ta pf na (va_up ma 18 (upd (ma 18) p0.toNatClampNeg v201)) wa cf ca ef ea xf xa) (ps' := [wdP cs h r g tf ta pf na (va_up ma 18 (upd (ma 18) p0.toNatClampNeg v201)) wa cf ca ef ea xf xa]) sp_18 rfl (fun H locs hw => ?_)
            obtain ⟨ma335, hu_ma335⟩ : ∃ y : Nat → Nat → Int32, y = va_up ma 18 (upd (ma 18) p0.toNatClampNeg v201) := ⟨_, rfl⟩
            have hw : pw D A s.heap _ _ [wdP cs h r g tf ta pf na ma335 wa cf ca ef ea xf xa] := (by rw [hu_ma335]; exact hw)
            have hf1_ma335 : FrC p0.toInt (p0.toInt + 1) ma ma335 := (by rw [hu_ma335]; exact FrC.w FrC.rf (by first | with_reducible rfl | with_reducible assumption | omega) (by first | with_reducible rfl | with_reducible assumption | omega) (by first | with_reducible rfl | with_reducible assumption | omega))
            have han : Ann na ma0 ma335 := (by rw [hu_ma335]; exact Ann.w18 han (by first | with_reducible rfl | with_reducible assumption | omega))
            have hfc := hfc.tr hf1_ma335 (by first | with_reducible rfl | with_reducible assumption | omega) (by first | with_reducible rfl | with_reducible assumption | omega)
            have hv_18_p0 : ma335 18 p0.toNatClampNeg = v201 := (by rw [hu_ma335, va_up_s, pk_us])
            have hnhv_18_p0 : (ma335 18 p0.toNatClampNeg).toInt = v201.toInt := (by rw [hv_18_p0])
            have hcd1 : (-1 : Int) < 0 → cod (-1 : Int) v201.toInt = v201.toInt := fun h => cod_own h; have hcd2 : 0 ≤ (-1 : Int) → cod (-1 : Int) v201.toInt = 100 + (-1 : Int) := fun h => cod_fun h
            refine lv_iconst (v := 0) S.x S.b d_Mpg_checkCall_83 (by decide) ?_
            refine lv_istore (lv' := [(6, .int 0), (5, .int 1), (4, .int (-1)), (3, .int v201), (2, .int z199), (0, .ref h), (1, .int p0)]) S.x S.b d_Mpg_checkCall_84 hl (by decide) rfl (fun ls hl => ?_)
            refine lv_aload_n S.x S.b d_Mpg_checkCall_86 rfl (lv_at hl 5 rfl) ?_
            refine px_get S k_Mpg hT hw 0 0 17 (v := .ref (r 17)) rfl rfl rfl (by decide) m10_1 d_Mpg_checkCall_87 ?_
            refine lv_iload_n S.x S.b d_Mpg_checkCall_90 rfl (lv_at hl 6 rfl) ?_
            refine px_iald S hT hw 0 13 (n := 2100) (f := (na 17)) rfl gp_17 (x := p0) (vp_in_iff.mpr (by first | exact oz_a7e05de1cd hrg.2.2 hrg.2.1 g1 g2 | (constructor <;> omega))) d_Mpg_checkCall_91 ?_
            refine lv_topi (fun z336 ez336 => ?_)
            have lz336 := Int32.le_toInt z336
            have uz336 := Int32.toInt_lt z336
            have hrr := EcV.k3 hec_p0 (by first | with_reducible rfl | with_reducible assumption | omega) ez336
            refine lv_istore (lv' := [(7, .int z336), (6, .int 0), (5, .int 1), (4, .int (-1)), (3, .int v201), (2, .int z199), (0, .ref h), (1, .int p0)]) S.x S.b d_Mpg_checkCall_92 hl (by decide) rfl (fun ls hl => ?_)
            exact J94 ((hi - (p0.toInt + 1)).toNat + 1) ma335 cf (p0.toInt + 1) z199 v201 (-1) (1 : Int32) (0 : Int32) z336 _ _ ls (show KpE cf cf from hke) (show WrV cf (tf 6).toInt from hwr) (show (cf 33).toInt = (cf 33).toInt from rfl) (show (cf 38).toInt = (cf 38).toInt from rfl) (show (cf 48).toInt = (cf 48).toInt from rfl) (show (cf 46).toInt = (cf 46).toInt from rfl) (show (cf 47).toInt = (cf 47).toInt from rfl) (show (cf 57).toInt = (cf 57).toInt from rfl) (show Ann na ma0 ma335 from han) (show FrC lo hi ma ma335 from hfc) (show -1 ≤ v201.toInt from by first | exact e202 | omega) (show v201.toInt ≤ 9 from by first | exact e203 | omega) (show -1 ≤ (-1 : Int) from by first | decide | omega) (show (-1 : Int) < nf from by first | exact oz_46b89dfbf6 g8 | omega) (show 0 ≤ (1 : Int) from by first | decide | omega) (show (1 : Int) ≤ 1 from by first | decide | omega) (show (1 : Int) = 1 → (0 ≤ v201.toInt ∧ (-1 : Int) = -1) ∨ (v201.toInt < 0 ∧ 0 ≤ (-1 : Int)) from by first | with_reducible rfl | with_reducible assumption | omega) (show (1 : Int) = 0 → 1 ≤ (cf 30).toInt from by first | with_reducible rfl | with_reducible assumption | omega) (show 0 ≤ (0 : Int) from by first | decide | omega) (show (0 : Int) + p0.toInt + 1 ≤ (p0.toInt + 1) from by first | exact oz_5323360a91 | omega) (show 0 ≤ z199.toInt from by first | exact rz199.1 | omega) (show z199.toInt < (tf 6).toInt from by first | exact oz_7fe81129bf rz199.2 | omega) (show p0.toInt + 1 ≤ (p0.toInt + 1) from by first | exact oz_a1bc7e1f12 | omega) (show (p0.toInt + 1) ≤ hi from by first | exact oz_8cd8185cc8 hrg.2.1 | omega) (show RcR ta (tf 6).toInt na ma0 d (p0.toInt + 1) hi z336 from hrr) (show KbI ma335 p0 (1 : Int) (cod (-1 : Int) v201.toInt) from (fun h => by first | with_reducible rfl | with_reducible assumption | omega)) (show ZTa cf (Gk ta ca na ma0 ns ys nf) na ma335 (p0.toInt + 1) (p0.toInt + 1) (cod (-1 : Int) v201.toInt) (na 17 p0.toNatClampNeg) z336 (0 : Int) from (fun _ => by rw [← ez336]; exact tya_0)) (show hi - (p0.toInt + 1) < ((((hi - (p0.toInt + 1)).toNat + 1 : Nat) : Int) : Int) from by first | exact oz_natlt | omega) hw (lv_sub hl [6, 7, 5, 4, 3, 2, 1, 0] rfl)
        · exact absurd c330 (by decide)
      · have nc329 : ¬ (0 : Int) ≤ v201.toInt := mt (i_le (x := 0) (y := v201)).mpr c329
        refine lv_iload S.x S.b d_Mpg_checkCall_41 (lv_at hl 0 rfl) ?_
        refine lv_if_lt (tgt := 50) S.x S.b d_Mpg_checkCall_43 (by decide) (fun c337 => ?_) (fun c337 => ?_)
        ·
          refine lv_iconst (v := 0) S.x S.b d_Mpg_checkCall_50 (by decide) ?_
          refine lv_istore (lv' := [(5, .int 0), (4, .int (-1)), (3, .int v201), (2, .int z199), (0, .ref h), (1, .int p0)]) S.x S.b d_Mpg_checkCall_51 hl (by decide) rfl (fun ls hl => ?_)
          refine lv_iload S.x S.b d_Mpg_checkCall_53 (lv_at hl 0 rfl) ?_
          refine lv_if_ne (tgt := 64) S.x S.b d_Mpg_checkCall_55 (by decide) (fun c338 => ?_) (fun c338 => ?_)
          · exact absurd c338 (by decide)
          ·
            refine lv_aload_n S.x S.b d_Mpg_checkCall_58 rfl (lv_at hl 4 rfl) ?_
            refine lv_iconst (v := 2) S.x S.b d_Mpg_checkCall_59 (by decide) ?_
            refine lv_iload_n S.x S.b d_Mpg_checkCall_60 rfl (lv_at hl 3 rfl) ?_
            refine px_callv (pr := []) (px_runV (As := [.int 2, .int z199]) (rest := []) S (c_mp_bad l D cs h r g tf ta pf na ma wa ca ef ea xf xa cf 2 z199  (show 1 ≤ (2 : Int) from by first | decide | omega) (show 0 ≤ z199.toInt from by first | exact rz199.1 | omega) (show z199.toInt < (tf 6).toInt from by first | exact oz_7fe81129bf rz199.2 | omega) htk hwr _) hT (pr := []) (pcs := [wdP cs h r g tf ta pf na ma wa cf ca ef ea xf xa]) hw px_X.tt (px_recv hT hw 0 0 rfl rfl rfl) m12_173 m12_170 m12_172 ms_11_12 m1_21 q_Mpg_bad ⟨show 0 + 1 ≤ (4 * d + 14) from by first | with_reducible rfl | with_reducible assumption | omega, show 8 + (3 + 11) + 0 ≤ (200 * d + 540) from by first | with_reducible rfl | with_reducible assumption | omega⟩ hl.1 rfl (Nat.le_of_ble_eq_true rfl) d_Mpg_checkCall_61 ⟨Nat.le_of_ble_eq_true rfl, Nat.le_of_ble_eq_true rfl⟩) hw hA (fun p341 H locs hp341 hw => ?_)
            obtain ⟨cf340, rfl, e343, e344, e345, e346, e347, e348, e349, e350, e351, e352, e353, e354, e355, e356, e357, e358, e359, e360, e361⟩ := hp341
            have e343 : KpE cf cf340 := e343
            have hke := (hke).tr e343
            have hkz_e343 := e343.2
            have e344 : WrV cf340 (tf 6).toInt := e344
            have hwr := e344
            have hw0_e344 := hwr.1
            have e345 : 1 ≤ (cf340 30).toInt := e345
            have e346 : (cf340 33).toInt = (cf 33).toInt := e346
            have e347 : (cf340 38).toInt = (cf 38).toInt := e347
            have e348 : (cf340 48).toInt = (cf 48).toInt := e348
            have e349 : (cf340 46).toInt = (cf 46).toInt := e349
            have e350 : (cf340 47).toInt = (cf 47).toInt := e350
            have e351 : (cf340 57).toInt = (cf 57).toInt := e351
            have e352 : (cf340 37).toInt = (cf 37).toInt := e352
            have e353 : (cf340 42).toInt = (cf 42).toInt := e353
            have e354 : (cf340 43).toInt = (cf 43).toInt := e354
            have e355 : (cf340 44).toInt = (cf 44).toInt := e355
            have e356 : (cf340 45).toInt = (cf 45).toInt := e356
            have e357 : (cf340 54).toInt = (cf 54).toInt := e357
            have e358 : (cf340 55).toInt = (cf 55).toInt := e358
            have e359 : (cf340 58).toInt = (cf 58).toInt := e359
            have e360 : (cf340 59).toInt = (cf 59).toInt := e360
            have e361 : (cf340 41).toInt = (cf 41).toInt := e361
            have hw : pw D A s.heap H locs [wdP cs h r g tf ta pf na ma wa cf340 ca ef ea xf xa] := hw
            refine lv_aload_n S.x S.b d_Mpg_checkCall_64 rfl (lv_at hl 4 rfl) ?_
            refine px_get S k_Mpg hT hw 0 0 18 (v := .ref (r 18)) rfl rfl rfl (by decide) m10_3 d_Mpg_checkCall_65 ?_
            refine lv_iload_n S.x S.b d_Mpg_checkCall_68 rfl (lv_at hl 5 rfl) ?_
            refine lv_iload_n S.x S.b d_Mpg_checkCall_69 rfl (lv_at hl 2 rfl) ?_
            refine lv_if_lt (tgt := 77) S.x S.b d_Mpg_checkCall_70 (by decide) (fun c362 => ?_) (fun c362 => ?_)
            · have nc362 : v201.toInt < (0 : Int) := (i_lt (x := v201) (y := 0)).mp c362
              refine lv_bipush (v := 100) S.x S.b d_Mpg_checkCall_77 (by decide) ?_
              refine lv_iload S.x S.b d_Mpg_checkCall_79 (lv_at hl 1 rfl) ?_
              refine lv_iadd S.x S.b d_Mpg_checkCall_81 ?_
              refine lv_topi (fun z363 ez363 => ?_)
              have tz363 : z363.toInt = ((100 : Int) + (-1 : Int) + 2147483648) % 4294967296 - 2147483648 := by rw [ez363]; exact i_add 100 (-1)
              have lz363 := Int32.le_toInt z363
              have uz363 := Int32.toInt_lt z363
              try replace tz363 : z363.toInt = (100 : Int) + (-1 : Int) := by omega
              refine px_iast S hT hw 0 14 (n := 2100) (f := (ma 18)) (x := p0) (y := z363) rfl gp_18 (vp_in_iff.mpr (by constructor <;> omega)) d_Mpg_checkCall_82 (w' := wdP cs h r g tf ta pf na (va_up ma 18 (upd (ma 18) p0.toNatClampNeg z363)) wa cf340 ca ef ea xf xa) (ps' := [wdP cs h r g tf ta pf na (va_up ma 18 (upd (ma 18) p0.toNatClampNeg z363)) wa cf340 ca ef ea xf xa]) sp_18 rfl (fun H locs hw => ?_)
              obtain ⟨ma364, hu_ma364⟩ : ∃ y : Nat → Nat → Int32, y = va_up ma 18 (upd (ma 18) p0.toNatClampNeg z363) := ⟨_, rfl⟩
              have hw : pw D A s.heap _ _ [wdP cs h r g tf ta pf na ma364 wa cf340 ca ef ea xf xa] := (by rw [hu_ma364]; exact hw)
              have hf1_ma364 : FrC p0.toInt (p0.toInt + 1) ma ma364 := (by rw [hu_ma364]; exact FrC.w FrC.rf (by first | with_reducible rfl | with_reducible assumption | omega) (by first | with_reducible rfl | with_reducible assumption | omega) (by first | with_reducible rfl | with_reducible assumption | omega))
              have han : Ann na ma0 ma364 := (by rw [hu_ma364]; exact Ann.w18 han (by first | with_reducible rfl | with_reducible assumption | omega))
              have hfc := hfc.tr hf1_ma364 (by first | with_reducible rfl | with_reducible assumption | omega) (by first | with_reducible rfl | with_reducible assumption | omega)
              have hv_18_p0 : ma364 18 p0.toNatClampNeg = z363 := (by rw [hu_ma364, va_up_s, pk_us])
              have hnhv_18_p0 : (ma364 18 p0.toNatClampNeg).toInt = z363.toInt := (by rw [hv_18_p0])
              have hcd1 : (-1 : Int) < 0 → cod (-1 : Int) v201.toInt = v201.toInt := fun h => cod_own h; have hcd2 : 0 ≤ (-1 : Int) → cod (-1 : Int) v201.toInt = 100 + (-1 : Int) := fun h => cod_fun h
              refine lv_iconst (v := 0) S.x S.b d_Mpg_checkCall_83 (by decide) ?_
              refine lv_istore (lv' := [(6, .int 0), (5, .int 0), (4, .int (-1)), (3, .int v201), (2, .int z199), (0, .ref h), (1, .int p0)]) S.x S.b d_Mpg_checkCall_84 hl (by decide) rfl (fun ls hl => ?_)
              refine lv_aload_n S.x S.b d_Mpg_checkCall_86 rfl (lv_at hl 5 rfl) ?_
              refine px_get S k_Mpg hT hw 0 0 17 (v := .ref (r 17)) rfl rfl rfl (by decide) m10_1 d_Mpg_checkCall_87 ?_
              refine lv_iload_n S.x S.b d_Mpg_checkCall_90 rfl (lv_at hl 6 rfl) ?_
              refine px_iald S hT hw 0 13 (n := 2100) (f := (na 17)) rfl gp_17 (x := p0) (vp_in_iff.mpr (by first | exact oz_a7e05de1cd hrg.2.2 hrg.2.1 g1 g2 | (constructor <;> omega))) d_Mpg_checkCall_91 ?_
              refine lv_topi (fun z365 ez365 => ?_)
              have lz365 := Int32.le_toInt z365
              have uz365 := Int32.toInt_lt z365
              have hrr := EcV.k3 hec_p0 (by first | with_reducible rfl | with_reducible assumption | omega) ez365
              refine lv_istore (lv' := [(7, .int z365), (6, .int 0), (5, .int 0), (4, .int (-1)), (3, .int v201), (2, .int z199), (0, .ref h), (1, .int p0)]) S.x S.b d_Mpg_checkCall_92 hl (by decide) rfl (fun ls hl => ?_)
              exact J94 ((hi - (p0.toInt + 1)).toNat + 1) ma364 cf340 (p0.toInt + 1) z199 v201 (-1) (0 : Int32) (0 : Int32) z365 _ _ ls (show KpE cf cf340 from hke) (show WrV cf340 (tf 6).toInt from hwr) (show (cf340 33).toInt = (cf 33).toInt from by first | exact e346 | omega) (show (cf340 38).toInt = (cf 38).toInt from by first | exact e347 | omega) (show (cf340 48).toInt = (cf 48).toInt from by first | exact e348 | omega) (show (cf340 46).toInt = (cf 46).toInt from by first | exact e349 | omega) (show (cf340 47).toInt = (cf 47).toInt from by first | exact e350 | omega) (show (cf340 57).toInt = (cf 57).toInt from by first | exact e351 | omega) (show Ann na ma0 ma364 from han) (show FrC lo hi ma ma364 from hfc) (show -1 ≤ v201.toInt from by first | exact e202 | omega) (show v201.toInt ≤ 9 from by first | exact e203 | omega) (show -1 ≤ (-1 : Int) from by first | decide | omega) (show (-1 : Int) < nf from by first | exact oz_46b89dfbf6 g8 | omega) (show 0 ≤ (0 : Int) from by first | decide | omega) (show (0 : Int) ≤ 1 from by first | decide | omega) (show (0 : Int) = 1 → (0 ≤ v201.toInt ∧ (-1 : Int) = -1) ∨ (v201.toInt < 0 ∧ 0 ≤ (-1 : Int)) from by first | with_reducible rfl | with_reducible assumption | omega) (show (0 : Int) = 0 → 1 ≤ (cf340 30).toInt from by first | with_reducible rfl | with_reducible assumption | omega) (show 0 ≤ (0 : Int) from by first | decide | omega) (show (0 : Int) + p0.toInt + 1 ≤ (p0.toInt + 1) from by first | exact oz_5323360a91 | omega) (show 0 ≤ z199.toInt from by first | exact rz199.1 | omega) (show z199.toInt < (tf 6).toInt from by first | exact oz_7fe81129bf rz199.2 | omega) (show p0.toInt + 1 ≤ (p0.toInt + 1) from by first | exact oz_a1bc7e1f12 | omega) (show (p0.toInt + 1) ≤ hi from by first | exact oz_8cd8185cc8 hrg.2.1 | omega) (show RcR ta (tf 6).toInt na ma0 d (p0.toInt + 1) hi z365 from hrr) (show KbI ma364 p0 (0 : Int) (cod (-1 : Int) v201.toInt) from (fun h => by first | with_reducible rfl | with_reducible assumption | omega)) (show ZTa cf340 (Gk ta ca na ma0 ns ys nf) na ma364 (p0.toInt + 1) (p0.toInt + 1) (cod (-1 : Int) v201.toInt) (na 17 p0.toNatClampNeg) z365 (0 : Int) from (fun _ => by rw [← ez365]; exact tya_0)) (show hi - (p0.toInt + 1) < ((((hi - (p0.toInt + 1)).toNat + 1 : Nat) : Int) : Int) from by first | exact oz_natlt | omega) hw (lv_sub hl [6, 7, 5, 4, 3, 2, 1, 0] rfl)
            · have nc362 : ¬ v201.toInt < (0 : Int) := mt (i_lt (x := v201) (y := 0)).mpr c362
              refine lv_iload_n S.x S.b d_Mpg_checkCall_73 rfl (lv_at hl 2 rfl) ?_
              refine lv_goto (tgt := 82) S.x S.b d_Mpg_checkCall_74 (by decide) ?_
              refine px_iast S hT hw 0 14 (n := 2100) (f := (ma 18)) (x := p0) (y := v201) rfl gp_18 (vp_in_iff.mpr (by constructor <;> omega)) d_Mpg_checkCall_82 (w' := wdP cs h r g tf ta pf na (va_up ma 18 (upd (ma 18) p0.toNatClampNeg v201)) wa cf340 ca ef ea xf xa) (ps' := [wdP cs h r g tf ta pf na (va_up ma 18 (upd (ma 18) p0.toNatClampNeg v201)) wa cf340 ca ef ea xf xa]) sp_18 rfl (fun H locs hw => ?_)
              obtain ⟨ma366, hu_ma366⟩ : ∃ y : Nat → Nat → Int32, y = va_up ma 18 (upd (ma 18) p0.toNatClampNeg v201) := ⟨_, rfl⟩
              have hw : pw D A s.heap _ _ [wdP cs h r g tf ta pf na ma366 wa cf340 ca ef ea xf xa] := (by rw [hu_ma366]; exact hw)
              have hf1_ma366 : FrC p0.toInt (p0.toInt + 1) ma ma366 := (by rw [hu_ma366]; exact FrC.w FrC.rf (by first | with_reducible rfl | with_reducible assumption | omega) (by first | with_reducible rfl | with_reducible assumption | omega) (by first | with_reducible rfl | with_reducible assumption | omega))
              have han : Ann na ma0 ma366 := (by rw [hu_ma366]; exact Ann.w18 han (by first | with_reducible rfl | with_reducible assumption | omega))
              have hfc := hfc.tr hf1_ma366 (by first | with_reducible rfl | with_reducible assumption | omega) (by first | with_reducible rfl | with_reducible assumption | omega)
              have hv_18_p0 : ma366 18 p0.toNatClampNeg = v201 := (by rw [hu_ma366, va_up_s, pk_us])
              have hnhv_18_p0 : (ma366 18 p0.toNatClampNeg).toInt = v201.toInt := (by rw [hv_18_p0])
              have hcd1 : (-1 : Int) < 0 → cod (-1 : Int) v201.toInt = v201.toInt := fun h => cod_own h; have hcd2 : 0 ≤ (-1 : Int) → cod (-1 : Int) v201.toInt = 100 + (-1 : Int) := fun h => cod_fun h
              refine lv_iconst (v := 0) S.x S.b d_Mpg_checkCall_83 (by decide) ?_
              refine lv_istore (lv' := [(6, .int 0), (5, .int 0), (4, .int (-1)), (3, .int v201), (2, .int z199), (0, .ref h), (1, .int p0)]) S.x S.b d_Mpg_checkCall_84 hl (by decide) rfl (fun ls hl => ?_)
              refine lv_aload_n S.x S.b d_Mpg_checkCall_86 rfl (lv_at hl 5 rfl) ?_
              refine px_get S k_Mpg hT hw 0 0 17 (v := .ref (r 17)) rfl rfl rfl (by decide) m10_1 d_Mpg_checkCall_87 ?_
              refine lv_iload_n S.x S.b d_Mpg_checkCall_90 rfl (lv_at hl 6 rfl) ?_
              refine px_iald S hT hw 0 13 (n := 2100) (f := (na 17)) rfl gp_17 (x := p0) (vp_in_iff.mpr (by first | exact oz_a7e05de1cd hrg.2.2 hrg.2.1 g1 g2 | (constructor <;> omega))) d_Mpg_checkCall_91 ?_
              refine lv_topi (fun z367 ez367 => ?_)
              have lz367 := Int32.le_toInt z367
              have uz367 := Int32.toInt_lt z367
              have hrr := EcV.k3 hec_p0 (by first | with_reducible rfl | with_reducible assumption | omega) ez367
              refine lv_istore (lv' := [(7, .int z367), (6, .int 0), (5, .int 0), (4, .int (-1)), (3, .int v201), (2, .int z199), (0, .ref h), (1, .int p0)]) S.x S.b d_Mpg_checkCall_92 hl (by decide) rfl (fun ls hl => ?_)
              exact J94 ((hi - (p0.toInt + 1)).toNat + 1) ma366 cf340 (p0.toInt + 1) z199 v201 (-1) (0 : Int32) (0 : Int32) z367 _ _ ls (show KpE cf cf340 from hke) (show WrV cf340 (tf 6).toInt from hwr) (show (cf340 33).toInt = (cf 33).toInt from by first | exact e346 | omega) (show (cf340 38).toInt = (cf 38).toInt from by first | exact e347 | omega) (show (cf340 48).toInt = (cf 48).toInt from by first | exact e348 | omega) (show (cf340 46).toInt = (cf 46).toInt from by first | exact e349 | omega) (show (cf340 47).toInt = (cf 47).toInt from by first | exact e350 | omega) (show (cf340 57).toInt = (cf 57).toInt from by first | exact e351 | omega) (show Ann na ma0 ma366 from han) (show FrC lo hi ma ma366 from hfc) (show -1 ≤ v201.toInt from by first | exact e202 | omega) (show v201.toInt ≤ 9 from by first | exact e203 | omega) (show -1 ≤ (-1 : Int) from by first | decide | omega) (show (-1 : Int) < nf from by first | exact oz_46b89dfbf6 g8 | omega) (show 0 ≤ (0 : Int) from by first | decide | omega) (show (0 : Int) ≤ 1 from by first | decide | omega) (show (0 : Int) = 1 → (0 ≤ v201.toInt ∧ (-1 : Int) = -1) ∨ (v201.toInt < 0 ∧ 0 ≤ (-1 : Int)) from by first | with_reducible rfl | with_reducible assumption | omega) (show (0 : Int) = 0 → 1 ≤ (cf340 30).toInt from by first | with_reducible rfl | with_reducible assumption | omega) (show 0 ≤ (0 : Int) from by first | decide | omega) (show (0 : Int) + p0.toInt + 1 ≤ (p0.toInt + 1) from by first | exact oz_5323360a91 | omega) (show 0 ≤ z199.toInt from by first | exact rz199.1 | omega) (show z199.toInt < (tf 6).toInt from by first | exact oz_7fe81129bf rz199.2 | omega) (show p0.toInt + 1 ≤ (p0.toInt + 1) from by first | exact oz_a1bc7e1f12 | omega) (show (p0.toInt + 1) ≤ hi from by first | exact oz_8cd8185cc8 hrg.2.1 | omega) (show RcR ta (tf 6).toInt na ma0 d (p0.toInt + 1) hi z367 from hrr) (show KbI ma366 p0 (0 : Int) (cod (-1 : Int) v201.toInt) from (fun h => by first | with_reducible rfl | with_reducible assumption | omega)) (show ZTa cf340 (Gk ta ca na ma0 ns ys nf) na ma366 (p0.toInt + 1) (p0.toInt + 1) (cod (-1 : Int) v201.toInt) (na 17 p0.toNatClampNeg) z367 (0 : Int) from (fun _ => by rw [← ez367]; exact tya_0)) (show hi - (p0.toInt + 1) < ((((hi - (p0.toInt + 1)).toNat + 1 : Nat) : Int) : Int) from by first | exact oz_natlt | omega) hw (lv_sub hl [6, 7, 5, 4, 3, 2, 1, 0] rfl)
        · exact absurd c337 (by decide)
