theorem oz_7621ce4cd5 {a0 : Int} (h0 : a0 < 62000) : a0 < 62500 := by omega
theorem oz_fc62deb105 {a0 : Int} {n1 : Nat} (h0 : (n1 : Int) = a0) (h1 : a0 ≤ 42) : 0 ≤ a0 ∧ a0 < ((43 : Nat) : Int) := by omega
theorem oz_a1e339bdbc {a1 : Int} {n0 : Nat} (h0 : a1 = (n0 : Int)) (h1 : a1 = (2 : Int)) : (1 : Int) < (n0 : Int) := by omega
theorem m13_158 : Cond.methodLink "HomeSystemModel$Process" 105 ⟨"HomeSystemModel$Process", "give", "(I)V"⟩ ∈ AL := AL_13 (List.mem_of_getElem? (i := 158) rfl) rfl
theorem m13_161 : Cond.code ⟨"HomeSystemModel$Process", "give", "(I)V"⟩ prog_15_method_5_code 2 (Option.none : Option Jvm.ClassFile.FieldType) ∈ AL := AL_13 (List.mem_of_getElem? (i := 161) rfl) rfl
theorem m13_160 : Cond.selects "HomeSystemModel$Process" ⟨"HomeSystemModel$Process", "give", "(I)V"⟩ ⟨"HomeSystemModel$Process", "give", "(I)V"⟩ ∈ AL := AL_13 (List.mem_of_getElem? (i := 160) rfl) rfl
theorem m13_159 : Cond.instanceMethod ⟨"HomeSystemModel$Process", "give", "(I)V"⟩ ∈ AL := AL_13 (List.mem_of_getElem? (i := 159) rfl) rfl
theorem m9_225n : Cond.fieldLinkNest "HomeSystemModel$Process" 173 "HomeSystemModel$Program" "marks" "[Ljava/lang/String;" "HomeSystemModel" ∈ tables_1 := by unfold tables_1; exact List.mem_append_right _ (List.mem_append_right _ (List.mem_append_right _ (List.mem_append_right _ (List.mem_append_right _ (List.mem_append_right _ (List.mem_append_right _ (List.mem_append_right _ (List.mem_append_left _ (List.mem_of_getElem? (i := 225) rfl)))))))))
theorem m14_152 : Cond.methodLink "HomeSystemModel$Process" 177 ⟨"java/lang/String", "charAt", "(I)C"⟩ ∈ AL := AL_14 (List.mem_of_getElem? (i := 152) rfl) rfl
theorem m14_153 : Cond.methodLink "HomeSystemModel$Process" 183 ⟨"java/lang/String", "length", "()I"⟩ ∈ AL := AL_14 (List.mem_of_getElem? (i := 153) rfl) rfl
theorem m14_155 : Cond.methodLink "HomeSystemModel$Process" 188 ⟨"java/lang/String", "equals", "(Ljava/lang/Object;)Z"⟩ ∈ AL := AL_14 (List.mem_of_getElem? (i := 155) rfl) rfl
/-! two strings of the process -/
def litW : List (Nat × String × Nat) := [(186, "<<", 2), (192, ">>", 2)]
def oLW (A : Nat → Prop) (U : State) (H : Heap) : Prop := ∀ q ∈ litW, ∃ sk, vk_R "HomeSystemModel$Process" q.1 q.2.1 sk U ∧ StS A sk q.2.2 U H
theorem oG_LW : oG (fun A U H => oLW A U H) := oG_all fun _ => oG_all fun _ => oG_ex fun _ => oG_and oG_L oG_Q
theorem oLW_lit {A : Nat → Prop} {U : State} {H : Heap} (h : oLW A U H) {k : Nat} {tx : String} {n : Nat} (hk : (k, tx, n) ∈ litW) : ∃ sk, vk_R "HomeSystemModel$Process" k tx sk U ∧ ∃ (st : Nat) (sb : Nat → Int32), oS A sk st n sb U H := h _ hk
abbrev b_Mpr_two : ByteArray := prog_15_method_18_code
def y_Mpr_two : MethodName := ⟨"HomeSystemModel$Process", "two", "(III)V"⟩
theorem d_Mpr_two_0 : decode b_Mpr_two 0 = .ok (.aload_n 0, 1) := by decide +kernel
theorem d_Mpr_two_1 : decode b_Mpr_two 1 = .ok (.getfield 52, 3) := by decide +kernel
theorem d_Mpr_two_4 : decode b_Mpr_two 4 = .ok (.getfield 173, 3) := by decide +kernel
theorem d_Mpr_two_7 : decode b_Mpr_two 7 = .ok (.iload_n 1, 1) := by decide +kernel
theorem d_Mpr_two_8 : decode b_Mpr_two 8 = .ok (.aaload, 1) := by decide +kernel
theorem d_Mpr_two_9 : decode b_Mpr_two 9 = .ok (.astore 4, 2) := by decide +kernel
theorem d_Mpr_two_11 : decode b_Mpr_two 11 = .ok (.aload 4, 2) := by decide +kernel
theorem d_Mpr_two_13 : decode b_Mpr_two 13 = .ok (.iconst 0, 1) := by decide +kernel
theorem d_Mpr_two_14 : decode b_Mpr_two 14 = .ok (.invokevirtual 177, 3) := by decide +kernel
theorem d_Mpr_two_17 : decode b_Mpr_two 17 = .ok (.istore 5, 2) := by decide +kernel
theorem d_Mpr_two_19 : decode b_Mpr_two 19 = .ok (.aload 4, 2) := by decide +kernel
theorem d_Mpr_two_21 : decode b_Mpr_two 21 = .ok (.invokevirtual 183, 3) := by decide +kernel
theorem d_Mpr_two_24 : decode b_Mpr_two 24 = .ok (.iconst 2, 1) := by decide +kernel
theorem d_Mpr_two_25 : decode b_Mpr_two 25 = .ok (.if_icmp .ne 137, 3) := by decide +kernel
theorem d_Mpr_two_28 : decode b_Mpr_two 28 = .ok (.iload 5, 2) := by decide +kernel
theorem d_Mpr_two_30 : decode b_Mpr_two 30 = .ok (.bipush 61, 2) := by decide +kernel
theorem d_Mpr_two_32 : decode b_Mpr_two 32 = .ok (.if_icmp .ne 16, 3) := by decide +kernel
theorem d_Mpr_two_35 : decode b_Mpr_two 35 = .ok (.iload_n 2, 1) := by decide +kernel
theorem d_Mpr_two_36 : decode b_Mpr_two 36 = .ok (.iload_n 3, 1) := by decide +kernel
theorem d_Mpr_two_37 : decode b_Mpr_two 37 = .ok (.if_icmp .ne 7, 3) := by decide +kernel
theorem d_Mpr_two_40 : decode b_Mpr_two 40 = .ok (.iconst 1, 1) := by decide +kernel
theorem d_Mpr_two_41 : decode b_Mpr_two 41 = .ok (.goto 72, 3) := by decide +kernel
theorem d_Mpr_two_44 : decode b_Mpr_two 44 = .ok (.iconst 0, 1) := by decide +kernel
theorem d_Mpr_two_45 : decode b_Mpr_two 45 = .ok (.goto 68, 3) := by decide +kernel
theorem d_Mpr_two_48 : decode b_Mpr_two 48 = .ok (.iload 5, 2) := by decide +kernel
theorem d_Mpr_two_50 : decode b_Mpr_two 50 = .ok (.bipush 33, 2) := by decide +kernel
theorem d_Mpr_two_52 : decode b_Mpr_two 52 = .ok (.if_icmp .ne 16, 3) := by decide +kernel
theorem d_Mpr_two_55 : decode b_Mpr_two 55 = .ok (.iload_n 2, 1) := by decide +kernel
theorem d_Mpr_two_56 : decode b_Mpr_two 56 = .ok (.iload_n 3, 1) := by decide +kernel
theorem d_Mpr_two_57 : decode b_Mpr_two 57 = .ok (.if_icmp .eq 7, 3) := by decide +kernel
theorem d_Mpr_two_60 : decode b_Mpr_two 60 = .ok (.iconst 1, 1) := by decide +kernel
theorem d_Mpr_two_61 : decode b_Mpr_two 61 = .ok (.goto 52, 3) := by decide +kernel
theorem d_Mpr_two_64 : decode b_Mpr_two 64 = .ok (.iconst 0, 1) := by decide +kernel
theorem d_Mpr_two_65 : decode b_Mpr_two 65 = .ok (.goto 48, 3) := by decide +kernel
theorem d_Mpr_two_68 : decode b_Mpr_two 68 = .ok (.aload 4, 2) := by decide +kernel
theorem d_Mpr_two_70 : decode b_Mpr_two 70 = .ok (.iconst 1, 1) := by decide +kernel
theorem d_Mpr_two_71 : decode b_Mpr_two 71 = .ok (.invokevirtual 177, 3) := by decide +kernel
theorem d_Mpr_two_74 : decode b_Mpr_two 74 = .ok (.bipush 61, 2) := by decide +kernel
theorem d_Mpr_two_76 : decode b_Mpr_two 76 = .ok (.if_icmp .eq 7, 3) := by decide +kernel
theorem d_Mpr_two_79 : decode b_Mpr_two 79 = .ok (.iconst 0, 1) := by decide +kernel
theorem d_Mpr_two_80 : decode b_Mpr_two 80 = .ok (.goto 33, 3) := by decide +kernel
theorem d_Mpr_two_83 : decode b_Mpr_two 83 = .ok (.iload 5, 2) := by decide +kernel
theorem d_Mpr_two_85 : decode b_Mpr_two 85 = .ok (.bipush 60, 2) := by decide +kernel
theorem d_Mpr_two_87 : decode b_Mpr_two 87 = .ok (.if_icmp .ne 16, 3) := by decide +kernel
theorem d_Mpr_two_90 : decode b_Mpr_two 90 = .ok (.iload_n 2, 1) := by decide +kernel
theorem d_Mpr_two_91 : decode b_Mpr_two 91 = .ok (.iload_n 3, 1) := by decide +kernel
theorem d_Mpr_two_92 : decode b_Mpr_two 92 = .ok (.if_icmp .gt 7, 3) := by decide +kernel
theorem d_Mpr_two_95 : decode b_Mpr_two 95 = .ok (.iconst 1, 1) := by decide +kernel
theorem d_Mpr_two_96 : decode b_Mpr_two 96 = .ok (.goto 17, 3) := by decide +kernel
theorem d_Mpr_two_99 : decode b_Mpr_two 99 = .ok (.iconst 0, 1) := by decide +kernel
theorem d_Mpr_two_100 : decode b_Mpr_two 100 = .ok (.goto 13, 3) := by decide +kernel
theorem d_Mpr_two_103 : decode b_Mpr_two 103 = .ok (.iload_n 2, 1) := by decide +kernel
theorem d_Mpr_two_104 : decode b_Mpr_two 104 = .ok (.iload_n 3, 1) := by decide +kernel
theorem d_Mpr_two_105 : decode b_Mpr_two 105 = .ok (.if_icmp .lt 7, 3) := by decide +kernel
theorem d_Mpr_two_108 : decode b_Mpr_two 108 = .ok (.iconst 1, 1) := by decide +kernel
theorem d_Mpr_two_109 : decode b_Mpr_two 109 = .ok (.goto 4, 3) := by decide +kernel
theorem d_Mpr_two_112 : decode b_Mpr_two 112 = .ok (.iconst 0, 1) := by decide +kernel
theorem d_Mpr_two_113 : decode b_Mpr_two 113 = .ok (.istore 6, 2) := by decide +kernel
theorem d_Mpr_two_115 : decode b_Mpr_two 115 = .ok (.aload_n 0, 1) := by decide +kernel
theorem d_Mpr_two_116 : decode b_Mpr_two 116 = .ok (.aload 4, 2) := by decide +kernel
theorem d_Mpr_two_118 : decode b_Mpr_two 118 = .ok (.ldc 186, 2) := by decide +kernel
theorem d_Mpr_two_120 : decode b_Mpr_two 120 = .ok (.invokevirtual 188, 3) := by decide +kernel
theorem d_Mpr_two_123 : decode b_Mpr_two 123 = .ok (.ifCond .eq 9, 3) := by decide +kernel
theorem d_Mpr_two_126 : decode b_Mpr_two 126 = .ok (.iload_n 2, 1) := by decide +kernel
theorem d_Mpr_two_127 : decode b_Mpr_two 127 = .ok (.iload_n 3, 1) := by decide +kernel
theorem d_Mpr_two_128 : decode b_Mpr_two 128 = .ok (.ishl, 1) := by decide +kernel
theorem d_Mpr_two_129 : decode b_Mpr_two 129 = .ok (.goto 29, 3) := by decide +kernel
theorem d_Mpr_two_132 : decode b_Mpr_two 132 = .ok (.aload 4, 2) := by decide +kernel
theorem d_Mpr_two_134 : decode b_Mpr_two 134 = .ok (.ldc 192, 2) := by decide +kernel
theorem d_Mpr_two_136 : decode b_Mpr_two 136 = .ok (.invokevirtual 188, 3) := by decide +kernel
theorem d_Mpr_two_139 : decode b_Mpr_two 139 = .ok (.ifCond .eq 9, 3) := by decide +kernel
theorem d_Mpr_two_142 : decode b_Mpr_two 142 = .ok (.iload_n 2, 1) := by decide +kernel
theorem d_Mpr_two_143 : decode b_Mpr_two 143 = .ok (.iload_n 3, 1) := by decide +kernel
theorem d_Mpr_two_144 : decode b_Mpr_two 144 = .ok (.ishr, 1) := by decide +kernel
theorem d_Mpr_two_145 : decode b_Mpr_two 145 = .ok (.goto 13, 3) := by decide +kernel
theorem d_Mpr_two_148 : decode b_Mpr_two 148 = .ok (.iload 6, 2) := by decide +kernel
theorem d_Mpr_two_150 : decode b_Mpr_two 150 = .ok (.ifCond .eq 7, 3) := by decide +kernel
theorem d_Mpr_two_153 : decode b_Mpr_two 153 = .ok (.iconst 1, 1) := by decide +kernel
theorem d_Mpr_two_154 : decode b_Mpr_two 154 = .ok (.goto 4, 3) := by decide +kernel
theorem d_Mpr_two_157 : decode b_Mpr_two 157 = .ok (.iconst 0, 1) := by decide +kernel
theorem d_Mpr_two_158 : decode b_Mpr_two 158 = .ok (.invokevirtual 105, 3) := by decide +kernel
theorem d_Mpr_two_161 : decode b_Mpr_two 161 = .ok (.return_, 1) := by decide +kernel
theorem d_Mpr_two_162 : decode b_Mpr_two 162 = .ok (.iload 5, 2) := by decide +kernel
theorem d_Mpr_two_164 : decode b_Mpr_two 164 = .ok (.bipush 47, 2) := by decide +kernel
theorem d_Mpr_two_166 : decode b_Mpr_two 166 = .ok (.if_icmp .eq 10, 3) := by decide +kernel
theorem d_Mpr_two_169 : decode b_Mpr_two 169 = .ok (.iload 5, 2) := by decide +kernel
theorem d_Mpr_two_171 : decode b_Mpr_two 171 = .ok (.bipush 37, 2) := by decide +kernel
theorem d_Mpr_two_173 : decode b_Mpr_two 173 = .ok (.if_icmp .ne 14, 3) := by decide +kernel
theorem d_Mpr_two_176 : decode b_Mpr_two 176 = .ok (.iload_n 3, 1) := by decide +kernel
theorem d_Mpr_two_177 : decode b_Mpr_two 177 = .ok (.ifCond .ne 10, 3) := by decide +kernel
theorem d_Mpr_two_180 : decode b_Mpr_two 180 = .ok (.aload_n 0, 1) := by decide +kernel
theorem d_Mpr_two_181 : decode b_Mpr_two 181 = .ok (.iconst 3, 1) := by decide +kernel
theorem d_Mpr_two_182 : decode b_Mpr_two 182 = .ok (.iconst 0, 1) := by decide +kernel
theorem d_Mpr_two_183 : decode b_Mpr_two 183 = .ok (.invokevirtual 134, 3) := by decide +kernel
theorem d_Mpr_two_186 : decode b_Mpr_two 186 = .ok (.return_, 1) := by decide +kernel
theorem d_Mpr_two_187 : decode b_Mpr_two 187 = .ok (.aload_n 0, 1) := by decide +kernel
theorem d_Mpr_two_188 : decode b_Mpr_two 188 = .ok (.iload 5, 2) := by decide +kernel
theorem d_Mpr_two_190 : decode b_Mpr_two 190 = .ok (.bipush 43, 2) := by decide +kernel
theorem d_Mpr_two_192 : decode b_Mpr_two 192 = .ok (.if_icmp .ne 9, 3) := by decide +kernel
theorem d_Mpr_two_195 : decode b_Mpr_two 195 = .ok (.iload_n 2, 1) := by decide +kernel
theorem d_Mpr_two_196 : decode b_Mpr_two 196 = .ok (.iload_n 3, 1) := by decide +kernel
theorem d_Mpr_two_197 : decode b_Mpr_two 197 = .ok (.iadd, 1) := by decide +kernel
theorem d_Mpr_two_198 : decode b_Mpr_two 198 = .ok (.goto 119, 3) := by decide +kernel
theorem d_Mpr_two_201 : decode b_Mpr_two 201 = .ok (.iload 5, 2) := by decide +kernel
theorem d_Mpr_two_203 : decode b_Mpr_two 203 = .ok (.bipush 45, 2) := by decide +kernel
theorem d_Mpr_two_205 : decode b_Mpr_two 205 = .ok (.if_icmp .ne 9, 3) := by decide +kernel
theorem d_Mpr_two_208 : decode b_Mpr_two 208 = .ok (.iload_n 2, 1) := by decide +kernel
theorem d_Mpr_two_209 : decode b_Mpr_two 209 = .ok (.iload_n 3, 1) := by decide +kernel
theorem d_Mpr_two_210 : decode b_Mpr_two 210 = .ok (.isub, 1) := by decide +kernel
theorem d_Mpr_two_211 : decode b_Mpr_two 211 = .ok (.goto 106, 3) := by decide +kernel
theorem d_Mpr_two_214 : decode b_Mpr_two 214 = .ok (.iload 5, 2) := by decide +kernel
theorem d_Mpr_two_216 : decode b_Mpr_two 216 = .ok (.bipush 42, 2) := by decide +kernel
theorem d_Mpr_two_218 : decode b_Mpr_two 218 = .ok (.if_icmp .ne 9, 3) := by decide +kernel
theorem d_Mpr_two_221 : decode b_Mpr_two 221 = .ok (.iload_n 2, 1) := by decide +kernel
theorem d_Mpr_two_222 : decode b_Mpr_two 222 = .ok (.iload_n 3, 1) := by decide +kernel
theorem d_Mpr_two_223 : decode b_Mpr_two 223 = .ok (.imul, 1) := by decide +kernel
theorem d_Mpr_two_224 : decode b_Mpr_two 224 = .ok (.goto 93, 3) := by decide +kernel
theorem d_Mpr_two_227 : decode b_Mpr_two 227 = .ok (.iload 5, 2) := by decide +kernel
theorem d_Mpr_two_229 : decode b_Mpr_two 229 = .ok (.bipush 47, 2) := by decide +kernel
theorem d_Mpr_two_231 : decode b_Mpr_two 231 = .ok (.if_icmp .ne 9, 3) := by decide +kernel
theorem d_Mpr_two_234 : decode b_Mpr_two 234 = .ok (.iload_n 2, 1) := by decide +kernel
theorem d_Mpr_two_235 : decode b_Mpr_two 235 = .ok (.iload_n 3, 1) := by decide +kernel
theorem d_Mpr_two_236 : decode b_Mpr_two 236 = .ok (.idiv, 1) := by decide +kernel
theorem d_Mpr_two_237 : decode b_Mpr_two 237 = .ok (.goto 80, 3) := by decide +kernel
theorem d_Mpr_two_240 : decode b_Mpr_two 240 = .ok (.iload 5, 2) := by decide +kernel
theorem d_Mpr_two_242 : decode b_Mpr_two 242 = .ok (.bipush 37, 2) := by decide +kernel
theorem d_Mpr_two_244 : decode b_Mpr_two 244 = .ok (.if_icmp .ne 9, 3) := by decide +kernel
theorem d_Mpr_two_247 : decode b_Mpr_two 247 = .ok (.iload_n 2, 1) := by decide +kernel
theorem d_Mpr_two_248 : decode b_Mpr_two 248 = .ok (.iload_n 3, 1) := by decide +kernel
theorem d_Mpr_two_249 : decode b_Mpr_two 249 = .ok (.irem, 1) := by decide +kernel
theorem d_Mpr_two_250 : decode b_Mpr_two 250 = .ok (.goto 67, 3) := by decide +kernel
theorem d_Mpr_two_253 : decode b_Mpr_two 253 = .ok (.iload 5, 2) := by decide +kernel
theorem d_Mpr_two_255 : decode b_Mpr_two 255 = .ok (.bipush 38, 2) := by decide +kernel
theorem d_Mpr_two_257 : decode b_Mpr_two 257 = .ok (.if_icmp .ne 9, 3) := by decide +kernel
theorem d_Mpr_two_260 : decode b_Mpr_two 260 = .ok (.iload_n 2, 1) := by decide +kernel
theorem d_Mpr_two_261 : decode b_Mpr_two 261 = .ok (.iload_n 3, 1) := by decide +kernel
theorem d_Mpr_two_262 : decode b_Mpr_two 262 = .ok (.iand, 1) := by decide +kernel
theorem d_Mpr_two_263 : decode b_Mpr_two 263 = .ok (.goto 54, 3) := by decide +kernel
theorem d_Mpr_two_266 : decode b_Mpr_two 266 = .ok (.iload 5, 2) := by decide +kernel
theorem d_Mpr_two_268 : decode b_Mpr_two 268 = .ok (.bipush 124, 2) := by decide +kernel
theorem d_Mpr_two_270 : decode b_Mpr_two 270 = .ok (.if_icmp .ne 9, 3) := by decide +kernel
theorem d_Mpr_two_273 : decode b_Mpr_two 273 = .ok (.iload_n 2, 1) := by decide +kernel
theorem d_Mpr_two_274 : decode b_Mpr_two 274 = .ok (.iload_n 3, 1) := by decide +kernel
theorem d_Mpr_two_275 : decode b_Mpr_two 275 = .ok (.ior, 1) := by decide +kernel
theorem d_Mpr_two_276 : decode b_Mpr_two 276 = .ok (.goto 41, 3) := by decide +kernel
theorem d_Mpr_two_279 : decode b_Mpr_two 279 = .ok (.iload 5, 2) := by decide +kernel
theorem d_Mpr_two_281 : decode b_Mpr_two 281 = .ok (.bipush 94, 2) := by decide +kernel
theorem d_Mpr_two_283 : decode b_Mpr_two 283 = .ok (.if_icmp .ne 9, 3) := by decide +kernel
theorem d_Mpr_two_286 : decode b_Mpr_two 286 = .ok (.iload_n 2, 1) := by decide +kernel
theorem d_Mpr_two_287 : decode b_Mpr_two 287 = .ok (.iload_n 3, 1) := by decide +kernel
theorem d_Mpr_two_288 : decode b_Mpr_two 288 = .ok (.ixor, 1) := by decide +kernel
theorem d_Mpr_two_289 : decode b_Mpr_two 289 = .ok (.goto 28, 3) := by decide +kernel
theorem d_Mpr_two_292 : decode b_Mpr_two 292 = .ok (.iload 5, 2) := by decide +kernel
theorem d_Mpr_two_294 : decode b_Mpr_two 294 = .ok (.bipush 60, 2) := by decide +kernel
theorem d_Mpr_two_296 : decode b_Mpr_two 296 = .ok (.if_icmp .ne 11, 3) := by decide +kernel
theorem d_Mpr_two_299 : decode b_Mpr_two 299 = .ok (.iload_n 2, 1) := by decide +kernel
theorem d_Mpr_two_300 : decode b_Mpr_two 300 = .ok (.iload_n 3, 1) := by decide +kernel
theorem d_Mpr_two_301 : decode b_Mpr_two 301 = .ok (.if_icmp .ge 15, 3) := by decide +kernel
theorem d_Mpr_two_304 : decode b_Mpr_two 304 = .ok (.goto 8, 3) := by decide +kernel
theorem d_Mpr_two_307 : decode b_Mpr_two 307 = .ok (.iload_n 2, 1) := by decide +kernel
theorem d_Mpr_two_308 : decode b_Mpr_two 308 = .ok (.iload_n 3, 1) := by decide +kernel
theorem d_Mpr_two_309 : decode b_Mpr_two 309 = .ok (.if_icmp .le 7, 3) := by decide +kernel
theorem d_Mpr_two_312 : decode b_Mpr_two 312 = .ok (.iconst 1, 1) := by decide +kernel
theorem d_Mpr_two_313 : decode b_Mpr_two 313 = .ok (.goto 4, 3) := by decide +kernel
theorem d_Mpr_two_316 : decode b_Mpr_two 316 = .ok (.iconst 0, 1) := by decide +kernel
theorem d_Mpr_two_317 : decode b_Mpr_two 317 = .ok (.invokevirtual 105, 3) := by decide +kernel
theorem d_Mpr_two_320 : decode b_Mpr_two 320 = .ok (.return_, 1) := by decide +kernel
theorem q_Mpr_two : px_y y_Mpr_two 3 := by unfold px_y; decide +kernel
set_option maxHeartbeats 4000000 in
set_option maxRecDepth 100000 in
theorem c_mr_two (l : Launch) (D : va_G) (cs : Nat → ClassId) (nf : Int) (q : Nat) (qr : Nat → Nat) (qg : Nat → Nat → Option Nat) (qf : Nat → Int32) (qa : Nat → Nat → Int32) (h : Nat) (r : Nat → Nat) (g : Nat → Nat → Option Nat) (tf : Nat → Int32) (ta : Nat → Nat → Int32) (pf : Nat → Int32) (na : Nat → Nat → Int32) (ma : Nat → Nat → Int32) (wa : Nat → Nat → Int32) (cf : Nat → Int32) (ca : Nat → Nat → Int32) (ef : Nat → Int32) (ea : Nat → Nat → Int32) (xf : Nat → Int32) (xa : Nat → Nat → Int32) (p0 p1 p2 : Int32)  (g0 : 0 ≤ p0.toInt) (g1 : p0.toInt ≤ 42) (g2 : 0 ≤ (qf 10).toInt) (g3 : (qf 10).toInt < 62000) : MetV l y_Mpr_two b_Mpr_two 7 D cs 6 200 (0) (0) [.ref q, .int p0, .int p1, .int p2] [wd_Mpr cs q qr (fun k => if k = 0 then (some h) else none) qf qa qg, wdP cs h r g tf ta pf na ma wa cf ca ef ea xf xa] (oX (fun A U H => (oP A g U H) ∧ (oLW A U H)) [wd_Mpr cs q qr (fun k => if k = 0 then (some h) else none) qf qa qg, wdP cs h r g tf ta pf na ma wa cf ca ef ea xf xa]) (fun ps => ∃ (qf' : Nat → Int32) (qa' : Nat → Nat → Int32), (ps = [wd_Mpr cs q qr (fun k => if k = 0 then (some h) else none) qf' qa' qg, wdP cs h r g tf ta pf na ma wa cf ca ef ea xf xa]) ∧ (TwO (qf' 2).toInt (qf 2).toInt (qf' 10).toInt (qf 10).toInt) ∧ ((qf' 1).toInt = (qf 1).toInt) ∧ ((qf' 4).toInt = (qf 4).toInt) ∧ ((qf' 5).toInt = (qf 5).toInt) ∧ ((qf' 6).toInt = (qf 6).toInt) ∧ ((qf' 7).toInt = (qf 7).toInt) ∧ ((qf' 11).toInt = (qf 11).toInt) ∧ ((qf' 12).toInt = (qf 12).toInt) ∧ ((qf' 13).toInt = (qf 13).toInt) ∧ ((qf' 14).toInt = (qf 14).toInt) ∧ ((qf' 21).toInt = (qf 21).toInt) ∧ ((qf' 23).toInt = (qf 23).toInt) ∧ ((qf' 24).toInt = (qf 24).toInt) ∧ (WrU qa qa' (qf 10).toInt (-1))) := by
  refine px_enter (by decide) (Nat.le_of_ble_eq_true rfl) ?_
  intro p e s m below meth c A ls hAe S hr hlk hnm hA hT hX hw hl
  have hl : lv_has ls 7 [(0, .ref q), (1, .int p0), (2, .int p1), (3, .int p2)] := hl
  have lp0 := Int32.le_toInt p0
  have up0 := Int32.toInt_lt p0
  have lp1 := Int32.le_toInt p1
  have up1 := Int32.toInt_lt p1
  have lp2 := Int32.le_toInt p2
  have up2 := Int32.toInt_lt p2
  have cst0 : (0 : Int32).toInt = 0 := rfl
  have cst1 : (1 : Int32).toInt = 1 := rfl
  have cst2 : (2 : Int32).toInt = 2 := rfl
  have cst3 : (3 : Int32).toInt = 3 := rfl
  have cst33 : (33 : Int32).toInt = 33 := rfl
  have cst37 : (37 : Int32).toInt = 37 := rfl
  have cst38 : (38 : Int32).toInt = 38 := rfl
  have cst42 : (42 : Int32).toInt = 42 := rfl
  have cst43 : (43 : Int32).toInt = 43 := rfl
  have cst45 : (45 : Int32).toInt = 45 := rfl
  have cst47 : (47 : Int32).toInt = 47 := rfl
  have cst60 : (60 : Int32).toInt = 60 := rfl
  have cst61 : (61 : Int32).toInt = 61 := rfl
  have cst94 : (94 : Int32).toInt = 94 := rfl
  have cst124 : (124 : Int32).toInt = 124 := rfl
  have hX : (fun A U H => (oP A g U H) ∧ (oLW A U H)) A s s.heap := by rw [hAe]; exact hX
  obtain ⟨hP, hSh⟩ := hX
  have hZ := hP.1
  have hF0 := hP.2.1
  have J187 : ∀  (x187_5 : Int32) (H : Heap) (locs : List Loc) (ls : Array Slot), (x187_5.toInt = 47 → p2.toInt ≠ 0) → (x187_5.toInt = 37 → p2.toInt ≠ 0) → pw D A s.heap H locs [wd_Mpr cs q qr (fun k => if k = 0 then (some h) else none) qf qa qg, wdP cs h r g tf ta pf na ma wa cf ca ef ea xf xa] → lv_has ls 7 [(0, .ref q), (1, .int p0), (2, .int p1), (3, .int p2), (5, .int x187_5)] → W p l e { frames := 6, cells := 0, slots := 0, locals := 200 } s m [.ref q, .int p0, .int p1, .int p2].toArray below meth c H locs 0 0 (MQ below (va_Qv (fun ps => ∃ (qf' : Nat → Int32) (qa' : Nat → Nat → Int32), (ps = [wd_Mpr cs q qr (fun k => if k = 0 then (some h) else none) qf' qa' qg, wdP cs h r g tf ta pf na ma wa cf ca ef ea xf xa]) ∧ (TwO (qf' 2).toInt (qf 2).toInt (qf' 10).toInt (qf 10).toInt) ∧ ((qf' 1).toInt = (qf 1).toInt) ∧ ((qf' 4).toInt = (qf 4).toInt) ∧ ((qf' 5).toInt = (qf 5).toInt) ∧ ((qf' 6).toInt = (qf 6).toInt) ∧ ((qf' 7).toInt = (qf 7).toInt) ∧ ((qf' 11).toInt = (qf 11).toInt) ∧ ((qf' 12).toInt = (qf 12).toInt) ∧ ((qf' 13).toInt = (qf 13).toInt) ∧ ((qf' 14).toInt = (qf 14).toInt) ∧ ((qf' 21).toInt = (qf 21).toInt) ∧ ((qf' 23).toInt = (qf 23).toInt) ∧ ((qf' 24).toInt = (qf 24).toInt) ∧ (WrU qa qa' (qf 10).toInt (-1))) (pc_B D (va_A ([wd_Mpr cs q qr (fun k => if k = 0 then (some h) else none) qf qa qg, wdP cs h r g tf ta pf na ma wa cf ca ef ea xf xa] : List va_W).flatten s.heap.size)) (va_A ([wd_Mpr cs q qr (fun k => if k = 0 then (some h) else none) qf qa qg, wdP cs h r g tf ta pf na ma wa cf ca ef ea xf xa] : List va_W).flatten s.heap.size)) [.ref q, .int p0, .int p1, .int p2].toArray s 0 0 A) (F0 m 187 ls []) := by
    intro x187_5 H locs ls k187_0 k187_1 hw hl
    have lx187_5 := Int32.le_toInt x187_5
    have ux187_5 := Int32.toInt_lt x187_5
    refine lv_aload_n S.x S.b d_Mpr_two_187 rfl (lv_at hl 0 rfl) ?_
    refine lv_iload S.x S.b d_Mpr_two_188 (lv_at hl 4 rfl) ?_
    refine lv_bipush (v := 43) S.x S.b d_Mpr_two_190 (by decide) ?_
    refine lv_icmp_ne (tgt := 201) S.x S.b d_Mpr_two_192 (by decide) (fun c1 => ?_) (fun c1 => ?_)
    · have nc1 : ¬ x187_5.toInt = (43 : Int) := mt (i_eq (x := x187_5) (y := 43)).mpr c1
      refine lv_iload S.x S.b d_Mpr_two_201 (lv_at hl 4 rfl) ?_
      refine lv_bipush (v := 45) S.x S.b d_Mpr_two_203 (by decide) ?_
      refine lv_icmp_ne (tgt := 214) S.x S.b d_Mpr_two_205 (by decide) (fun c3 => ?_) (fun c3 => ?_)
      · have nc3 : ¬ x187_5.toInt = (45 : Int) := mt (i_eq (x := x187_5) (y := 45)).mpr c3
        refine lv_iload S.x S.b d_Mpr_two_214 (lv_at hl 4 rfl) ?_
        refine lv_bipush (v := 42) S.x S.b d_Mpr_two_216 (by decide) ?_
        refine lv_icmp_ne (tgt := 227) S.x S.b d_Mpr_two_218 (by decide) (fun c5 => ?_) (fun c5 => ?_)
        · have nc5 : ¬ x187_5.toInt = (42 : Int) := mt (i_eq (x := x187_5) (y := 42)).mpr c5
          refine lv_iload S.x S.b d_Mpr_two_227 (lv_at hl 4 rfl) ?_
          refine lv_bipush (v := 47) S.x S.b d_Mpr_two_229 (by decide) ?_
          refine lv_icmp_ne (tgt := 240) S.x S.b d_Mpr_two_231 (by decide) (fun c7 => ?_) (fun c7 => ?_)
          · have nc7 : ¬ x187_5.toInt = (47 : Int) := mt (i_eq (x := x187_5) (y := 47)).mpr c7
            refine lv_iload S.x S.b d_Mpr_two_240 (lv_at hl 4 rfl) ?_
            refine lv_bipush (v := 37) S.x S.b d_Mpr_two_242 (by decide) ?_
            refine lv_icmp_ne (tgt := 253) S.x S.b d_Mpr_two_244 (by decide) (fun c9 => ?_) (fun c9 => ?_)
            · have nc9 : ¬ x187_5.toInt = (37 : Int) := mt (i_eq (x := x187_5) (y := 37)).mpr c9
              refine lv_iload S.x S.b d_Mpr_two_253 (lv_at hl 4 rfl) ?_
              refine lv_bipush (v := 38) S.x S.b d_Mpr_two_255 (by decide) ?_
              refine lv_icmp_ne (tgt := 266) S.x S.b d_Mpr_two_257 (by decide) (fun c11 => ?_) (fun c11 => ?_)
              · have nc11 : ¬ x187_5.toInt = (38 : Int) := mt (i_eq (x := x187_5) (y := 38)).mpr c11
                refine lv_iload S.x S.b d_Mpr_two_266 (lv_at hl 4 rfl) ?_
                refine lv_bipush (v := 124) S.x S.b d_Mpr_two_268 (by decide) ?_
                refine lv_icmp_ne (tgt := 279) S.x S.b d_Mpr_two_270 (by decide) (fun c13 => ?_) (fun c13 => ?_)
                · have nc13 : ¬ x187_5.toInt = (124 : Int) := mt (i_eq (x := x187_5) (y := 124)).mpr c13
                  refine lv_iload S.x S.b d_Mpr_two_279 (lv_at hl 4 rfl) ?_
                  refine lv_bipush (v := 94) S.x S.b d_Mpr_two_281 (by decide) ?_
                  refine lv_icmp_ne (tgt := 292) S.x S.b d_Mpr_two_283 (by decide) (fun c15 => ?_) (fun c15 => ?_)
                  · have nc15 : ¬ x187_5.toInt = (94 : Int) := mt (i_eq (x := x187_5) (y := 94)).mpr c15
                    refine lv_iload S.x S.b d_Mpr_two_292 (lv_at hl 4 rfl) ?_
                    refine lv_bipush (v := 60) S.x S.b d_Mpr_two_294 (by decide) ?_
                    refine lv_icmp_ne (tgt := 307) S.x S.b d_Mpr_two_296 (by decide) (fun c17 => ?_) (fun c17 => ?_)
                    · have nc17 : ¬ x187_5.toInt = (60 : Int) := mt (i_eq (x := x187_5) (y := 60)).mpr c17
                      refine lv_iload_n S.x S.b d_Mpr_two_307 rfl (lv_at hl 2 rfl) ?_
                      refine lv_iload_n S.x S.b d_Mpr_two_308 rfl (lv_at hl 3 rfl) ?_
                      refine lv_icmp_le (tgt := 316) S.x S.b d_Mpr_two_309 (by decide) (fun c19 => ?_) (fun c19 => ?_)
                      · have nc19 : p1.toInt ≤ p2.toInt := (i_le (x := p1) (y := p2)).mp c19
                        refine lv_iconst (v := 0) S.x S.b d_Mpr_two_316 (by decide) ?_
                        refine px_callv (pr := []) (px_runV (As := [.int 0]) (rest := []) S (c_mr_give l D cs nf q qr qg qf qa h r g tf ta pf na ma wa cf ca ef ea xf xa 0  (show 0 ≤ (qf 10).toInt from by first | exact g2 | omega) (show (qf 10).toInt < 62500 from by first | exact oz_7621ce4cd5 g3 | omega) _) hT (pr := []) (pcs := [wd_Mpr cs q qr (fun k => if k = 0 then (some h) else none) qf qa qg, wdP cs h r g tf ta pf na ma wa cf ca ef ea xf xa]) hw (oX_call (P := (fun A U H => (oP A g U H))) (pr := []) oG_P hw hA hP) (px_recv hT hw 0 0 rfl rfl rfl) m13_161 m13_158 m13_159 m13_160 m1_22 q_Mpr_give ⟨Nat.le_of_ble_eq_true rfl, Nat.le_of_ble_eq_true rfl⟩ hl.1 rfl (Nat.le_of_ble_eq_true rfl) d_Mpr_two_317 ⟨Nat.le_of_ble_eq_true rfl, Nat.le_of_ble_eq_true rfl⟩) hw hA (fun p25 H locs hp25 hw => ?_)
                        obtain ⟨qf23, qa24, rfl, e27, e28, e29, e30, e31, e32, e33, e34, e35, e36, e37, e38, e39, e40, e41, e42⟩ := hp25
                        have e27 : (qf23 10).toInt = (qf 10).toInt + 1 := e27
                        have e28 : (qf23 1).toInt = (qf 1).toInt := e28
                        have e29 : (qf23 2).toInt = (qf 2).toInt := e29
                        have e30 : (qf23 3).toInt = (qf 3).toInt := e30
                        have e31 : (qf23 4).toInt = (qf 4).toInt := e31
                        have e32 : (qf23 5).toInt = (qf 5).toInt := e32
                        have e33 : (qf23 6).toInt = (qf 6).toInt := e33
                        have e34 : (qf23 7).toInt = (qf 7).toInt := e34
                        have e35 : (qf23 11).toInt = (qf 11).toInt := e35
                        have e36 : (qf23 12).toInt = (qf 12).toInt := e36
                        have e37 : (qf23 13).toInt = (qf 13).toInt := e37
                        have e38 : (qf23 14).toInt = (qf 14).toInt := e38
                        have e39 : (qf23 21).toInt = (qf 21).toInt := e39
                        have e40 : (qf23 23).toInt = (qf 23).toInt := e40
                        have e41 : (qf23 24).toInt = (qf 24).toInt := e41
                        have e42 : NuU qa qa24 9 (qf 10).toInt (0 : Int32) := e42
                        skip
                        have hw : pw D A s.heap H locs [wd_Mpr cs q qr (fun k => if k = 0 then (some h) else none) qf23 qa24 qg, wdP cs h r g tf ta pf na ma wa cf ca ef ea xf xa] := hw
                        exact px_vret S hr hlk hAe hw (Nat.le_of_ble_eq_true rfl) (Nat.le_of_ble_eq_true rfl) (⟨qf23, qa24, rfl, (show TwO (qf23 2).toInt (qf 2).toInt (qf23 10).toInt (qf 10).toInt from (Or.inl ⟨by omega, by omega⟩)), (show (qf23 1).toInt = (qf 1).toInt from by first | exact e28 | omega), (show (qf23 4).toInt = (qf 4).toInt from by first | exact e31 | omega), (show (qf23 5).toInt = (qf 5).toInt from by first | exact e32 | omega), (show (qf23 6).toInt = (qf 6).toInt from by first | exact e33 | omega), (show (qf23 7).toInt = (qf 7).toInt from by first | exact e34 | omega), (show (qf23 11).toInt = (qf 11).toInt from by first | exact e35 | omega), (show (qf23 12).toInt = (qf 12).toInt from by first | exact e36 | omega), (show (qf23 13).toInt = (qf 13).toInt from by first | exact e37 | omega), (show (qf23 14).toInt = (qf 14).toInt from by first | exact e38 | omega), (show (qf23 21).toInt = (qf 21).toInt from by first | exact e39 | omega), (show (qf23 23).toInt = (qf 23).toInt from by first | exact e40 | omega), (show (qf23 24).toInt = (qf 24).toInt from by first | exact e41 | omega), (show WrU qa qa24 (qf 10).toInt (-1) from e42.w)⟩) d_Mpr_two_320
                      · have nc19 : ¬ p1.toInt ≤ p2.toInt := mt (i_le (x := p1) (y := p2)).mpr c19
                        refine lv_iconst (v := 1) S.x S.b d_Mpr_two_312 (by decide) ?_
                        refine lv_goto (tgt := 317) S.x S.b d_Mpr_two_313 (by decide) ?_
                        refine px_callv (pr := []) (px_runV (As := [.int 1]) (rest := []) S (c_mr_give l D cs nf q qr qg qf qa h r g tf ta pf na ma wa cf ca ef ea xf xa 1  (show 0 ≤ (qf 10).toInt from by first | exact g2 | omega) (show (qf 10).toInt < 62500 from by first | exact oz_7621ce4cd5 g3 | omega) _) hT (pr := []) (pcs := [wd_Mpr cs q qr (fun k => if k = 0 then (some h) else none) qf qa qg, wdP cs h r g tf ta pf na ma wa cf ca ef ea xf xa]) hw (oX_call (P := (fun A U H => (oP A g U H))) (pr := []) oG_P hw hA hP) (px_recv hT hw 0 0 rfl rfl rfl) m13_161 m13_158 m13_159 m13_160 m1_22 q_Mpr_give ⟨Nat.le_of_ble_eq_true rfl, Nat.le_of_ble_eq_true rfl⟩ hl.1 rfl (Nat.le_of_ble_eq_true rfl) d_Mpr_two_317 ⟨Nat.le_of_ble_eq_true rfl, Nat.le_of_ble_eq_true rfl⟩) hw hA (fun p47 H locs hp47 hw => ?_)
                        obtain ⟨qf45, qa46, rfl, e49, e50, e51, e52, e53, e54, e55, e56, e57, e58, e59, e60, e61, e62, e63, e64⟩ := hp47
                        have e49 : (qf45 10).toInt = (qf 10).toInt + 1 := e49
                        have e50 : (qf45 1).toInt = (qf 1).toInt := e50
                        have e51 : (qf45 2).toInt = (qf 2).toInt := e51
                        have e52 : (qf45 3).toInt = (qf 3).toInt := e52
                        have e53 : (qf45 4).toInt = (qf 4).toInt := e53
                        have e54 : (qf45 5).toInt = (qf 5).toInt := e54
                        have e55 : (qf45 6).toInt = (qf 6).toInt := e55
                        have e56 : (qf45 7).toInt = (qf 7).toInt := e56
                        have e57 : (qf45 11).toInt = (qf 11).toInt := e57
                        have e58 : (qf45 12).toInt = (qf 12).toInt := e58
                        have e59 : (qf45 13).toInt = (qf 13).toInt := e59
                        have e60 : (qf45 14).toInt = (qf 14).toInt := e60
                        have e61 : (qf45 21).toInt = (qf 21).toInt := e61
                        have e62 : (qf45 23).toInt = (qf 23).toInt := e62
                        have e63 : (qf45 24).toInt = (qf 24).toInt := e63
                        have e64 : NuU qa qa46 9 (qf 10).toInt (1 : Int32) := e64
                        skip
                        have hw : pw D A s.heap H locs [wd_Mpr cs q qr (fun k => if k = 0 then (some h) else none) qf45 qa46 qg, wdP cs h r g tf ta pf na ma wa cf ca ef ea xf xa] := hw
                        exact px_vret S hr hlk hAe hw (Nat.le_of_ble_eq_true rfl) (Nat.le_of_ble_eq_true rfl) (⟨qf45, qa46, rfl, (show TwO (qf45 2).toInt (qf 2).toInt (qf45 10).toInt (qf 10).toInt from (Or.inl ⟨by omega, by omega⟩)), (show (qf45 1).toInt = (qf 1).toInt from by first | exact e50 | omega), (show (qf45 4).toInt = (qf 4).toInt from by first | exact e53 | omega), (show (qf45 5).toInt = (qf 5).toInt from by first | exact e54 | omega), (show (qf45 6).toInt = (qf 6).toInt from by first | exact e55 | omega), (show (qf45 7).toInt = (qf 7).toInt from by first | exact e56 | omega), (show (qf45 11).toInt = (qf 11).toInt from by first | exact e57 | omega), (show (qf45 12).toInt = (qf 12).toInt from by first | exact e58 | omega), (show (qf45 13).toInt = (qf 13).toInt from by first | exact e59 | omega), (show (qf45 14).toInt = (qf 14).toInt from by first | exact e60 | omega), (show (qf45 21).toInt = (qf 21).toInt from by first | exact e61 | omega), (show (qf45 23).toInt = (qf 23).toInt from by first | exact e62 | omega), (show (qf45 24).toInt = (qf 24).toInt from by first | exact e63 | omega), (show WrU qa qa46 (qf 10).toInt (-1) from e64.w)⟩) d_Mpr_two_320
                    · have nc17 : x187_5.toInt = (60 : Int) := (i_eq (x := x187_5) (y := 60)).mp c17
                      refine lv_iload_n S.x S.b d_Mpr_two_299 rfl (lv_at hl 2 rfl) ?_
                      refine lv_iload_n S.x S.b d_Mpr_two_300 rfl (lv_at hl 3 rfl) ?_
                      refine lv_icmp_ge (tgt := 316) S.x S.b d_Mpr_two_301 (by decide) (fun c65 => ?_) (fun c65 => ?_)
                      · have nc65 : p2.toInt ≤ p1.toInt := (i_le (x := p2) (y := p1)).mp c65
                        refine lv_iconst (v := 0) S.x S.b d_Mpr_two_316 (by decide) ?_
                        refine px_callv (pr := []) (px_runV (As := [.int 0]) (rest := []) S (c_mr_give l D cs nf q qr qg qf qa h r g tf ta pf na ma wa cf ca ef ea xf xa 0  (show 0 ≤ (qf 10).toInt from by first | exact g2 | omega) (show (qf 10).toInt < 62500 from by first | exact oz_7621ce4cd5 g3 | omega) _) hT (pr := []) (pcs := [wd_Mpr cs q qr (fun k => if k = 0 then (some h) else none) qf qa qg, wdP cs h r g tf ta pf na ma wa cf ca ef ea xf xa]) hw (oX_call (P := (fun A U H => (oP A g U H))) (pr := []) oG_P hw hA hP) (px_recv hT hw 0 0 rfl rfl rfl) m13_161 m13_158 m13_159 m13_160 m1_22 q_Mpr_give ⟨Nat.le_of_ble_eq_true rfl, Nat.le_of_ble_eq_true rfl⟩ hl.1 rfl (Nat.le_of_ble_eq_true rfl) d_Mpr_two_317 ⟨Nat.le_of_ble_eq_true rfl, Nat.le_of_ble_eq_true rfl⟩) hw hA (fun p71 H locs hp71 hw => ?_)
                        obtain ⟨qf69, qa70, rfl, e73, e74, e75, e76, e77, e78, e79, e80, e81, e82, e83, e84, e85, e86, e87, e88⟩ := hp71
                        have e73 : (qf69 10).toInt = (qf 10).toInt + 1 := e73
                        have e74 : (qf69 1).toInt = (qf 1).toInt := e74
                        have e75 : (qf69 2).toInt = (qf 2).toInt := e75
                        have e76 : (qf69 3).toInt = (qf 3).toInt := e76
                        have e77 : (qf69 4).toInt = (qf 4).toInt := e77
                        have e78 : (qf69 5).toInt = (qf 5).toInt := e78
                        have e79 : (qf69 6).toInt = (qf 6).toInt := e79
                        have e80 : (qf69 7).toInt = (qf 7).toInt := e80
                        have e81 : (qf69 11).toInt = (qf 11).toInt := e81
                        have e82 : (qf69 12).toInt = (qf 12).toInt := e82
                        have e83 : (qf69 13).toInt = (qf 13).toInt := e83
                        have e84 : (qf69 14).toInt = (qf 14).toInt := e84
                        have e85 : (qf69 21).toInt = (qf 21).toInt := e85
                        have e86 : (qf69 23).toInt = (qf 23).toInt := e86
                        have e87 : (qf69 24).toInt = (qf 24).toInt := e87
                        have e88 : NuU qa qa70 9 (qf 10).toInt (0 : Int32) := e88
                        skip
                        have hw : pw D A s.heap H locs [wd_Mpr cs q qr (fun k => if k = 0 then (some h) else none) qf69 qa70 qg, wdP cs h r g tf ta pf na ma wa cf ca ef ea xf xa] := hw
                        exact px_vret S hr hlk hAe hw (Nat.le_of_ble_eq_true rfl) (Nat.le_of_ble_eq_true rfl) (⟨qf69, qa70, rfl, (show TwO (qf69 2).toInt (qf 2).toInt (qf69 10).toInt (qf 10).toInt from (Or.inl ⟨by omega, by omega⟩)), (show (qf69 1).toInt = (qf 1).toInt from by first | exact e74 | omega), (show (qf69 4).toInt = (qf 4).toInt from by first | exact e77 | omega), (show (qf69 5).toInt = (qf 5).toInt from by first | exact e78 | omega), (show (qf69 6).toInt = (qf 6).toInt from by first | exact e79 | omega), (show (qf69 7).toInt = (qf 7).toInt from by first | exact e80 | omega), (show (qf69 11).toInt = (qf 11).toInt from by first | exact e81 | omega), (show (qf69 12).toInt = (qf 12).toInt from by first | exact e82 | omega), (show (qf69 13).toInt = (qf 13).toInt from by first | exact e83 | omega), (show (qf69 14).toInt = (qf 14).toInt from by first | exact e84 | omega), (show (qf69 21).toInt = (qf 21).toInt from by first | exact e85 | omega), (show (qf69 23).toInt = (qf 23).toInt from by first | exact e86 | omega), (show (qf69 24).toInt = (qf 24).toInt from by first | exact e87 | omega), (show WrU qa qa70 (qf 10).toInt (-1) from e88.w)⟩) d_Mpr_two_320
                      · have nc65 : ¬ p2.toInt ≤ p1.toInt := mt (i_le (x := p2) (y := p1)).mpr c65
                        refine lv_goto (tgt := 312) S.x S.b d_Mpr_two_304 (by decide) ?_
                        refine lv_iconst (v := 1) S.x S.b d_Mpr_two_312 (by decide) ?_
                        refine lv_goto (tgt := 317) S.x S.b d_Mpr_two_313 (by decide) ?_
                        refine px_callv (pr := []) (px_runV (As := [.int 1]) (rest := []) S (c_mr_give l D cs nf q qr qg qf qa h r g tf ta pf na ma wa cf ca ef ea xf xa 1  (show 0 ≤ (qf 10).toInt from by first | exact g2 | omega) (show (qf 10).toInt < 62500 from by first | exact oz_7621ce4cd5 g3 | omega) _) hT (pr := []) (pcs := [wd_Mpr cs q qr (fun k => if k = 0 then (some h) else none) qf qa qg, wdP cs h r g tf ta pf na ma wa cf ca ef ea xf xa]) hw (oX_call (P := (fun A U H => (oP A g U H))) (pr := []) oG_P hw hA hP) (px_recv hT hw 0 0 rfl rfl rfl) m13_161 m13_158 m13_159 m13_160 m1_22 q_Mpr_give ⟨Nat.le_of_ble_eq_true rfl, Nat.le_of_ble_eq_true rfl⟩ hl.1 rfl (Nat.le_of_ble_eq_true rfl) d_Mpr_two_317 ⟨Nat.le_of_ble_eq_true rfl, Nat.le_of_ble_eq_true rfl⟩) hw hA (fun p93 H locs hp93 hw => ?_)
                        obtain ⟨qf91, qa92, rfl, e95, e96, e97, e98, e99, e100, e101, e102, e103, e104, e105, e106, e107, e108, e109, e110⟩ := hp93
                        have e95 : (qf91 10).toInt = (qf 10).toInt + 1 := e95
                        have e96 : (qf91 1).toInt = (qf 1).toInt := e96
                        have e97 : (qf91 2).toInt = (qf 2).toInt := e97
                        have e98 : (qf91 3).toInt = (qf 3).toInt := e98
                        have e99 : (qf91 4).toInt = (qf 4).toInt := e99
                        have e100 : (qf91 5).toInt = (qf 5).toInt := e100
                        have e101 : (qf91 6).toInt = (qf 6).toInt := e101
                        have e102 : (qf91 7).toInt = (qf 7).toInt := e102
                        have e103 : (qf91 11).toInt = (qf 11).toInt := e103
                        have e104 : (qf91 12).toInt = (qf 12).toInt := e104
                        have e105 : (qf91 13).toInt = (qf 13).toInt := e105
                        have e106 : (qf91 14).toInt = (qf 14).toInt := e106
                        have e107 : (qf91 21).toInt = (qf 21).toInt := e107
                        have e108 : (qf91 23).toInt = (qf 23).toInt := e108
                        have e109 : (qf91 24).toInt = (qf 24).toInt := e109
                        have e110 : NuU qa qa92 9 (qf 10).toInt (1 : Int32) := e110
                        skip
                        have hw : pw D A s.heap H locs [wd_Mpr cs q qr (fun k => if k = 0 then (some h) else none) qf91 qa92 qg, wdP cs h r g tf ta pf na ma wa cf ca ef ea xf xa] := hw
                        exact px_vret S hr hlk hAe hw (Nat.le_of_ble_eq_true rfl) (Nat.le_of_ble_eq_true rfl) (⟨qf91, qa92, rfl, (show TwO (qf91 2).toInt (qf 2).toInt (qf91 10).toInt (qf 10).toInt from (Or.inl ⟨by omega, by omega⟩)), (show (qf91 1).toInt = (qf 1).toInt from by first | exact e96 | omega), (show (qf91 4).toInt = (qf 4).toInt from by first | exact e99 | omega), (show (qf91 5).toInt = (qf 5).toInt from by first | exact e100 | omega), (show (qf91 6).toInt = (qf 6).toInt from by first | exact e101 | omega), (show (qf91 7).toInt = (qf 7).toInt from by first | exact e102 | omega), (show (qf91 11).toInt = (qf 11).toInt from by first | exact e103 | omega), (show (qf91 12).toInt = (qf 12).toInt from by first | exact e104 | omega), (show (qf91 13).toInt = (qf 13).toInt from by first | exact e105 | omega), (show (qf91 14).toInt = (qf 14).toInt from by first | exact e106 | omega), (show (qf91 21).toInt = (qf 21).toInt from by first | exact e107 | omega), (show (qf91 23).toInt = (qf 23).toInt from by first | exact e108 | omega), (show (qf91 24).toInt = (qf 24).toInt from by first | exact e109 | omega), (show WrU qa qa92 (qf 10).toInt (-1) from e110.w)⟩) d_Mpr_two_320
                  · have nc15 : x187_5.toInt = (94 : Int) := (i_eq (x := x187_5) (y := 94)).mp c15
                    refine lv_iload_n S.x S.b d_Mpr_two_286 rfl (lv_at hl 2 rfl) ?_
                    refine lv_iload_n S.x S.b d_Mpr_two_287 rfl (lv_at hl 3 rfl) ?_
                    refine lv_ixor S.x S.b d_Mpr_two_288 ?_
                    refine lv_topi (fun z111 ez111 => ?_)
                    have lz111 := Int32.le_toInt z111
                    have uz111 := Int32.toInt_lt z111
                    refine lv_goto (tgt := 317) S.x S.b d_Mpr_two_289 (by decide) ?_
                    refine px_callv (pr := []) (px_runV (As := [.int z111]) (rest := []) S (c_mr_give l D cs nf q qr qg qf qa h r g tf ta pf na ma wa cf ca ef ea xf xa z111  (show 0 ≤ (qf 10).toInt from by first | exact g2 | omega) (show (qf 10).toInt < 62500 from by first | exact oz_7621ce4cd5 g3 | omega) _) hT (pr := []) (pcs := [wd_Mpr cs q qr (fun k => if k = 0 then (some h) else none) qf qa qg, wdP cs h r g tf ta pf na ma wa cf ca ef ea xf xa]) hw (oX_call (P := (fun A U H => (oP A g U H))) (pr := []) oG_P hw hA hP) (px_recv hT hw 0 0 rfl rfl rfl) m13_161 m13_158 m13_159 m13_160 m1_22 q_Mpr_give ⟨Nat.le_of_ble_eq_true rfl, Nat.le_of_ble_eq_true rfl⟩ hl.1 rfl (Nat.le_of_ble_eq_true rfl) d_Mpr_two_317 ⟨Nat.le_of_ble_eq_true rfl, Nat.le_of_ble_eq_true rfl⟩) hw hA (fun p116 H locs hp116 hw => ?_)
                    obtain ⟨qf114, qa115, rfl, e118, e119, e120, e121, e122, e123, e124, e125, e126, e127, e128, e129, e130, e131, e132, e133⟩ := hp116
                    have e118 : (qf114 10).toInt = (qf 10).toInt + 1 := e118
                    have e119 : (qf114 1).toInt = (qf 1).toInt := e119
                    have e120 : (qf114 2).toInt = (qf 2).toInt := e120
                    have e121 : (qf114 3).toInt = (qf 3).toInt := e121
                    have e122 : (qf114 4).toInt = (qf 4).toInt := e122
                    have e123 : (qf114 5).toInt = (qf 5).toInt := e123
                    have e124 : (qf114 6).toInt = (qf 6).toInt := e124
                    have e125 : (qf114 7).toInt = (qf 7).toInt := e125
                    have e126 : (qf114 11).toInt = (qf 11).toInt := e126
                    have e127 : (qf114 12).toInt = (qf 12).toInt := e127
                    have e128 : (qf114 13).toInt = (qf 13).toInt := e128
                    have e129 : (qf114 14).toInt = (qf 14).toInt := e129
                    have e130 : (qf114 21).toInt = (qf 21).toInt := e130
                    have e131 : (qf114 23).toInt = (qf 23).toInt := e131
                    have e132 : (qf114 24).toInt = (qf 24).toInt := e132
                    have e133 : NuU qa qa115 9 (qf 10).toInt z111 := e133
                    skip
                    have hw : pw D A s.heap H locs [wd_Mpr cs q qr (fun k => if k = 0 then (some h) else none) qf114 qa115 qg, wdP cs h r g tf ta pf na ma wa cf ca ef ea xf xa] := hw
                    exact px_vret S hr hlk hAe hw (Nat.le_of_ble_eq_true rfl) (Nat.le_of_ble_eq_true rfl) (⟨qf114, qa115, rfl, (show TwO (qf114 2).toInt (qf 2).toInt (qf114 10).toInt (qf 10).toInt from (Or.inl ⟨by omega, by omega⟩)), (show (qf114 1).toInt = (qf 1).toInt from by first | exact e119 | omega), (show (qf114 4).toInt = (qf 4).toInt from by first | exact e122 | omega), (show (qf114 5).toInt = (qf 5).toInt from by first | exact e123 | omega), (show (qf114 6).toInt = (qf 6).toInt from by first | exact e124 | omega), (show (qf114 7).toInt = (qf 7).toInt from by first | exact e125 | omega), (show (qf114 11).toInt = (qf 11).toInt from by first | exact e126 | omega), (show (qf114 12).toInt = (qf 12).toInt from by first | exact e127 | omega), (show (qf114 13).toInt = (qf 13).toInt from by first | exact e128 | omega), (show (qf114 14).toInt = (qf 14).toInt from by first | exact e129 | omega), (show (qf114 21).toInt = (qf 21).toInt from by first | exact e130 | omega), (show (qf114 23).toInt = (qf 23).toInt from by first | exact e131 | omega), (show (qf114 24).toInt = (qf 24).toInt from by first | exact e132 | omega), (show WrU qa qa115 (qf 10).toInt (-1) from e133.w)⟩) d_Mpr_two_320
                · have nc13 : x187_5.toInt = (124 : Int) := (i_eq (x := x187_5) (y := 124)).mp c13
                  refine lv_iload_n S.x S.b d_Mpr_two_273 rfl (lv_at hl 2 rfl) ?_
                  refine lv_iload_n S.x S.b d_Mpr_two_274 rfl (lv_at hl 3 rfl) ?_
                  refine lv_ior S.x S.b d_Mpr_two_275 ?_
                  refine lv_topi (fun z134 ez134 => ?_)
                  have lz134 := Int32.le_toInt z134
                  have uz134 := Int32.toInt_lt z134
                  refine lv_goto (tgt := 317) S.x S.b d_Mpr_two_276 (by decide) ?_
                  refine px_callv (pr := []) (px_runV (As := [.int z134]) (rest := []) S (c_mr_give l D cs nf q qr qg qf qa h r g tf ta pf na ma wa cf ca ef ea xf xa z134  (show 0 ≤ (qf 10).toInt from by first | exact g2 | omega) (show (qf 10).toInt < 62500 from by first | exact oz_7621ce4cd5 g3 | omega) _) hT (pr := []) (pcs := [wd_Mpr cs q qr (fun k => if k = 0 then (some h) else none) qf qa qg, wdP cs h r g tf ta pf na ma wa cf ca ef ea xf xa]) hw (oX_call (P := (fun A U H => (oP A g U H))) (pr := []) oG_P hw hA hP) (px_recv hT hw 0 0 rfl rfl rfl) m13_161 m13_158 m13_159 m13_160 m1_22 q_Mpr_give ⟨Nat.le_of_ble_eq_true rfl, Nat.le_of_ble_eq_true rfl⟩ hl.1 rfl (Nat.le_of_ble_eq_true rfl) d_Mpr_two_317 ⟨Nat.le_of_ble_eq_true rfl, Nat.le_of_ble_eq_true rfl⟩) hw hA (fun p139 H locs hp139 hw => ?_)
                  obtain ⟨qf137, qa138, rfl, e141, e142, e143, e144, e145, e146, e147, e148, e149, e150, e151, e152, e153, e154, e155, e156⟩ := hp139
                  have e141 : (qf137 10).toInt = (qf 10).toInt + 1 := e141
                  have e142 : (qf137 1).toInt = (qf 1).toInt := e142
                  have e143 : (qf137 2).toInt = (qf 2).toInt := e143
                  have e144 : (qf137 3).toInt = (qf 3).toInt := e144
                  have e145 : (qf137 4).toInt = (qf 4).toInt := e145
                  have e146 : (qf137 5).toInt = (qf 5).toInt := e146
                  have e147 : (qf137 6).toInt = (qf 6).toInt := e147
                  have e148 : (qf137 7).toInt = (qf 7).toInt := e148
                  have e149 : (qf137 11).toInt = (qf 11).toInt := e149
                  have e150 : (qf137 12).toInt = (qf 12).toInt := e150
                  have e151 : (qf137 13).toInt = (qf 13).toInt := e151
                  have e152 : (qf137 14).toInt = (qf 14).toInt := e152
                  have e153 : (qf137 21).toInt = (qf 21).toInt := e153
                  have e154 : (qf137 23).toInt = (qf 23).toInt := e154
                  have e155 : (qf137 24).toInt = (qf 24).toInt := e155
                  have e156 : NuU qa qa138 9 (qf 10).toInt z134 := e156
                  skip
                  have hw : pw D A s.heap H locs [wd_Mpr cs q qr (fun k => if k = 0 then (some h) else none) qf137 qa138 qg, wdP cs h r g tf ta pf na ma wa cf ca ef ea xf xa] := hw
                  exact px_vret S hr hlk hAe hw (Nat.le_of_ble_eq_true rfl) (Nat.le_of_ble_eq_true rfl) (⟨qf137, qa138, rfl, (show TwO (qf137 2).toInt (qf 2).toInt (qf137 10).toInt (qf 10).toInt from (Or.inl ⟨by omega, by omega⟩)), (show (qf137 1).toInt = (qf 1).toInt from by first | exact e142 | omega), (show (qf137 4).toInt = (qf 4).toInt from by first | exact e145 | omega), (show (qf137 5).toInt = (qf 5).toInt from by first | exact e146 | omega), (show (qf137 6).toInt = (qf 6).toInt from by first | exact e147 | omega), (show (qf137 7).toInt = (qf 7).toInt from by first | exact e148 | omega), (show (qf137 11).toInt = (qf 11).toInt from by first | exact e149 | omega), (show (qf137 12).toInt = (qf 12).toInt from by first | exact e150 | omega), (show (qf137 13).toInt = (qf 13).toInt from by first | exact e151 | omega), (show (qf137 14).toInt = (qf 14).toInt from by first | exact e152 | omega), (show (qf137 21).toInt = (qf 21).toInt from by first | exact e153 | omega), (show (qf137 23).toInt = (qf 23).toInt from by first | exact e154 | omega), (show (qf137 24).toInt = (qf 24).toInt from by first | exact e155 | omega), (show WrU qa qa138 (qf 10).toInt (-1) from e156.w)⟩) d_Mpr_two_320
              · have nc11 : x187_5.toInt = (38 : Int) := (i_eq (x := x187_5) (y := 38)).mp c11
                refine lv_iload_n S.x S.b d_Mpr_two_260 rfl (lv_at hl 2 rfl) ?_
                refine lv_iload_n S.x S.b d_Mpr_two_261 rfl (lv_at hl 3 rfl) ?_
                refine lv_iand S.x S.b d_Mpr_two_262 ?_
                refine lv_topi (fun z157 ez157 => ?_)
                have lz157 := Int32.le_toInt z157
                have uz157 := Int32.toInt_lt z157
                refine lv_goto (tgt := 317) S.x S.b d_Mpr_two_263 (by decide) ?_
                refine px_callv (pr := []) (px_runV (As := [.int z157]) (rest := []) S (c_mr_give l D cs nf q qr qg qf qa h r g tf ta pf na ma wa cf ca ef ea xf xa z157  (show 0 ≤ (qf 10).toInt from by first | exact g2 | omega) (show (qf 10).toInt < 62500 from by first | exact oz_7621ce4cd5 g3 | omega) _) hT (pr := []) (pcs := [wd_Mpr cs q qr (fun k => if k = 0 then (some h) else none) qf qa qg, wdP cs h r g tf ta pf na ma wa cf ca ef ea xf xa]) hw (oX_call (P := (fun A U H => (oP A g U H))) (pr := []) oG_P hw hA hP) (px_recv hT hw 0 0 rfl rfl rfl) m13_161 m13_158 m13_159 m13_160 m1_22 q_Mpr_give ⟨Nat.le_of_ble_eq_true rfl, Nat.le_of_ble_eq_true rfl⟩ hl.1 rfl (Nat.le_of_ble_eq_true rfl) d_Mpr_two_317 ⟨Nat.le_of_ble_eq_true rfl, Nat.le_of_ble_eq_true rfl⟩) hw hA (fun p162 H locs hp162 hw => ?_)
                obtain ⟨qf160, qa161, rfl, e164, e165, e166, e167, e168, e169, e170, e171, e172, e173, e174, e175, e176, e177, e178, e179⟩ := hp162
                have e164 : (qf160 10).toInt = (qf 10).toInt + 1 := e164
                have e165 : (qf160 1).toInt = (qf 1).toInt := e165
                have e166 : (qf160 2).toInt = (qf 2).toInt := e166
                have e167 : (qf160 3).toInt = (qf 3).toInt := e167
                have e168 : (qf160 4).toInt = (qf 4).toInt := e168
                have e169 : (qf160 5).toInt = (qf 5).toInt := e169
                have e170 : (qf160 6).toInt = (qf 6).toInt := e170
                have e171 : (qf160 7).toInt = (qf 7).toInt := e171
                have e172 : (qf160 11).toInt = (qf 11).toInt := e172
                have e173 : (qf160 12).toInt = (qf 12).toInt := e173
                have e174 : (qf160 13).toInt = (qf 13).toInt := e174
                have e175 : (qf160 14).toInt = (qf 14).toInt := e175
                have e176 : (qf160 21).toInt = (qf 21).toInt := e176
                have e177 : (qf160 23).toInt = (qf 23).toInt := e177
                have e178 : (qf160 24).toInt = (qf 24).toInt := e178
                have e179 : NuU qa qa161 9 (qf 10).toInt z157 := e179
                skip
                have hw : pw D A s.heap H locs [wd_Mpr cs q qr (fun k => if k = 0 then (some h) else none) qf160 qa161 qg, wdP cs h r g tf ta pf na ma wa cf ca ef ea xf xa] := hw
                exact px_vret S hr hlk hAe hw (Nat.le_of_ble_eq_true rfl) (Nat.le_of_ble_eq_true rfl) (⟨qf160, qa161, rfl, (show TwO (qf160 2).toInt (qf 2).toInt (qf160 10).toInt (qf 10).toInt from (Or.inl ⟨by omega, by omega⟩)), (show (qf160 1).toInt = (qf 1).toInt from by first | exact e165 | omega), (show (qf160 4).toInt = (qf 4).toInt from by first | exact e168 | omega), (show (qf160 5).toInt = (qf 5).toInt from by first | exact e169 | omega), (show (qf160 6).toInt = (qf 6).toInt from by first | exact e170 | omega), (show (qf160 7).toInt = (qf 7).toInt from by first | exact e171 | omega), (show (qf160 11).toInt = (qf 11).toInt from by first | exact e172 | omega), (show (qf160 12).toInt = (qf 12).toInt from by first | exact e173 | omega), (show (qf160 13).toInt = (qf 13).toInt from by first | exact e174 | omega), (show (qf160 14).toInt = (qf 14).toInt from by first | exact e175 | omega), (show (qf160 21).toInt = (qf 21).toInt from by first | exact e176 | omega), (show (qf160 23).toInt = (qf 23).toInt from by first | exact e177 | omega), (show (qf160 24).toInt = (qf 24).toInt from by first | exact e178 | omega), (show WrU qa qa161 (qf 10).toInt (-1) from e179.w)⟩) d_Mpr_two_320
            · have nc9 : x187_5.toInt = (37 : Int) := (i_eq (x := x187_5) (y := 37)).mp c9
              refine lv_iload_n S.x S.b d_Mpr_two_247 rfl (lv_at hl 2 rfl) ?_
              refine lv_iload_n S.x S.b d_Mpr_two_248 rfl (lv_at hl 3 rfl) ?_
              refine lv_irem S.x S.b d_Mpr_two_249 (fun hz0 => by have hz1 := i_eq.mp hz0; omega) ?_
              refine lv_topi (fun z180 ez180 => ?_)
              have lz180 := Int32.le_toInt z180
              have uz180 := Int32.toInt_lt z180
              refine lv_goto (tgt := 317) S.x S.b d_Mpr_two_250 (by decide) ?_
              refine px_callv (pr := []) (px_runV (As := [.int z180]) (rest := []) S (c_mr_give l D cs nf q qr qg qf qa h r g tf ta pf na ma wa cf ca ef ea xf xa z180  (show 0 ≤ (qf 10).toInt from by first | exact g2 | omega) (show (qf 10).toInt < 62500 from by first | exact oz_7621ce4cd5 g3 | omega) _) hT (pr := []) (pcs := [wd_Mpr cs q qr (fun k => if k = 0 then (some h) else none) qf qa qg, wdP cs h r g tf ta pf na ma wa cf ca ef ea xf xa]) hw (oX_call (P := (fun A U H => (oP A g U H))) (pr := []) oG_P hw hA hP) (px_recv hT hw 0 0 rfl rfl rfl) m13_161 m13_158 m13_159 m13_160 m1_22 q_Mpr_give ⟨Nat.le_of_ble_eq_true rfl, Nat.le_of_ble_eq_true rfl⟩ hl.1 rfl (Nat.le_of_ble_eq_true rfl) d_Mpr_two_317 ⟨Nat.le_of_ble_eq_true rfl, Nat.le_of_ble_eq_true rfl⟩) hw hA (fun p185 H locs hp185 hw => ?_)
              obtain ⟨qf183, qa184, rfl, e187, e188, e189, e190, e191, e192, e193, e194, e195, e196, e197, e198, e199, e200, e201, e202⟩ := hp185
              have e187 : (qf183 10).toInt = (qf 10).toInt + 1 := e187
              have e188 : (qf183 1).toInt = (qf 1).toInt := e188
              have e189 : (qf183 2).toInt = (qf 2).toInt := e189
              have e190 : (qf183 3).toInt = (qf 3).toInt := e190
              have e191 : (qf183 4).toInt = (qf 4).toInt := e191
              have e192 : (qf183 5).toInt = (qf 5).toInt := e192
              have e193 : (qf183 6).toInt = (qf 6).toInt := e193
              have e194 : (qf183 7).toInt = (qf 7).toInt := e194
              have e195 : (qf183 11).toInt = (qf 11).toInt := e195
              have e196 : (qf183 12).toInt = (qf 12).toInt := e196
              have e197 : (qf183 13).toInt = (qf 13).toInt := e197
              have e198 : (qf183 14).toInt = (qf 14).toInt := e198
              have e199 : (qf183 21).toInt = (qf 21).toInt := e199
              have e200 : (qf183 23).toInt = (qf 23).toInt := e200
              have e201 : (qf183 24).toInt = (qf 24).toInt := e201
              have e202 : NuU qa qa184 9 (qf 10).toInt z180 := e202
              skip
              have hw : pw D A s.heap H locs [wd_Mpr cs q qr (fun k => if k = 0 then (some h) else none) qf183 qa184 qg, wdP cs h r g tf ta pf na ma wa cf ca ef ea xf xa] := hw
              exact px_vret S hr hlk hAe hw (Nat.le_of_ble_eq_true rfl) (Nat.le_of_ble_eq_true rfl) (⟨qf183, qa184, rfl, (show TwO (qf183 2).toInt (qf 2).toInt (qf183 10).toInt (qf 10).toInt from (Or.inl ⟨by omega, by omega⟩)), (show (qf183 1).toInt = (qf 1).toInt from by first | exact e188 | omega), (show (qf183 4).toInt = (qf 4).toInt from by first | exact e191 | omega), (show (qf183 5).toInt = (qf 5).toInt from by first | exact e192 | omega), (show (qf183 6).toInt = (qf 6).toInt from by first | exact e193 | omega), (show (qf183 7).toInt = (qf 7).toInt from by first | exact e194 | omega), (show (qf183 11).toInt = (qf 11).toInt from by first | exact e195 | omega), (show (qf183 12).toInt = (qf 12).toInt from by first | exact e196 | omega), (show (qf183 13).toInt = (qf 13).toInt from by first | exact e197 | omega), (show (qf183 14).toInt = (qf 14).toInt from by first | exact e198 | omega), (show (qf183 21).toInt = (qf 21).toInt from by first | exact e199 | omega), (show (qf183 23).toInt = (qf 23).toInt from by first | exact e200 | omega), (show (qf183 24).toInt = (qf 24).toInt from by first | exact e201 | omega), (show WrU qa qa184 (qf 10).toInt (-1) from e202.w)⟩) d_Mpr_two_320
          · have nc7 : x187_5.toInt = (47 : Int) := (i_eq (x := x187_5) (y := 47)).mp c7
            refine lv_iload_n S.x S.b d_Mpr_two_234 rfl (lv_at hl 2 rfl) ?_
            refine lv_iload_n S.x S.b d_Mpr_two_235 rfl (lv_at hl 3 rfl) ?_
            refine lv_idiv S.x S.b d_Mpr_two_236 (fun hz0 => by have hz1 := i_eq.mp hz0; omega) ?_
            refine lv_topi (fun z203 ez203 => ?_)
            have lz203 := Int32.le_toInt z203
            have uz203 := Int32.toInt_lt z203
            refine lv_goto (tgt := 317) S.x S.b d_Mpr_two_237 (by decide) ?_
            refine px_callv (pr := []) (px_runV (As := [.int z203]) (rest := []) S (c_mr_give l D cs nf q qr qg qf qa h r g tf ta pf na ma wa cf ca ef ea xf xa z203  (show 0 ≤ (qf 10).toInt from by first | exact g2 | omega) (show (qf 10).toInt < 62500 from by first | exact oz_7621ce4cd5 g3 | omega) _) hT (pr := []) (pcs := [wd_Mpr cs q qr (fun k => if k = 0 then (some h) else none) qf qa qg, wdP cs h r g tf ta pf na ma wa cf ca ef ea xf xa]) hw (oX_call (P := (fun A U H => (oP A g U H))) (pr := []) oG_P hw hA hP) (px_recv hT hw 0 0 rfl rfl rfl) m13_161 m13_158 m13_159 m13_160 m1_22 q_Mpr_give ⟨Nat.le_of_ble_eq_true rfl, Nat.le_of_ble_eq_true rfl⟩ hl.1 rfl (Nat.le_of_ble_eq_true rfl) d_Mpr_two_317 ⟨Nat.le_of_ble_eq_true rfl, Nat.le_of_ble_eq_true rfl⟩) hw hA (fun p208 H locs hp208 hw => ?_)
            obtain ⟨qf206, qa207, rfl, e210, e211, e212, e213, e214, e215, e216, e217, e218, e219, e220, e221, e222, e223, e224, e225⟩ := hp208
            have e210 : (qf206 10).toInt = (qf 10).toInt + 1 := e210
            have e211 : (qf206 1).toInt = (qf 1).toInt := e211
            have e212 : (qf206 2).toInt = (qf 2).toInt := e212
            have e213 : (qf206 3).toInt = (qf 3).toInt := e213
            have e214 : (qf206 4).toInt = (qf 4).toInt := e214
            have e215 : (qf206 5).toInt = (qf 5).toInt := e215
            have e216 : (qf206 6).toInt = (qf 6).toInt := e216
            have e217 : (qf206 7).toInt = (qf 7).toInt := e217
            have e218 : (qf206 11).toInt = (qf 11).toInt := e218
            have e219 : (qf206 12).toInt = (qf 12).toInt := e219
            have e220 : (qf206 13).toInt = (qf 13).toInt := e220
            have e221 : (qf206 14).toInt = (qf 14).toInt := e221
            have e222 : (qf206 21).toInt = (qf 21).toInt := e222
            have e223 : (qf206 23).toInt = (qf 23).toInt := e223
            have e224 : (qf206 24).toInt = (qf 24).toInt := e224
            have e225 : NuU qa qa207 9 (qf 10).toInt z203 := e225
            skip
            have hw : pw D A s.heap H locs [wd_Mpr cs q qr (fun k => if k = 0 then (some h) else none) qf206 qa207 qg, wdP cs h r g tf ta pf na ma wa cf ca ef ea xf xa] := hw
            exact px_vret S hr hlk hAe hw (Nat.le_of_ble_eq_true rfl) (Nat.le_of_ble_eq_true rfl) (⟨qf206, qa207, rfl, (show TwO (qf206 2).toInt (qf 2).toInt (qf206 10).toInt (qf 10).toInt from (Or.inl ⟨by omega, by omega⟩)), (show (qf206 1).toInt = (qf 1).toInt from by first | exact e211 | omega), (show (qf206 4).toInt = (qf 4).toInt from by first | exact e214 | omega), (show (qf206 5).toInt = (qf 5).toInt from by first | exact e215 | omega), (show (qf206 6).toInt = (qf 6).toInt from by first | exact e216 | omega), (show (qf206 7).toInt = (qf 7).toInt from by first | exact e217 | omega), (show (qf206 11).toInt = (qf 11).toInt from by first | exact e218 | omega), (show (qf206 12).toInt = (qf 12).toInt from by first | exact e219 | omega), (show (qf206 13).toInt = (qf 13).toInt from by first | exact e220 | omega), (show (qf206 14).toInt = (qf 14).toInt from by first | exact e221 | omega), (show (qf206 21).toInt = (qf 21).toInt from by first | exact e222 | omega), (show (qf206 23).toInt = (qf 23).toInt from by first | exact e223 | omega), (show (qf206 24).toInt = (qf 24).toInt from by first | exact e224 | omega), (show WrU qa qa207 (qf 10).toInt (-1) from e225.w)⟩) d_Mpr_two_320
        · have nc5 : x187_5.toInt = (42 : Int) := (i_eq (x := x187_5) (y := 42)).mp c5
          refine lv_iload_n S.x S.b d_Mpr_two_221 rfl (lv_at hl 2 rfl) ?_
          refine lv_iload_n S.x S.b d_Mpr_two_222 rfl (lv_at hl 3 rfl) ?_
          refine lv_imul S.x S.b d_Mpr_two_223 ?_
          refine lv_topi (fun z226 ez226 => ?_)
          have lz226 := Int32.le_toInt z226
          have uz226 := Int32.toInt_lt z226
          refine lv_goto (tgt := 317) S.x S.b d_Mpr_two_224 (by decide) ?_
          refine px_callv (pr := []) (px_runV (As := [.int z226]) (rest := []) S (c_mr_give l D cs nf q qr qg qf qa h r g tf ta pf na ma wa cf ca ef ea xf xa z226  (show 0 ≤ (qf 10).toInt from by first | exact g2 | omega) (show (qf 10).toInt < 62500 from by first | exact oz_7621ce4cd5 g3 | omega) _) hT (pr := []) (pcs := [wd_Mpr cs q qr (fun k => if k = 0 then (some h) else none) qf qa qg, wdP cs h r g tf ta pf na ma wa cf ca ef ea xf xa]) hw (oX_call (P := (fun A U H => (oP A g U H))) (pr := []) oG_P hw hA hP) (px_recv hT hw 0 0 rfl rfl rfl) m13_161 m13_158 m13_159 m13_160 m1_22 q_Mpr_give ⟨Nat.le_of_ble_eq_true rfl, Nat.le_of_ble_eq_true rfl⟩ hl.1 rfl (Nat.le_of_ble_eq_true rfl) d_Mpr_two_317 ⟨Nat.le_of_ble_eq_true rfl, Nat.le_of_ble_eq_true rfl⟩) hw hA (fun p231 H locs hp231 hw => ?_)
          obtain ⟨qf229, qa230, rfl, e233, e234, e235, e236, e237, e238, e239, e240, e241, e242, e243, e244, e245, e246, e247, e248⟩ := hp231
          have e233 : (qf229 10).toInt = (qf 10).toInt + 1 := e233
          have e234 : (qf229 1).toInt = (qf 1).toInt := e234
          have e235 : (qf229 2).toInt = (qf 2).toInt := e235
          have e236 : (qf229 3).toInt = (qf 3).toInt := e236
          have e237 : (qf229 4).toInt = (qf 4).toInt := e237
          have e238 : (qf229 5).toInt = (qf 5).toInt := e238
          have e239 : (qf229 6).toInt = (qf 6).toInt := e239
          have e240 : (qf229 7).toInt = (qf 7).toInt := e240
          have e241 : (qf229 11).toInt = (qf 11).toInt := e241
          have e242 : (qf229 12).toInt = (qf 12).toInt := e242
          have e243 : (qf229 13).toInt = (qf 13).toInt := e243
          have e244 : (qf229 14).toInt = (qf 14).toInt := e244
          have e245 : (qf229 21).toInt = (qf 21).toInt := e245
          have e246 : (qf229 23).toInt = (qf 23).toInt := e246
          have e247 : (qf229 24).toInt = (qf 24).toInt := e247
          have e248 : NuU qa qa230 9 (qf 10).toInt z226 := e248
          skip
          have hw : pw D A s.heap H locs [wd_Mpr cs q qr (fun k => if k = 0 then (some h) else none) qf229 qa230 qg, wdP cs h r g tf ta pf na ma wa cf ca ef ea xf xa] := hw
          exact px_vret S hr hlk hAe hw (Nat.le_of_ble_eq_true rfl) (Nat.le_of_ble_eq_true rfl) (⟨qf229, qa230, rfl, (show TwO (qf229 2).toInt (qf 2).toInt (qf229 10).toInt (qf 10).toInt from (Or.inl ⟨by omega, by omega⟩)), (show (qf229 1).toInt = (qf 1).toInt from by first | exact e234 | omega), (show (qf229 4).toInt = (qf 4).toInt from by first | exact e237 | omega), (show (qf229 5).toInt = (qf 5).toInt from by first | exact e238 | omega), (show (qf229 6).toInt = (qf 6).toInt from by first | exact e239 | omega), (show (qf229 7).toInt = (qf 7).toInt from by first | exact e240 | omega), (show (qf229 11).toInt = (qf 11).toInt from by first | exact e241 | omega), (show (qf229 12).toInt = (qf 12).toInt from by first | exact e242 | omega), (show (qf229 13).toInt = (qf 13).toInt from by first | exact e243 | omega), (show (qf229 14).toInt = (qf 14).toInt from by first | exact e244 | omega), (show (qf229 21).toInt = (qf 21).toInt from by first | exact e245 | omega), (show (qf229 23).toInt = (qf 23).toInt from by first | exact e246 | omega), (show (qf229 24).toInt = (qf 24).toInt from by first | exact e247 | omega), (show WrU qa qa230 (qf 10).toInt (-1) from e248.w)⟩) d_Mpr_two_320
      · have nc3 : x187_5.toInt = (45 : Int) := (i_eq (x := x187_5) (y := 45)).mp c3
        refine lv_iload_n S.x S.b d_Mpr_two_208 rfl (lv_at hl 2 rfl) ?_
        refine lv_iload_n S.x S.b d_Mpr_two_209 rfl (lv_at hl 3 rfl) ?_
        refine lv_isub S.x S.b d_Mpr_two_210 ?_
        refine lv_topi (fun z249 ez249 => ?_)
        have tz249 : z249.toInt = (p1.toInt - p2.toInt + 2147483648) % 4294967296 - 2147483648 := by rw [ez249]; exact i_sub p1 p2
        have lz249 := Int32.le_toInt z249
        have uz249 := Int32.toInt_lt z249
        try replace tz249 : z249.toInt = p1.toInt - p2.toInt := by omega
        refine lv_goto (tgt := 317) S.x S.b d_Mpr_two_211 (by decide) ?_
        refine px_callv (pr := []) (px_runV (As := [.int z249]) (rest := []) S (c_mr_give l D cs nf q qr qg qf qa h r g tf ta pf na ma wa cf ca ef ea xf xa z249  (show 0 ≤ (qf 10).toInt from by first | exact g2 | omega) (show (qf 10).toInt < 62500 from by first | exact oz_7621ce4cd5 g3 | omega) _) hT (pr := []) (pcs := [wd_Mpr cs q qr (fun k => if k = 0 then (some h) else none) qf qa qg, wdP cs h r g tf ta pf na ma wa cf ca ef ea xf xa]) hw (oX_call (P := (fun A U H => (oP A g U H))) (pr := []) oG_P hw hA hP) (px_recv hT hw 0 0 rfl rfl rfl) m13_161 m13_158 m13_159 m13_160 m1_22 q_Mpr_give ⟨Nat.le_of_ble_eq_true rfl, Nat.le_of_ble_eq_true rfl⟩ hl.1 rfl (Nat.le_of_ble_eq_true rfl) d_Mpr_two_317 ⟨Nat.le_of_ble_eq_true rfl, Nat.le_of_ble_eq_true rfl⟩) hw hA (fun p254 H locs hp254 hw => ?_)
        obtain ⟨qf252, qa253, rfl, e256, e257, e258, e259, e260, e261, e262, e263, e264, e265, e266, e267, e268, e269, e270, e271⟩ := hp254
        have e256 : (qf252 10).toInt = (qf 10).toInt + 1 := e256
        have e257 : (qf252 1).toInt = (qf 1).toInt := e257
        have e258 : (qf252 2).toInt = (qf 2).toInt := e258
        have e259 : (qf252 3).toInt = (qf 3).toInt := e259
        have e260 : (qf252 4).toInt = (qf 4).toInt := e260
        have e261 : (qf252 5).toInt = (qf 5).toInt := e261
        have e262 : (qf252 6).toInt = (qf 6).toInt := e262
        have e263 : (qf252 7).toInt = (qf 7).toInt := e263
        have e264 : (qf252 11).toInt = (qf 11).toInt := e264
        have e265 : (qf252 12).toInt = (qf 12).toInt := e265
        have e266 : (qf252 13).toInt = (qf 13).toInt := e266
        have e267 : (qf252 14).toInt = (qf 14).toInt := e267
        have e268 : (qf252 21).toInt = (qf 21).toInt := e268
        have e269 : (qf252 23).toInt = (qf 23).toInt := e269
        have e270 : (qf252 24).toInt = (qf 24).toInt := e270
        have e271 : NuU qa qa253 9 (qf 10).toInt z249 := e271
        skip
        have hw : pw D A s.heap H locs [wd_Mpr cs q qr (fun k => if k = 0 then (some h) else none) qf252 qa253 qg, wdP cs h r g tf ta pf na ma wa cf ca ef ea xf xa] := hw
        exact px_vret S hr hlk hAe hw (Nat.le_of_ble_eq_true rfl) (Nat.le_of_ble_eq_true rfl) (⟨qf252, qa253, rfl, (show TwO (qf252 2).toInt (qf 2).toInt (qf252 10).toInt (qf 10).toInt from (Or.inl ⟨by omega, by omega⟩)), (show (qf252 1).toInt = (qf 1).toInt from by first | exact e257 | omega), (show (qf252 4).toInt = (qf 4).toInt from by first | exact e260 | omega), (show (qf252 5).toInt = (qf 5).toInt from by first | exact e261 | omega), (show (qf252 6).toInt = (qf 6).toInt from by first | exact e262 | omega), (show (qf252 7).toInt = (qf 7).toInt from by first | exact e263 | omega), (show (qf252 11).toInt = (qf 11).toInt from by first | exact e264 | omega), (show (qf252 12).toInt = (qf 12).toInt from by first | exact e265 | omega), (show (qf252 13).toInt = (qf 13).toInt from by first | exact e266 | omega), (show (qf252 14).toInt = (qf 14).toInt from by first | exact e267 | omega), (show (qf252 21).toInt = (qf 21).toInt from by first | exact e268 | omega), (show (qf252 23).toInt = (qf 23).toInt from by first | exact e269 | omega), (show (qf252 24).toInt = (qf 24).toInt from by first | exact e270 | omega), (show WrU qa qa253 (qf 10).toInt (-1) from e271.w)⟩) d_Mpr_two_320
    · have nc1 : x187_5.toInt = (43 : Int) := (i_eq (x := x187_5) (y := 43)).mp c1
      refine lv_iload_n S.x S.b d_Mpr_two_195 rfl (lv_at hl 2 rfl) ?_
      refine lv_iload_n S.x S.b d_Mpr_two_196 rfl (lv_at hl 3 rfl) ?_
      refine lv_iadd S.x S.b d_Mpr_two_197 ?_
      refine lv_topi (fun z272 ez272 => ?_)
      have tz272 : z272.toInt = (p1.toInt + p2.toInt + 2147483648) % 4294967296 - 2147483648 := by rw [ez272]; exact i_add p1 p2
      have lz272 := Int32.le_toInt z272
      have uz272 := Int32.toInt_lt z272
      try replace tz272 : z272.toInt = p1.toInt + p2.toInt := by omega
      refine lv_goto (tgt := 317) S.x S.b d_Mpr_two_198 (by decide) ?_
      refine px_callv (pr := []) (px_runV (As := [.int z272]) (rest := []) S (c_mr_give l D cs nf q qr qg qf qa h r g tf ta pf na ma wa cf ca ef ea xf xa z272  (show 0 ≤ (qf 10).toInt from by first | exact g2 | omega) (show (qf 10).toInt < 62500 from by first | exact oz_7621ce4cd5 g3 | omega) _) hT (pr := []) (pcs := [wd_Mpr cs q qr (fun k => if k = 0 then (some h) else none) qf qa qg, wdP cs h r g tf ta pf na ma wa cf ca ef ea xf xa]) hw (oX_call (P := (fun A U H => (oP A g U H))) (pr := []) oG_P hw hA hP) (px_recv hT hw 0 0 rfl rfl rfl) m13_161 m13_158 m13_159 m13_160 m1_22 q_Mpr_give ⟨Nat.le_of_ble_eq_true rfl, Nat.le_of_ble_eq_true rfl⟩ hl.1 rfl (Nat.le_of_ble_eq_true rfl) d_Mpr_two_317 ⟨Nat.le_of_ble_eq_true rfl, Nat.le_of_ble_eq_true rfl⟩) hw hA (fun p277 H locs hp277 hw => ?_)
      obtain ⟨qf275, qa276, rfl, e279, e280, e281, e282, e283, e284, e285, e286, e287, e288, e289, e290, e291, e292, e293, e294⟩ := hp277
      have e279 : (qf275 10).toInt = (qf 10).toInt + 1 := e279
      have e280 : (qf275 1).toInt = (qf 1).toInt := e280
      have e281 : (qf275 2).toInt = (qf 2).toInt := e281
      have e282 : (qf275 3).toInt = (qf 3).toInt := e282
      have e283 : (qf275 4).toInt = (qf 4).toInt := e283
      have e284 : (qf275 5).toInt = (qf 5).toInt := e284
      have e285 : (qf275 6).toInt = (qf 6).toInt := e285
      have e286 : (qf275 7).toInt = (qf 7).toInt := e286
      have e287 : (qf275 11).toInt = (qf 11).toInt := e287
      have e288 : (qf275 12).toInt = (qf 12).toInt := e288
      have e289 : (qf275 13).toInt = (qf 13).toInt := e289
      have e290 : (qf275 14).toInt = (qf 14).toInt := e290
      have e291 : (qf275 21).toInt = (qf 21).toInt := e291
      have e292 : (qf275 23).toInt = (qf 23).toInt := e292
      have e293 : (qf275 24).toInt = (qf 24).toInt := e293
      have e294 : NuU qa qa276 9 (qf 10).toInt z272 := e294
      skip
      have hw : pw D A s.heap H locs [wd_Mpr cs q qr (fun k => if k = 0 then (some h) else none) qf275 qa276 qg, wdP cs h r g tf ta pf na ma wa cf ca ef ea xf xa] := hw
      exact px_vret S hr hlk hAe hw (Nat.le_of_ble_eq_true rfl) (Nat.le_of_ble_eq_true rfl) (⟨qf275, qa276, rfl, (show TwO (qf275 2).toInt (qf 2).toInt (qf275 10).toInt (qf 10).toInt from (Or.inl ⟨by omega, by omega⟩)), (show (qf275 1).toInt = (qf 1).toInt from by first | exact e280 | omega), (show (qf275 4).toInt = (qf 4).toInt from by first | exact e283 | omega), (show (qf275 5).toInt = (qf 5).toInt from by first | exact e284 | omega), (show (qf275 6).toInt = (qf 6).toInt from by first | exact e285 | omega), (show (qf275 7).toInt = (qf 7).toInt from by first | exact e286 | omega), (show (qf275 11).toInt = (qf 11).toInt from by first | exact e287 | omega), (show (qf275 12).toInt = (qf 12).toInt from by first | exact e288 | omega), (show (qf275 13).toInt = (qf 13).toInt from by first | exact e289 | omega), (show (qf275 14).toInt = (qf 14).toInt from by first | exact e290 | omega), (show (qf275 21).toInt = (qf 21).toInt from by first | exact e291 | omega), (show (qf275 23).toInt = (qf 23).toInt from by first | exact e292 | omega), (show (qf275 24).toInt = (qf 24).toInt from by first | exact e293 | omega), (show WrU qa qa276 (qf 10).toInt (-1) from e294.w)⟩) d_Mpr_two_320
  refine lv_aload_n S.x S.b d_Mpr_two_0 rfl (lv_at hl 0 rfl) ?_
  refine px_get S k_Mpr hT hw 0 0 0 (v := .ref h) rfl rfl rfl (by decide) m10_221 d_Mpr_two_1 ?_
  refine px_getN S k_Mpg hT hw 1 0 1 (v := .ref (r 1)) rfl rfl rfl (by decide) m9_225n d_Mpr_two_4 ?_
  refine lv_iload_n S.x S.b d_Mpr_two_7 rfl (lv_at hl 1 rfl) ?_
  have hclsk295 := cl_nat (x := p0) (by first | exact g0 | omega)
  obtain ⟨sk295, hgsk295, st296, hSsk295⟩ := oP_1B hP (i := p0.toNatClampNeg) (by omega)
  have hmsk295 := len_1 (i := p0.toNatClampNeg) (by omega)
  refine px_aaldS S hT hw 1 2 11 (n := 43) (f := (g 1)) rfl rfl rfl (x := p0) (vp_in_iff.mpr (by first | exact oz_fc62deb105 hclsk295 g1 | (constructor <;> omega))) hgsk295 d_Mpr_two_8 ?_
  refine lv_astore (lv' := [(4, .ref sk295), (0, .ref q), (1, .int p0), (2, .int p1), (3, .int p2)]) S.x S.b d_Mpr_two_9 hl (by decide) rfl (fun ls hl => ?_)
  refine lv_aload S.x S.b d_Mpr_two_11 (lv_at hl 0 rfl) ?_
  refine lv_iconst (v := 0) S.x S.b d_Mpr_two_13 (by decide) ?_
  refine px_calli (pr := [wd_Mpr cs q qr (fun k => if k = 0 then (some h) else none) qf qa qg, wdP cs h r g tf ta pf na ma wa cf ca ef ea xf xa]) (px_runV (As := [.int 0]) (rest := []) S (c_String_charAt l D cs sk295 st296 (mlen p0.toNatClampNeg) (mby p0.toNatClampNeg) 0  (show (mlen p0.toNatClampNeg) ≤ 1000000 from by omega) (show 0 ≤ (0 : Int) from by first | exact oz_5a341f00aa | omega) (show (0 : Int) < ((mlen p0.toNatClampNeg) : Int) from by omega) _) hT (pr := [wd_Mpr cs q qr (fun k => if k = 0 then (some h) else none) qf qa qg, wdP cs h r g tf ta pf na ma wa cf ca ef ea xf xa]) (pcs := []) hw (oX_call (P := (fun A U H => (oF A U H) ∧ (oZ A U H) ∧ (oS A sk295 st296 (mlen p0.toNatClampNeg) (mby p0.toNatClampNeg) U H))) (pr := [wd_Mpr cs q qr (fun k => if k = 0 then (some h) else none) qf qa qg, wdP cs h r g tf ta pf na ma wa cf ca ef ea xf xa]) (oG_and oG_F (oG_and oG_Z oG_S)) hw hA ⟨hF0, hZ, hSsk295⟩) (oS_recv hw hSsk295) m1_68 m14_152 m1_66 m1_67 m1_3 q_String_charAt ⟨Nat.le_of_ble_eq_true rfl, Nat.le_of_ble_eq_true rfl⟩ hl.1 rfl (Nat.le_of_ble_eq_true rfl) d_Mpr_two_14 ⟨Nat.le_of_ble_eq_true rfl, Nat.le_of_ble_eq_true rfl⟩) hw hA (fun v299 p298 H locs hp298 hw => ?_)
  obtain ⟨rfl, e300, e301⟩ := hp298
  have e300 : narrow .char (.int v299) = .int v299 := e300
  have e301 : R_String_charAt (mby p0.toNatClampNeg) (0 : Int32) v299 := e301
  have hw : pw D A s.heap H locs [wd_Mpr cs q qr (fun k => if k = 0 then (some h) else none) qf qa qg, wdP cs h r g tf ta pf na ma wa cf ca ef ea xf xa] := hw
  have lv299 := Int32.le_toInt v299
  have uv299 := Int32.toInt_lt v299
  refine lv_istore (lv' := [(5, .int v299), (4, .ref sk295), (0, .ref q), (1, .int p0), (2, .int p1), (3, .int p2)]) S.x S.b d_Mpr_two_17 hl (by decide) rfl (fun ls hl => ?_)
  refine lv_aload S.x S.b d_Mpr_two_19 (lv_at hl 1 rfl) ?_
  refine px_calli (pr := [wd_Mpr cs q qr (fun k => if k = 0 then (some h) else none) qf qa qg, wdP cs h r g tf ta pf na ma wa cf ca ef ea xf xa]) (px_runV (As := []) (rest := []) S (c_String_length l D cs sk295 st296 (mlen p0.toNatClampNeg) (mby p0.toNatClampNeg)   (show (mlen p0.toNatClampNeg) ≤ 1000000 from by omega) _) hT (pr := [wd_Mpr cs q qr (fun k => if k = 0 then (some h) else none) qf qa qg, wdP cs h r g tf ta pf na ma wa cf ca ef ea xf xa]) (pcs := []) hw (oX_call (P := (fun A U H => (oZ A U H) ∧ (oS A sk295 st296 (mlen p0.toNatClampNeg) (mby p0.toNatClampNeg) U H))) (pr := [wd_Mpr cs q qr (fun k => if k = 0 then (some h) else none) qf qa qg, wdP cs h r g tf ta pf na ma wa cf ca ef ea xf xa]) (oG_and oG_Z oG_S) hw hA ⟨hZ, hSsk295⟩) (oS_recv hw hSsk295) m1_58 m14_153 m1_56 m1_57 m1_3 q_String_length ⟨Nat.le_of_ble_eq_true rfl, Nat.le_of_ble_eq_true rfl⟩ hl.1 rfl (Nat.le_of_ble_eq_true rfl) d_Mpr_two_21 ⟨Nat.le_of_ble_eq_true rfl, Nat.le_of_ble_eq_true rfl⟩) hw hA (fun v303 p302 H locs hp302 hw => ?_)
  obtain ⟨rfl, e304, e305⟩ := hp302
  have e304 : v303.toInt = ((mlen p0.toNatClampNeg) : Int) := e304
  have e305 : R_String_length (mlen p0.toNatClampNeg) v303 := e305
  have hw : pw D A s.heap H locs [wd_Mpr cs q qr (fun k => if k = 0 then (some h) else none) qf qa qg, wdP cs h r g tf ta pf na ma wa cf ca ef ea xf xa] := hw
  have lv303 := Int32.le_toInt v303
  have uv303 := Int32.toInt_lt v303
  refine lv_iconst (v := 2) S.x S.b d_Mpr_two_24 (by decide) ?_
  refine lv_icmp_ne (tgt := 162) S.x S.b d_Mpr_two_25 (by decide) (fun c306 => ?_) (fun c306 => ?_)
  · have nc306 : ¬ v303.toInt = (2 : Int) := mt (i_eq (x := v303) (y := 2)).mpr c306
    refine lv_iload S.x S.b d_Mpr_two_162 (lv_at hl 0 rfl) ?_
    refine lv_bipush (v := 47) S.x S.b d_Mpr_two_164 (by decide) ?_
    refine lv_icmp_eq (tgt := 176) S.x S.b d_Mpr_two_166 (by decide) (fun c308 => ?_) (fun c308 => ?_)
    · have nc308 : v299.toInt = (47 : Int) := (i_eq (x := v299) (y := 47)).mp c308
      refine lv_iload_n S.x S.b d_Mpr_two_176 rfl (lv_at hl 5 rfl) ?_
      refine lv_if_ne (tgt := 187) S.x S.b d_Mpr_two_177 (by decide) (fun c310 => ?_) (fun c310 => ?_)
      · have nc310 : ¬ p2.toInt = (0 : Int) := mt (i_eq (x := p2) (y := 0)).mpr c310
        exact J187 v299 _ _ ls (show v299.toInt = 47 → p2.toInt ≠ 0 from by omega) (show v299.toInt = 37 → p2.toInt ≠ 0 from by omega) hw (lv_sub hl [2, 3, 4, 5, 0] rfl)
      · have nc310 : p2.toInt = (0 : Int) := (i_eq (x := p2) (y := 0)).mp c310
        refine lv_aload_n S.x S.b d_Mpr_two_180 rfl (lv_at hl 2 rfl) ?_
        refine lv_iconst (v := 3) S.x S.b d_Mpr_two_181 (by decide) ?_
        refine lv_iconst (v := 0) S.x S.b d_Mpr_two_182 (by decide) ?_
        refine px_callv (pr := []) (px_runV (As := [.int 3, .int 0]) (rest := []) S (c_mr_end l D cs nf q qr qg qa qf h r g tf ta pf na ma wa cf ca ef ea xf xa 3 0   _) hT (pr := []) (pcs := [wd_Mpr cs q qr (fun k => if k = 0 then (some h) else none) qf qa qg, wdP cs h r g tf ta pf na ma wa cf ca ef ea xf xa]) hw (oX_call (P := (fun A U H => (oP A g U H))) (pr := []) oG_P hw hA hP) (px_recv hT hw 0 0 rfl rfl rfl) m13_177 m13_174 m13_175 m13_176 m1_22 q_Mpr_end ⟨Nat.le_of_ble_eq_true rfl, Nat.le_of_ble_eq_true rfl⟩ hl.1 rfl (Nat.le_of_ble_eq_true rfl) d_Mpr_two_183 ⟨Nat.le_of_ble_eq_true rfl, Nat.le_of_ble_eq_true rfl⟩) hw hA (fun p314 H locs hp314 hw => ?_)
        obtain ⟨qf313, rfl, e316, e317, e318, e319, e320, e321, e322, e323, e324, e325, e326, e327, e328, e329, e330⟩ := hp314
        have e316 : (qf313 2).toInt = (3 : Int) := e316
        have e317 : (qf313 3).toInt = (0 : Int) := e317
        have e318 : (qf313 1).toInt = (qf 1).toInt := e318
        have e319 : (qf313 4).toInt = (qf 4).toInt := e319
        have e320 : (qf313 5).toInt = (qf 5).toInt := e320
        have e321 : (qf313 6).toInt = (qf 6).toInt := e321
        have e322 : (qf313 7).toInt = (qf 7).toInt := e322
        have e323 : (qf313 10).toInt = (qf 10).toInt := e323
        have e324 : (qf313 11).toInt = (qf 11).toInt := e324
        have e325 : (qf313 12).toInt = (qf 12).toInt := e325
        have e326 : (qf313 13).toInt = (qf 13).toInt := e326
        have e327 : (qf313 14).toInt = (qf 14).toInt := e327
        have e328 : (qf313 21).toInt = (qf 21).toInt := e328
        have e329 : (qf313 23).toInt = (qf 23).toInt := e329
        have e330 : (qf313 24).toInt = (qf 24).toInt := e330
        have hw : pw D A s.heap H locs [wd_Mpr cs q qr (fun k => if k = 0 then (some h) else none) qf313 qa qg, wdP cs h r g tf ta pf na ma wa cf ca ef ea xf xa] := hw
        exact px_vret S hr hlk hAe hw (Nat.le_of_ble_eq_true rfl) (Nat.le_of_ble_eq_true rfl) (⟨qf313, qa, rfl, (show TwO (qf313 2).toInt (qf 2).toInt (qf313 10).toInt (qf 10).toInt from (Or.inr ⟨by omega, by omega⟩)), (show (qf313 1).toInt = (qf 1).toInt from by first | exact e318 | omega), (show (qf313 4).toInt = (qf 4).toInt from by first | exact e319 | omega), (show (qf313 5).toInt = (qf 5).toInt from by first | exact e320 | omega), (show (qf313 6).toInt = (qf 6).toInt from by first | exact e321 | omega), (show (qf313 7).toInt = (qf 7).toInt from by first | exact e322 | omega), (show (qf313 11).toInt = (qf 11).toInt from by first | exact e324 | omega), (show (qf313 12).toInt = (qf 12).toInt from by first | exact e325 | omega), (show (qf313 13).toInt = (qf 13).toInt from by first | exact e326 | omega), (show (qf313 14).toInt = (qf 14).toInt from by first | exact e327 | omega), (show (qf313 21).toInt = (qf 21).toInt from by first | exact e328 | omega), (show (qf313 23).toInt = (qf 23).toInt from by first | exact e329 | omega), (show (qf313 24).toInt = (qf 24).toInt from by first | exact e330 | omega), (show WrU qa qa (qf 10).toInt (-1) from WrU.rf)⟩) d_Mpr_two_186
    · have nc308 : ¬ v299.toInt = (47 : Int) := mt (i_eq (x := v299) (y := 47)).mpr c308
      refine lv_iload S.x S.b d_Mpr_two_169 (lv_at hl 0 rfl) ?_
      refine lv_bipush (v := 37) S.x S.b d_Mpr_two_171 (by decide) ?_
      refine lv_icmp_ne (tgt := 187) S.x S.b d_Mpr_two_173 (by decide) (fun c331 => ?_) (fun c331 => ?_)
      · have nc331 : ¬ v299.toInt = (37 : Int) := mt (i_eq (x := v299) (y := 37)).mpr c331
        exact J187 v299 _ _ ls (show v299.toInt = 47 → p2.toInt ≠ 0 from by omega) (show v299.toInt = 37 → p2.toInt ≠ 0 from by omega) hw (lv_sub hl [2, 3, 4, 5, 0] rfl)
      · have nc331 : v299.toInt = (37 : Int) := (i_eq (x := v299) (y := 37)).mp c331
        refine lv_iload_n S.x S.b d_Mpr_two_176 rfl (lv_at hl 5 rfl) ?_
        refine lv_if_ne (tgt := 187) S.x S.b d_Mpr_two_177 (by decide) (fun c333 => ?_) (fun c333 => ?_)
        · have nc333 : ¬ p2.toInt = (0 : Int) := mt (i_eq (x := p2) (y := 0)).mpr c333
          exact J187 v299 _ _ ls (show v299.toInt = 47 → p2.toInt ≠ 0 from by omega) (show v299.toInt = 37 → p2.toInt ≠ 0 from by omega) hw (lv_sub hl [2, 3, 4, 5, 0] rfl)
        · have nc333 : p2.toInt = (0 : Int) := (i_eq (x := p2) (y := 0)).mp c333
          refine lv_aload_n S.x S.b d_Mpr_two_180 rfl (lv_at hl 2 rfl) ?_
          refine lv_iconst (v := 3) S.x S.b d_Mpr_two_181 (by decide) ?_
          refine lv_iconst (v := 0) S.x S.b d_Mpr_two_182 (by decide) ?_
          refine px_callv (pr := []) (px_runV (As := [.int 3, .int 0]) (rest := []) S (c_mr_end l D cs nf q qr qg qa qf h r g tf ta pf na ma wa cf ca ef ea xf xa 3 0   _) hT (pr := []) (pcs := [wd_Mpr cs q qr (fun k => if k = 0 then (some h) else none) qf qa qg, wdP cs h r g tf ta pf na ma wa cf ca ef ea xf xa]) hw (oX_call (P := (fun A U H => (oP A g U H))) (pr := []) oG_P hw hA hP) (px_recv hT hw 0 0 rfl rfl rfl) m13_177 m13_174 m13_175 m13_176 m1_22 q_Mpr_end ⟨Nat.le_of_ble_eq_true rfl, Nat.le_of_ble_eq_true rfl⟩ hl.1 rfl (Nat.le_of_ble_eq_true rfl) d_Mpr_two_183 ⟨Nat.le_of_ble_eq_true rfl, Nat.le_of_ble_eq_true rfl⟩) hw hA (fun p337 H locs hp337 hw => ?_)
          obtain ⟨qf336, rfl, e339, e340, e341, e342, e343, e344, e345, e346, e347, e348, e349, e350, e351, e352, e353⟩ := hp337
          have e339 : (qf336 2).toInt = (3 : Int) := e339
          have e340 : (qf336 3).toInt = (0 : Int) := e340
          have e341 : (qf336 1).toInt = (qf 1).toInt := e341
          have e342 : (qf336 4).toInt = (qf 4).toInt := e342
          have e343 : (qf336 5).toInt = (qf 5).toInt := e343
          have e344 : (qf336 6).toInt = (qf 6).toInt := e344
          have e345 : (qf336 7).toInt = (qf 7).toInt := e345
          have e346 : (qf336 10).toInt = (qf 10).toInt := e346
          have e347 : (qf336 11).toInt = (qf 11).toInt := e347
          have e348 : (qf336 12).toInt = (qf 12).toInt := e348
          have e349 : (qf336 13).toInt = (qf 13).toInt := e349
          have e350 : (qf336 14).toInt = (qf 14).toInt := e350
          have e351 : (qf336 21).toInt = (qf 21).toInt := e351
          have e352 : (qf336 23).toInt = (qf 23).toInt := e352
          have e353 : (qf336 24).toInt = (qf 24).toInt := e353
          have hw : pw D A s.heap H locs [wd_Mpr cs q qr (fun k => if k = 0 then (some h) else none) qf336 qa qg, wdP cs h r g tf ta pf na ma wa cf ca ef ea xf xa] := hw
          exact px_vret S hr hlk hAe hw (Nat.le_of_ble_eq_true rfl) (Nat.le_of_ble_eq_true rfl) (⟨qf336, qa, rfl, (show TwO (qf336 2).toInt (qf 2).toInt (qf336 10).toInt (qf 10).toInt from (Or.inr ⟨by omega, by omega⟩)), (show (qf336 1).toInt = (qf 1).toInt from by first | exact e341 | omega), (show (qf336 4).toInt = (qf 4).toInt from by first | exact e342 | omega), (show (qf336 5).toInt = (qf 5).toInt from by first | exact e343 | omega), (show (qf336 6).toInt = (qf 6).toInt from by first | exact e344 | omega), (show (qf336 7).toInt = (qf 7).toInt from by first | exact e345 | omega), (show (qf336 11).toInt = (qf 11).toInt from by first | exact e347 | omega), (show (qf336 12).toInt = (qf 12).toInt from by first | exact e348 | omega), (show (qf336 13).toInt = (qf 13).toInt from by first | exact e349 | omega), (show (qf336 14).toInt = (qf 14).toInt from by first | exact e350 | omega), (show (qf336 21).toInt = (qf 21).toInt from by first | exact e351 | omega), (show (qf336 23).toInt = (qf 23).toInt from by first | exact e352 | omega), (show (qf336 24).toInt = (qf 24).toInt from by first | exact e353 | omega), (show WrU qa qa (qf 10).toInt (-1) from WrU.rf)⟩) d_Mpr_two_186
  · have nc306 : v303.toInt = (2 : Int) := (i_eq (x := v303) (y := 2)).mp c306
    refine lv_iload S.x S.b d_Mpr_two_28 (lv_at hl 0 rfl) ?_
    refine lv_bipush (v := 61) S.x S.b d_Mpr_two_30 (by decide) ?_
    refine lv_icmp_ne (tgt := 48) S.x S.b d_Mpr_two_32 (by decide) (fun c354 => ?_) (fun c354 => ?_)
    · have nc354 : ¬ v299.toInt = (61 : Int) := mt (i_eq (x := v299) (y := 61)).mpr c354
      refine lv_iload S.x S.b d_Mpr_two_48 (lv_at hl 0 rfl) ?_
      refine lv_bipush (v := 33) S.x S.b d_Mpr_two_50 (by decide) ?_
      refine lv_icmp_ne (tgt := 68) S.x S.b d_Mpr_two_52 (by decide) (fun c356 => ?_) (fun c356 => ?_)
      · have nc356 : ¬ v299.toInt = (33 : Int) := mt (i_eq (x := v299) (y := 33)).mpr c356
        refine lv_aload S.x S.b d_Mpr_two_68 (lv_at hl 1 rfl) ?_
        refine lv_iconst (v := 1) S.x S.b d_Mpr_two_70 (by decide) ?_
        refine px_calli (pr := [wd_Mpr cs q qr (fun k => if k = 0 then (some h) else none) qf qa qg, wdP cs h r g tf ta pf na ma wa cf ca ef ea xf xa]) (px_runV (As := [.int 1]) (rest := []) S (c_String_charAt l D cs sk295 st296 (mlen p0.toNatClampNeg) (mby p0.toNatClampNeg) 1  (show (mlen p0.toNatClampNeg) ≤ 1000000 from by first | exact oz_f8a16524ad e304 nc306 | omega) (show 0 ≤ (1 : Int) from by first | exact oz_19c3a41681 | omega) (show (1 : Int) < ((mlen p0.toNatClampNeg) : Int) from by first | exact oz_a1e339bdbc e304 nc306 | omega) _) hT (pr := [wd_Mpr cs q qr (fun k => if k = 0 then (some h) else none) qf qa qg, wdP cs h r g tf ta pf na ma wa cf ca ef ea xf xa]) (pcs := []) hw (oX_call (P := (fun A U H => (oF A U H) ∧ (oZ A U H) ∧ (oS A sk295 st296 (mlen p0.toNatClampNeg) (mby p0.toNatClampNeg) U H))) (pr := [wd_Mpr cs q qr (fun k => if k = 0 then (some h) else none) qf qa qg, wdP cs h r g tf ta pf na ma wa cf ca ef ea xf xa]) (oG_and oG_F (oG_and oG_Z oG_S)) hw hA ⟨hF0, hZ, hSsk295⟩) (oS_recv hw hSsk295) m1_68 m14_152 m1_66 m1_67 m1_3 q_String_charAt ⟨Nat.le_of_ble_eq_true rfl, Nat.le_of_ble_eq_true rfl⟩ hl.1 rfl (Nat.le_of_ble_eq_true rfl) d_Mpr_two_71 ⟨Nat.le_of_ble_eq_true rfl, Nat.le_of_ble_eq_true rfl⟩) hw hA (fun v359 p358 H locs hp358 hw => ?_)
        obtain ⟨rfl, e360, e361⟩ := hp358
        have e360 : narrow .char (.int v359) = .int v359 := e360
        have e361 : R_String_charAt (mby p0.toNatClampNeg) (1 : Int32) v359 := e361
        have hw : pw D A s.heap H locs [wd_Mpr cs q qr (fun k => if k = 0 then (some h) else none) qf qa qg, wdP cs h r g tf ta pf na ma wa cf ca ef ea xf xa] := hw
        have lv359 := Int32.le_toInt v359
        have uv359 := Int32.toInt_lt v359
        refine lv_bipush (v := 61) S.x S.b d_Mpr_two_74 (by decide) ?_
        refine lv_icmp_eq (tgt := 83) S.x S.b d_Mpr_two_76 (by decide) (fun c362 => ?_) (fun c362 => ?_)
        · have nc362 : v359.toInt = (61 : Int) := (i_eq (x := v359) (y := 61)).mp c362
          refine lv_iload S.x S.b d_Mpr_two_83 (lv_at hl 0 rfl) ?_
          refine lv_bipush (v := 60) S.x S.b d_Mpr_two_85 (by decide) ?_
          refine lv_icmp_ne (tgt := 103) S.x S.b d_Mpr_two_87 (by decide) (fun c364 => ?_) (fun c364 => ?_)
          · have nc364 : ¬ v299.toInt = (60 : Int) := mt (i_eq (x := v299) (y := 60)).mpr c364
            refine lv_iload_n S.x S.b d_Mpr_two_103 rfl (lv_at hl 4 rfl) ?_
            refine lv_iload_n S.x S.b d_Mpr_two_104 rfl (lv_at hl 5 rfl) ?_
            refine lv_icmp_lt (tgt := 112) S.x S.b d_Mpr_two_105 (by decide) (fun c366 => ?_) (fun c366 => ?_)
            · have nc366 : p1.toInt < p2.toInt := (i_lt (x := p1) (y := p2)).mp c366
              refine lv_iconst (v := 0) S.x S.b d_Mpr_two_112 (by decide) ?_
              refine lv_istore (lv' := [(6, .int 0), (5, .int v299), (4, .ref sk295), (0, .ref q), (1, .int p0), (2, .int p1), (3, .int p2)]) S.x S.b d_Mpr_two_113 hl (by decide) rfl (fun ls hl => ?_)
              refine lv_aload_n S.x S.b d_Mpr_two_115 rfl (lv_at hl 3 rfl) ?_
              refine lv_aload S.x S.b d_Mpr_two_116 (lv_at hl 2 rfl) ?_
              obtain ⟨sk368, hRsk368, st369, sb370, hSsk368⟩ := oLW_lit hSh (k := 186) (tx := "<<") (n := 2) (by decide)
              refine va_ldcS S.x S.b S.own hRsk368 d_Mpr_two_118 ?_
              refine px_calli (pr := [wd_Mpr cs q qr (fun k => if k = 0 then (some h) else none) qf qa qg, wdP cs h r g tf ta pf na ma wa cf ca ef ea xf xa]) (px_runV (As := [.ref sk368]) (rest := [.ref q]) S (c_sg_equals l D cs sk295 st296 (mlen p0.toNatClampNeg) (mby p0.toNatClampNeg) sk368 st369 2 sb370   (show (mlen p0.toNatClampNeg) ≤ 1000000 from by first | exact oz_f8a16524ad e304 nc306 | omega) (show 2 ≤ 1000000 from by omega) _) hT (pr := [wd_Mpr cs q qr (fun k => if k = 0 then (some h) else none) qf qa qg, wdP cs h r g tf ta pf na ma wa cf ca ef ea xf xa]) (pcs := []) hw (oX_call (P := (fun A U H => (oZ A U H) ∧ (oS A sk295 st296 (mlen p0.toNatClampNeg) (mby p0.toNatClampNeg) U H) ∧ (oS A sk368 st369 2 sb370 U H))) (pr := [wd_Mpr cs q qr (fun k => if k = 0 then (some h) else none) qf qa qg, wdP cs h r g tf ta pf na ma wa cf ca ef ea xf xa]) (oG_and oG_Z (oG_and oG_S oG_S)) hw hA ⟨hZ, hSsk295, hSsk368⟩) (oS_recv hw hSsk295) m11_225 m14_155 m11_223 m11_224 m1_3 q_String_equals ⟨Nat.le_of_ble_eq_true rfl, Nat.le_of_ble_eq_true rfl⟩ hl.1 rfl (Nat.le_of_ble_eq_true rfl) d_Mpr_two_120 ⟨Nat.le_of_ble_eq_true rfl, Nat.le_of_ble_eq_true rfl⟩) hw hA (fun v372 p371 H locs hp371 hw => ?_)
              obtain ⟨rfl, e373, e374⟩ := hp371
              have e373 := z_rng e373
              have e374 : R_sg_equals (mlen p0.toNatClampNeg) (mby p0.toNatClampNeg) 2 sb370 v372 := e374
              have hw : pw D A s.heap H locs [wd_Mpr cs q qr (fun k => if k = 0 then (some h) else none) qf qa qg, wdP cs h r g tf ta pf na ma wa cf ca ef ea xf xa] := hw
              have lv372 := Int32.le_toInt v372
              have uv372 := Int32.toInt_lt v372
              refine lv_if_eq (tgt := 132) S.x S.b d_Mpr_two_123 (by decide) (fun c375 => ?_) (fun c375 => ?_)
              · have nc375 : v372.toInt = (0 : Int) := (i_eq (x := v372) (y := 0)).mp c375
                refine lv_aload S.x S.b d_Mpr_two_132 (lv_at hl 2 rfl) ?_
                obtain ⟨sk377, hRsk377, st378, sb379, hSsk377⟩ := oLW_lit hSh (k := 192) (tx := ">>") (n := 2) (by decide)
                refine va_ldcS S.x S.b S.own hRsk377 d_Mpr_two_134 ?_
                refine px_calli (pr := [wd_Mpr cs q qr (fun k => if k = 0 then (some h) else none) qf qa qg, wdP cs h r g tf ta pf na ma wa cf ca ef ea xf xa]) (px_runV (As := [.ref sk377]) (rest := [.ref q]) S (c_sg_equals l D cs sk295 st296 (mlen p0.toNatClampNeg) (mby p0.toNatClampNeg) sk377 st378 2 sb379   (show (mlen p0.toNatClampNeg) ≤ 1000000 from by first | exact oz_f8a16524ad e304 nc306 | omega) (show 2 ≤ 1000000 from by omega) _) hT (pr := [wd_Mpr cs q qr (fun k => if k = 0 then (some h) else none) qf qa qg, wdP cs h r g tf ta pf na ma wa cf ca ef ea xf xa]) (pcs := []) hw (oX_call (P := (fun A U H => (oZ A U H) ∧ (oS A sk295 st296 (mlen p0.toNatClampNeg) (mby p0.toNatClampNeg) U H) ∧ (oS A sk377 st378 2 sb379 U H))) (pr := [wd_Mpr cs q qr (fun k => if k = 0 then (some h) else none) qf qa qg, wdP cs h r g tf ta pf na ma wa cf ca ef ea xf xa]) (oG_and oG_Z (oG_and oG_S oG_S)) hw hA ⟨hZ, hSsk295, hSsk377⟩) (oS_recv hw hSsk295) m11_225 m14_155 m11_223 m11_224 m1_3 q_String_equals ⟨Nat.le_of_ble_eq_true rfl, Nat.le_of_ble_eq_true rfl⟩ hl.1 rfl (Nat.le_of_ble_eq_true rfl) d_Mpr_two_136 ⟨Nat.le_of_ble_eq_true rfl, Nat.le_of_ble_eq_true rfl⟩) hw hA (fun v381 p380 H locs hp380 hw => ?_)
                obtain ⟨rfl, e382, e383⟩ := hp380
                have e382 := z_rng e382
                have e383 : R_sg_equals (mlen p0.toNatClampNeg) (mby p0.toNatClampNeg) 2 sb379 v381 := e383
                have hw : pw D A s.heap H locs [wd_Mpr cs q qr (fun k => if k = 0 then (some h) else none) qf qa qg, wdP cs h r g tf ta pf na ma wa cf ca ef ea xf xa] := hw
                have lv381 := Int32.le_toInt v381
                have uv381 := Int32.toInt_lt v381
                refine lv_if_eq (tgt := 148) S.x S.b d_Mpr_two_139 (by decide) (fun c384 => ?_) (fun c384 => ?_)
                · have nc384 : v381.toInt = (0 : Int) := (i_eq (x := v381) (y := 0)).mp c384
                  refine lv_iload S.x S.b d_Mpr_two_148 (lv_at hl 0 rfl) ?_
                  refine lv_if_eq (tgt := 157) S.x S.b d_Mpr_two_150 (by decide) (fun c386 => ?_) (fun c386 => ?_)
                  ·
                    refine lv_iconst (v := 0) S.x S.b d_Mpr_two_157 (by decide) ?_
                    refine px_callv (pr := []) (px_runV (As := [.int 0]) (rest := []) S (c_mr_give l D cs nf q qr qg qf qa h r g tf ta pf na ma wa cf ca ef ea xf xa 0  (show 0 ≤ (qf 10).toInt from by first | exact g2 | omega) (show (qf 10).toInt < 62500 from by first | exact oz_7621ce4cd5 g3 | omega) _) hT (pr := []) (pcs := [wd_Mpr cs q qr (fun k => if k = 0 then (some h) else none) qf qa qg, wdP cs h r g tf ta pf na ma wa cf ca ef ea xf xa]) hw (oX_call (P := (fun A U H => (oP A g U H))) (pr := []) oG_P hw hA hP) (px_recv hT hw 0 0 rfl rfl rfl) m13_161 m13_158 m13_159 m13_160 m1_22 q_Mpr_give ⟨Nat.le_of_ble_eq_true rfl, Nat.le_of_ble_eq_true rfl⟩ hl.1 rfl (Nat.le_of_ble_eq_true rfl) d_Mpr_two_158 ⟨Nat.le_of_ble_eq_true rfl, Nat.le_of_ble_eq_true rfl⟩) hw hA (fun p391 H locs hp391 hw => ?_)
                    obtain ⟨qf389, qa390, rfl, e393, e394, e395, e396, e397, e398, e399, e400, e401, e402, e403, e404, e405, e406, e407, e408⟩ := hp391
                    have e393 : (qf389 10).toInt = (qf 10).toInt + 1 := e393
                    have e394 : (qf389 1).toInt = (qf 1).toInt := e394
                    have e395 : (qf389 2).toInt = (qf 2).toInt := e395
                    have e396 : (qf389 3).toInt = (qf 3).toInt := e396
                    have e397 : (qf389 4).toInt = (qf 4).toInt := e397
                    have e398 : (qf389 5).toInt = (qf 5).toInt := e398
                    have e399 : (qf389 6).toInt = (qf 6).toInt := e399
                    have e400 : (qf389 7).toInt = (qf 7).toInt := e400
                    have e401 : (qf389 11).toInt = (qf 11).toInt := e401
                    have e402 : (qf389 12).toInt = (qf 12).toInt := e402
                    have e403 : (qf389 13).toInt = (qf 13).toInt := e403
                    have e404 : (qf389 14).toInt = (qf 14).toInt := e404
                    have e405 : (qf389 21).toInt = (qf 21).toInt := e405
                    have e406 : (qf389 23).toInt = (qf 23).toInt := e406
                    have e407 : (qf389 24).toInt = (qf 24).toInt := e407
                    have e408 : NuU qa qa390 9 (qf 10).toInt (0 : Int32) := e408
                    skip
                    have hw : pw D A s.heap H locs [wd_Mpr cs q qr (fun k => if k = 0 then (some h) else none) qf389 qa390 qg, wdP cs h r g tf ta pf na ma wa cf ca ef ea xf xa] := hw
                    exact px_vret S hr hlk hAe hw (Nat.le_of_ble_eq_true rfl) (Nat.le_of_ble_eq_true rfl) (⟨qf389, qa390, rfl, (show TwO (qf389 2).toInt (qf 2).toInt (qf389 10).toInt (qf 10).toInt from (Or.inl ⟨by omega, by omega⟩)), (show (qf389 1).toInt = (qf 1).toInt from by first | exact e394 | omega), (show (qf389 4).toInt = (qf 4).toInt from by first | exact e397 | omega), (show (qf389 5).toInt = (qf 5).toInt from by first | exact e398 | omega), (show (qf389 6).toInt = (qf 6).toInt from by first | exact e399 | omega), (show (qf389 7).toInt = (qf 7).toInt from by first | exact e400 | omega), (show (qf389 11).toInt = (qf 11).toInt from by first | exact e401 | omega), (show (qf389 12).toInt = (qf 12).toInt from by first | exact e402 | omega), (show (qf389 13).toInt = (qf 13).toInt from by first | exact e403 | omega), (show (qf389 14).toInt = (qf 14).toInt from by first | exact e404 | omega), (show (qf389 21).toInt = (qf 21).toInt from by first | exact e405 | omega), (show (qf389 23).toInt = (qf 23).toInt from by first | exact e406 | omega), (show (qf389 24).toInt = (qf 24).toInt from by first | exact e407 | omega), (show WrU qa qa390 (qf 10).toInt (-1) from e408.w)⟩) d_Mpr_two_161
                  · exact absurd c386 (by decide)
                · have nc384 : ¬ v381.toInt = (0 : Int) := mt (i_eq (x := v381) (y := 0)).mpr c384
                  refine lv_iload_n S.x S.b d_Mpr_two_142 rfl (lv_at hl 5 rfl) ?_
                  refine lv_iload_n S.x S.b d_Mpr_two_143 rfl (lv_at hl 6 rfl) ?_
                  refine lv_ishr S.x S.b d_Mpr_two_144 ?_
                  refine lv_topi (fun z409 ez409 => ?_)
                  have lz409 := Int32.le_toInt z409
                  have uz409 := Int32.toInt_lt z409
                  refine lv_goto (tgt := 158) S.x S.b d_Mpr_two_145 (by decide) ?_
                  refine px_callv (pr := []) (px_runV (As := [.int z409]) (rest := []) S (c_mr_give l D cs nf q qr qg qf qa h r g tf ta pf na ma wa cf ca ef ea xf xa z409  (show 0 ≤ (qf 10).toInt from by first | exact g2 | omega) (show (qf 10).toInt < 62500 from by first | exact oz_7621ce4cd5 g3 | omega) _) hT (pr := []) (pcs := [wd_Mpr cs q qr (fun k => if k = 0 then (some h) else none) qf qa qg, wdP cs h r g tf ta pf na ma wa cf ca ef ea xf xa]) hw (oX_call (P := (fun A U H => (oP A g U H))) (pr := []) oG_P hw hA hP) (px_recv hT hw 0 0 rfl rfl rfl) m13_161 m13_158 m13_159 m13_160 m1_22 q_Mpr_give ⟨Nat.le_of_ble_eq_true rfl, Nat.le_of_ble_eq_true rfl⟩ hl.1 rfl (Nat.le_of_ble_eq_true rfl) d_Mpr_two_158 ⟨Nat.le_of_ble_eq_true rfl, Nat.le_of_ble_eq_true rfl⟩) hw hA (fun p414 H locs hp414 hw => ?_)
                  obtain ⟨qf412, qa413, rfl, e416, e417, e418, e419, e420, e421, e422, e423, e424, e425, e426, e427, e428, e429, e430, e431⟩ := hp414
                  have e416 : (qf412 10).toInt = (qf 10).toInt + 1 := e416
                  have e417 : (qf412 1).toInt = (qf 1).toInt := e417
                  have e418 : (qf412 2).toInt = (qf 2).toInt := e418
                  have e419 : (qf412 3).toInt = (qf 3).toInt := e419
                  have e420 : (qf412 4).toInt = (qf 4).toInt := e420
                  have e421 : (qf412 5).toInt = (qf 5).toInt := e421
                  have e422 : (qf412 6).toInt = (qf 6).toInt := e422
                  have e423 : (qf412 7).toInt = (qf 7).toInt := e423
                  have e424 : (qf412 11).toInt = (qf 11).toInt := e424
                  have e425 : (qf412 12).toInt = (qf 12).toInt := e425
                  have e426 : (qf412 13).toInt = (qf 13).toInt := e426
                  have e427 : (qf412 14).toInt = (qf 14).toInt := e427
                  have e428 : (qf412 21).toInt = (qf 21).toInt := e428
                  have e429 : (qf412 23).toInt = (qf 23).toInt := e429
                  have e430 : (qf412 24).toInt = (qf 24).toInt := e430
                  have e431 : NuU qa qa413 9 (qf 10).toInt z409 := e431
                  skip
                  have hw : pw D A s.heap H locs [wd_Mpr cs q qr (fun k => if k = 0 then (some h) else none) qf412 qa413 qg, wdP cs h r g tf ta pf na ma wa cf ca ef ea xf xa] := hw
                  exact px_vret S hr hlk hAe hw (Nat.le_of_ble_eq_true rfl) (Nat.le_of_ble_eq_true rfl) (⟨qf412, qa413, rfl, (show TwO (qf412 2).toInt (qf 2).toInt (qf412 10).toInt (qf 10).toInt from (Or.inl ⟨by omega, by omega⟩)), (show (qf412 1).toInt = (qf 1).toInt from by first | exact e417 | omega), (show (qf412 4).toInt = (qf 4).toInt from by first | exact e420 | omega), (show (qf412 5).toInt = (qf 5).toInt from by first | exact e421 | omega), (show (qf412 6).toInt = (qf 6).toInt from by first | exact e422 | omega), (show (qf412 7).toInt = (qf 7).toInt from by first | exact e423 | omega), (show (qf412 11).toInt = (qf 11).toInt from by first | exact e424 | omega), (show (qf412 12).toInt = (qf 12).toInt from by first | exact e425 | omega), (show (qf412 13).toInt = (qf 13).toInt from by first | exact e426 | omega), (show (qf412 14).toInt = (qf 14).toInt from by first | exact e427 | omega), (show (qf412 21).toInt = (qf 21).toInt from by first | exact e428 | omega), (show (qf412 23).toInt = (qf 23).toInt from by first | exact e429 | omega), (show (qf412 24).toInt = (qf 24).toInt from by first | exact e430 | omega), (show WrU qa qa413 (qf 10).toInt (-1) from e431.w)⟩) d_Mpr_two_161
              · have nc375 : ¬ v372.toInt = (0 : Int) := mt (i_eq (x := v372) (y := 0)).mpr c375
                refine lv_iload_n S.x S.b d_Mpr_two_126 rfl (lv_at hl 5 rfl) ?_
                refine lv_iload_n S.x S.b d_Mpr_two_127 rfl (lv_at hl 6 rfl) ?_
                refine lv_ishl S.x S.b d_Mpr_two_128 ?_
                refine lv_topi (fun z432 ez432 => ?_)
                have lz432 := Int32.le_toInt z432
                have uz432 := Int32.toInt_lt z432
                refine lv_goto (tgt := 158) S.x S.b d_Mpr_two_129 (by decide) ?_
                refine px_callv (pr := []) (px_runV (As := [.int z432]) (rest := []) S (c_mr_give l D cs nf q qr qg qf qa h r g tf ta pf na ma wa cf ca ef ea xf xa z432  (show 0 ≤ (qf 10).toInt from by first | exact g2 | omega) (show (qf 10).toInt < 62500 from by first | exact oz_7621ce4cd5 g3 | omega) _) hT (pr := []) (pcs := [wd_Mpr cs q qr (fun k => if k = 0 then (some h) else none) qf qa qg, wdP cs h r g tf ta pf na ma wa cf ca ef ea xf xa]) hw (oX_call (P := (fun A U H => (oP A g U H))) (pr := []) oG_P hw hA hP) (px_recv hT hw 0 0 rfl rfl rfl) m13_161 m13_158 m13_159 m13_160 m1_22 q_Mpr_give ⟨Nat.le_of_ble_eq_true rfl, Nat.le_of_ble_eq_true rfl⟩ hl.1 rfl (Nat.le_of_ble_eq_true rfl) d_Mpr_two_158 ⟨Nat.le_of_ble_eq_true rfl, Nat.le_of_ble_eq_true rfl⟩) hw hA (fun p437 H locs hp437 hw => ?_)
                obtain ⟨qf435, qa436, rfl, e439, e440, e441, e442, e443, e444, e445, e446, e447, e448, e449, e450, e451, e452, e453, e454⟩ := hp437
                have e439 : (qf435 10).toInt = (qf 10).toInt + 1 := e439
                have e440 : (qf435 1).toInt = (qf 1).toInt := e440
                have e441 : (qf435 2).toInt = (qf 2).toInt := e441
                have e442 : (qf435 3).toInt = (qf 3).toInt := e442
                have e443 : (qf435 4).toInt = (qf 4).toInt := e443
                have e444 : (qf435 5).toInt = (qf 5).toInt := e444
                have e445 : (qf435 6).toInt = (qf 6).toInt := e445
                have e446 : (qf435 7).toInt = (qf 7).toInt := e446
                have e447 : (qf435 11).toInt = (qf 11).toInt := e447
                have e448 : (qf435 12).toInt = (qf 12).toInt := e448
                have e449 : (qf435 13).toInt = (qf 13).toInt := e449
                have e450 : (qf435 14).toInt = (qf 14).toInt := e450
                have e451 : (qf435 21).toInt = (qf 21).toInt := e451
                have e452 : (qf435 23).toInt = (qf 23).toInt := e452
                have e453 : (qf435 24).toInt = (qf 24).toInt := e453
                have e454 : NuU qa qa436 9 (qf 10).toInt z432 := e454
                skip
                have hw : pw D A s.heap H locs [wd_Mpr cs q qr (fun k => if k = 0 then (some h) else none) qf435 qa436 qg, wdP cs h r g tf ta pf na ma wa cf ca ef ea xf xa] := hw
                exact px_vret S hr hlk hAe hw (Nat.le_of_ble_eq_true rfl) (Nat.le_of_ble_eq_true rfl) (⟨qf435, qa436, rfl, (show TwO (qf435 2).toInt (qf 2).toInt (qf435 10).toInt (qf 10).toInt from (Or.inl ⟨by omega, by omega⟩)), (show (qf435 1).toInt = (qf 1).toInt from by first | exact e440 | omega), (show (qf435 4).toInt = (qf 4).toInt from by first | exact e443 | omega), (show (qf435 5).toInt = (qf 5).toInt from by first | exact e444 | omega), (show (qf435 6).toInt = (qf 6).toInt from by first | exact e445 | omega), (show (qf435 7).toInt = (qf 7).toInt from by first | exact e446 | omega), (show (qf435 11).toInt = (qf 11).toInt from by first | exact e447 | omega), (show (qf435 12).toInt = (qf 12).toInt from by first | exact e448 | omega), (show (qf435 13).toInt = (qf 13).toInt from by first | exact e449 | omega), (show (qf435 14).toInt = (qf 14).toInt from by first | exact e450 | omega), (show (qf435 21).toInt = (qf 21).toInt from by first | exact e451 | omega), (show (qf435 23).toInt = (qf 23).toInt from by first | exact e452 | omega), (show (qf435 24).toInt = (qf 24).toInt from by first | exact e453 | omega), (show WrU qa qa436 (qf 10).toInt (-1) from e454.w)⟩) d_Mpr_two_161
            · have nc366 : ¬ p1.toInt < p2.toInt := mt (i_lt (x := p1) (y := p2)).mpr c366
              refine lv_iconst (v := 1) S.x S.b d_Mpr_two_108 (by decide) ?_
              refine lv_goto (tgt := 113) S.x S.b d_Mpr_two_109 (by decide) ?_
              refine lv_istore (lv' := [(6, .int 1), (5, .int v299), (4, .ref sk295), (0, .ref q), (1, .int p0), (2, .int p1), (3, .int p2)]) S.x S.b d_Mpr_two_113 hl (by decide) rfl (fun ls hl => ?_)
              refine lv_aload_n S.x S.b d_Mpr_two_115 rfl (lv_at hl 3 rfl) ?_
              refine lv_aload S.x S.b d_Mpr_two_116 (lv_at hl 2 rfl) ?_
              obtain ⟨sk455, hRsk455, st456, sb457, hSsk455⟩ := oLW_lit hSh (k := 186) (tx := "<<") (n := 2) (by decide)
              refine va_ldcS S.x S.b S.own hRsk455 d_Mpr_two_118 ?_
              refine px_calli (pr := [wd_Mpr cs q qr (fun k => if k = 0 then (some h) else none) qf qa qg, wdP cs h r g tf ta pf na ma wa cf ca ef ea xf xa]) (px_runV (As := [.ref sk455]) (rest := [.ref q]) S (c_sg_equals l D cs sk295 st296 (mlen p0.toNatClampNeg) (mby p0.toNatClampNeg) sk455 st456 2 sb457   (show (mlen p0.toNatClampNeg) ≤ 1000000 from by first | exact oz_f8a16524ad e304 nc306 | omega) (show 2 ≤ 1000000 from by omega) _) hT (pr := [wd_Mpr cs q qr (fun k => if k = 0 then (some h) else none) qf qa qg, wdP cs h r g tf ta pf na ma wa cf ca ef ea xf xa]) (pcs := []) hw (oX_call (P := (fun A U H => (oZ A U H) ∧ (oS A sk295 st296 (mlen p0.toNatClampNeg) (mby p0.toNatClampNeg) U H) ∧ (oS A sk455 st456 2 sb457 U H))) (pr := [wd_Mpr cs q qr (fun k => if k = 0 then (some h) else none) qf qa qg, wdP cs h r g tf ta pf na ma wa cf ca ef ea xf xa]) (oG_and oG_Z (oG_and oG_S oG_S)) hw hA ⟨hZ, hSsk295, hSsk455⟩) (oS_recv hw hSsk295) m11_225 m14_155 m11_223 m11_224 m1_3 q_String_equals ⟨Nat.le_of_ble_eq_true rfl, Nat.le_of_ble_eq_true rfl⟩ hl.1 rfl (Nat.le_of_ble_eq_true rfl) d_Mpr_two_120 ⟨Nat.le_of_ble_eq_true rfl, Nat.le_of_ble_eq_true rfl⟩) hw hA (fun v459 p458 H locs hp458 hw => ?_)
              obtain ⟨rfl, e460, e461⟩ := hp458
              have e460 := z_rng e460
              have e461 : R_sg_equals (mlen p0.toNatClampNeg) (mby p0.toNatClampNeg) 2 sb457 v459 := e461
              have hw : pw D A s.heap H locs [wd_Mpr cs q qr (fun k => if k = 0 then (some h) else none) qf qa qg, wdP cs h r g tf ta pf na ma wa cf ca ef ea xf xa] := hw
              have lv459 := Int32.le_toInt v459
              have uv459 := Int32.toInt_lt v459
              refine lv_if_eq (tgt := 132) S.x S.b d_Mpr_two_123 (by decide) (fun c462 => ?_) (fun c462 => ?_)
              · have nc462 : v459.toInt = (0 : Int) := (i_eq (x := v459) (y := 0)).mp c462
                refine lv_aload S.x S.b d_Mpr_two_132 (lv_at hl 2 rfl) ?_
                obtain ⟨sk464, hRsk464, st465, sb466, hSsk464⟩ := oLW_lit hSh (k := 192) (tx := ">>") (n := 2) (by decide)
                refine va_ldcS S.x S.b S.own hRsk464 d_Mpr_two_134 ?_
                refine px_calli (pr := [wd_Mpr cs q qr (fun k => if k = 0 then (some h) else none) qf qa qg, wdP cs h r g tf ta pf na ma wa cf ca ef ea xf xa]) (px_runV (As := [.ref sk464]) (rest := [.ref q]) S (c_sg_equals l D cs sk295 st296 (mlen p0.toNatClampNeg) (mby p0.toNatClampNeg) sk464 st465 2 sb466   (show (mlen p0.toNatClampNeg) ≤ 1000000 from by first | exact oz_f8a16524ad e304 nc306 | omega) (show 2 ≤ 1000000 from by omega) _) hT (pr := [wd_Mpr cs q qr (fun k => if k = 0 then (some h) else none) qf qa qg, wdP cs h r g tf ta pf na ma wa cf ca ef ea xf xa]) (pcs := []) hw (oX_call (P := (fun A U H => (oZ A U H) ∧ (oS A sk295 st296 (mlen p0.toNatClampNeg) (mby p0.toNatClampNeg) U H) ∧ (oS A sk464 st465 2 sb466 U H))) (pr := [wd_Mpr cs q qr (fun k => if k = 0 then (some h) else none) qf qa qg, wdP cs h r g tf ta pf na ma wa cf ca ef ea xf xa]) (oG_and oG_Z (oG_and oG_S oG_S)) hw hA ⟨hZ, hSsk295, hSsk464⟩) (oS_recv hw hSsk295) m11_225 m14_155 m11_223 m11_224 m1_3 q_String_equals ⟨Nat.le_of_ble_eq_true rfl, Nat.le_of_ble_eq_true rfl⟩ hl.1 rfl (Nat.le_of_ble_eq_true rfl) d_Mpr_two_136 ⟨Nat.le_of_ble_eq_true rfl, Nat.le_of_ble_eq_true rfl⟩) hw hA (fun v468 p467 H locs hp467 hw => ?_)
                obtain ⟨rfl, e469, e470⟩ := hp467
                have e469 := z_rng e469
                have e470 : R_sg_equals (mlen p0.toNatClampNeg) (mby p0.toNatClampNeg) 2 sb466 v468 := e470
                have hw : pw D A s.heap H locs [wd_Mpr cs q qr (fun k => if k = 0 then (some h) else none) qf qa qg, wdP cs h r g tf ta pf na ma wa cf ca ef ea xf xa] := hw
                have lv468 := Int32.le_toInt v468
                have uv468 := Int32.toInt_lt v468
                refine lv_if_eq (tgt := 148) S.x S.b d_Mpr_two_139 (by decide) (fun c471 => ?_) (fun c471 => ?_)
                · have nc471 : v468.toInt = (0 : Int) := (i_eq (x := v468) (y := 0)).mp c471
                  refine lv_iload S.x S.b d_Mpr_two_148 (lv_at hl 0 rfl) ?_
                  refine lv_if_eq (tgt := 157) S.x S.b d_Mpr_two_150 (by decide) (fun c473 => ?_) (fun c473 => ?_)
                  · exact absurd c473 (by decide)
                  ·
                    refine lv_iconst (v := 1) S.x S.b d_Mpr_two_153 (by decide) ?_
                    refine lv_goto (tgt := 158) S.x S.b d_Mpr_two_154 (by decide) ?_
                    refine px_callv (pr := []) (px_runV (As := [.int 1]) (rest := []) S (c_mr_give l D cs nf q qr qg qf qa h r g tf ta pf na ma wa cf ca ef ea xf xa 1  (show 0 ≤ (qf 10).toInt from by first | exact g2 | omega) (show (qf 10).toInt < 62500 from by first | exact oz_7621ce4cd5 g3 | omega) _) hT (pr := []) (pcs := [wd_Mpr cs q qr (fun k => if k = 0 then (some h) else none) qf qa qg, wdP cs h r g tf ta pf na ma wa cf ca ef ea xf xa]) hw (oX_call (P := (fun A U H => (oP A g U H))) (pr := []) oG_P hw hA hP) (px_recv hT hw 0 0 rfl rfl rfl) m13_161 m13_158 m13_159 m13_160 m1_22 q_Mpr_give ⟨Nat.le_of_ble_eq_true rfl, Nat.le_of_ble_eq_true rfl⟩ hl.1 rfl (Nat.le_of_ble_eq_true rfl) d_Mpr_two_158 ⟨Nat.le_of_ble_eq_true rfl, Nat.le_of_ble_eq_true rfl⟩) hw hA (fun p478 H locs hp478 hw => ?_)
                    obtain ⟨qf476, qa477, rfl, e480, e481, e482, e483, e484, e485, e486, e487, e488, e489, e490, e491, e492, e493, e494, e495⟩ := hp478
                    have e480 : (qf476 10).toInt = (qf 10).toInt + 1 := e480
                    have e481 : (qf476 1).toInt = (qf 1).toInt := e481
                    have e482 : (qf476 2).toInt = (qf 2).toInt := e482
                    have e483 : (qf476 3).toInt = (qf 3).toInt := e483
                    have e484 : (qf476 4).toInt = (qf 4).toInt := e484
                    have e485 : (qf476 5).toInt = (qf 5).toInt := e485
                    have e486 : (qf476 6).toInt = (qf 6).toInt := e486
                    have e487 : (qf476 7).toInt = (qf 7).toInt := e487
                    have e488 : (qf476 11).toInt = (qf 11).toInt := e488
                    have e489 : (qf476 12).toInt = (qf 12).toInt := e489
                    have e490 : (qf476 13).toInt = (qf 13).toInt := e490
                    have e491 : (qf476 14).toInt = (qf 14).toInt := e491
                    have e492 : (qf476 21).toInt = (qf 21).toInt := e492
                    have e493 : (qf476 23).toInt = (qf 23).toInt := e493
                    have e494 : (qf476 24).toInt = (qf 24).toInt := e494
                    have e495 : NuU qa qa477 9 (qf 10).toInt (1 : Int32) := e495
                    skip
                    have hw : pw D A s.heap H locs [wd_Mpr cs q qr (fun k => if k = 0 then (some h) else none) qf476 qa477 qg, wdP cs h r g tf ta pf na ma wa cf ca ef ea xf xa] := hw
                    exact px_vret S hr hlk hAe hw (Nat.le_of_ble_eq_true rfl) (Nat.le_of_ble_eq_true rfl) (⟨qf476, qa477, rfl, (show TwO (qf476 2).toInt (qf 2).toInt (qf476 10).toInt (qf 10).toInt from (Or.inl ⟨by omega, by omega⟩)), (show (qf476 1).toInt = (qf 1).toInt from by first | exact e481 | omega), (show (qf476 4).toInt = (qf 4).toInt from by first | exact e484 | omega), (show (qf476 5).toInt = (qf 5).toInt from by first | exact e485 | omega), (show (qf476 6).toInt = (qf 6).toInt from by first | exact e486 | omega), (show (qf476 7).toInt = (qf 7).toInt from by first | exact e487 | omega), (show (qf476 11).toInt = (qf 11).toInt from by first | exact e488 | omega), (show (qf476 12).toInt = (qf 12).toInt from by first | exact e489 | omega), (show (qf476 13).toInt = (qf 13).toInt from by first | exact e490 | omega), (show (qf476 14).toInt = (qf 14).toInt from by first | exact e491 | omega), (show (qf476 21).toInt = (qf 21).toInt from by first | exact e492 | omega), (show (qf476 23).toInt = (qf 23).toInt from by first | exact e493 | omega), (show (qf476 24).toInt = (qf 24).toInt from by first | exact e494 | omega), (show WrU qa qa477 (qf 10).toInt (-1) from e495.w)⟩) d_Mpr_two_161
                · have nc471 : ¬ v468.toInt = (0 : Int) := mt (i_eq (x := v468) (y := 0)).mpr c471
                  refine lv_iload_n S.x S.b d_Mpr_two_142 rfl (lv_at hl 5 rfl) ?_
                  refine lv_iload_n S.x S.b d_Mpr_two_143 rfl (lv_at hl 6 rfl) ?_
                  refine lv_ishr S.x S.b d_Mpr_two_144 ?_
                  refine lv_topi (fun z496 ez496 => ?_)
                  have lz496 := Int32.le_toInt z496
                  have uz496 := Int32.toInt_lt z496
                  refine lv_goto (tgt := 158) S.x S.b d_Mpr_two_145 (by decide) ?_
                  refine px_callv (pr := []) (px_runV (As := [.int z496]) (rest := []) S (c_mr_give l D cs nf q qr qg qf qa h r g tf ta pf na ma wa cf ca ef ea xf xa z496  (show 0 ≤ (qf 10).toInt from by first | exact g2 | omega) (show (qf 10).toInt < 62500 from by first | exact oz_7621ce4cd5 g3 | omega) _) hT (pr := []) (pcs := [wd_Mpr cs q qr (fun k => if k = 0 then (some h) else none) qf qa qg, wdP cs h r g tf ta pf na ma wa cf ca ef ea xf xa]) hw (oX_call (P := (fun A U H => (oP A g U H))) (pr := []) oG_P hw hA hP) (px_recv hT hw 0 0 rfl rfl rfl) m13_161 m13_158 m13_159 m13_160 m1_22 q_Mpr_give ⟨Nat.le_of_ble_eq_true rfl, Nat.le_of_ble_eq_true rfl⟩ hl.1 rfl (Nat.le_of_ble_eq_true rfl) d_Mpr_two_158 ⟨Nat.le_of_ble_eq_true rfl, Nat.le_of_ble_eq_true rfl⟩) hw hA (fun p501 H locs hp501 hw => ?_)
                  obtain ⟨qf499, qa500, rfl, e503, e504, e505, e506, e507, e508, e509, e510, e511, e512, e513, e514, e515, e516, e517, e518⟩ := hp501
                  have e503 : (qf499 10).toInt = (qf 10).toInt + 1 := e503
                  have e504 : (qf499 1).toInt = (qf 1).toInt := e504
                  have e505 : (qf499 2).toInt = (qf 2).toInt := e505
                  have e506 : (qf499 3).toInt = (qf 3).toInt := e506
                  have e507 : (qf499 4).toInt = (qf 4).toInt := e507
                  have e508 : (qf499 5).toInt = (qf 5).toInt := e508
                  have e509 : (qf499 6).toInt = (qf 6).toInt := e509
                  have e510 : (qf499 7).toInt = (qf 7).toInt := e510
                  have e511 : (qf499 11).toInt = (qf 11).toInt := e511
                  have e512 : (qf499 12).toInt = (qf 12).toInt := e512
                  have e513 : (qf499 13).toInt = (qf 13).toInt := e513
                  have e514 : (qf499 14).toInt = (qf 14).toInt := e514
                  have e515 : (qf499 21).toInt = (qf 21).toInt := e515
                  have e516 : (qf499 23).toInt = (qf 23).toInt := e516
                  have e517 : (qf499 24).toInt = (qf 24).toInt := e517
                  have e518 : NuU qa qa500 9 (qf 10).toInt z496 := e518
                  skip
                  have hw : pw D A s.heap H locs [wd_Mpr cs q qr (fun k => if k = 0 then (some h) else none) qf499 qa500 qg, wdP cs h r g tf ta pf na ma wa cf ca ef ea xf xa] := hw
                  exact px_vret S hr hlk hAe hw (Nat.le_of_ble_eq_true rfl) (Nat.le_of_ble_eq_true rfl) (⟨qf499, qa500, rfl, (show TwO (qf499 2).toInt (qf 2).toInt (qf499 10).toInt (qf 10).toInt from (Or.inl ⟨by omega, by omega⟩)), (show (qf499 1).toInt = (qf 1).toInt from by first | exact e504 | omega), (show (qf499 4).toInt = (qf 4).toInt from by first | exact e507 | omega), (show (qf499 5).toInt = (qf 5).toInt from by first | exact e508 | omega), (show (qf499 6).toInt = (qf 6).toInt from by first | exact e509 | omega), (show (qf499 7).toInt = (qf 7).toInt from by first | exact e510 | omega), (show (qf499 11).toInt = (qf 11).toInt from by first | exact e511 | omega), (show (qf499 12).toInt = (qf 12).toInt from by first | exact e512 | omega), (show (qf499 13).toInt = (qf 13).toInt from by first | exact e513 | omega), (show (qf499 14).toInt = (qf 14).toInt from by first | exact e514 | omega), (show (qf499 21).toInt = (qf 21).toInt from by first | exact e515 | omega), (show (qf499 23).toInt = (qf 23).toInt from by first | exact e516 | omega), (show (qf499 24).toInt = (qf 24).toInt from by first | exact e517 | omega), (show WrU qa qa500 (qf 10).toInt (-1) from e518.w)⟩) d_Mpr_two_161
              · have nc462 : ¬ v459.toInt = (0 : Int) := mt (i_eq (x := v459) (y := 0)).mpr c462
                refine lv_iload_n S.x S.b d_Mpr_two_126 rfl (lv_at hl 5 rfl) ?_
                refine lv_iload_n S.x S.b d_Mpr_two_127 rfl (lv_at hl 6 rfl) ?_
                refine lv_ishl S.x S.b d_Mpr_two_128 ?_
                refine lv_topi (fun z519 ez519 => ?_)
                have lz519 := Int32.le_toInt z519
                have uz519 := Int32.toInt_lt z519
                refine lv_goto (tgt := 158) S.x S.b d_Mpr_two_129 (by decide) ?_
                refine px_callv (pr := []) (px_runV (As := [.int z519]) (rest := []) S (c_mr_give l D cs nf q qr qg qf qa h r g tf ta pf na ma wa cf ca ef ea xf xa z519  (show 0 ≤ (qf 10).toInt from by first | exact g2 | omega) (show (qf 10).toInt < 62500 from by first | exact oz_7621ce4cd5 g3 | omega) _) hT (pr := []) (pcs := [wd_Mpr cs q qr (fun k => if k = 0 then (some h) else none) qf qa qg, wdP cs h r g tf ta pf na ma wa cf ca ef ea xf xa]) hw (oX_call (P := (fun A U H => (oP A g U H))) (pr := []) oG_P hw hA hP) (px_recv hT hw 0 0 rfl rfl rfl) m13_161 m13_158 m13_159 m13_160 m1_22 q_Mpr_give ⟨Nat.le_of_ble_eq_true rfl, Nat.le_of_ble_eq_true rfl⟩ hl.1 rfl (Nat.le_of_ble_eq_true rfl) d_Mpr_two_158 ⟨Nat.le_of_ble_eq_true rfl, Nat.le_of_ble_eq_true rfl⟩) hw hA (fun p524 H locs hp524 hw => ?_)
                obtain ⟨qf522, qa523, rfl, e526, e527, e528, e529, e530, e531, e532, e533, e534, e535, e536, e537, e538, e539, e540, e541⟩ := hp524
                have e526 : (qf522 10).toInt = (qf 10).toInt + 1 := e526
                have e527 : (qf522 1).toInt = (qf 1).toInt := e527
                have e528 : (qf522 2).toInt = (qf 2).toInt := e528
                have e529 : (qf522 3).toInt = (qf 3).toInt := e529
                have e530 : (qf522 4).toInt = (qf 4).toInt := e530
                have e531 : (qf522 5).toInt = (qf 5).toInt := e531
                have e532 : (qf522 6).toInt = (qf 6).toInt := e532
                have e533 : (qf522 7).toInt = (qf 7).toInt := e533
                have e534 : (qf522 11).toInt = (qf 11).toInt := e534
                have e535 : (qf522 12).toInt = (qf 12).toInt := e535
                have e536 : (qf522 13).toInt = (qf 13).toInt := e536
                have e537 : (qf522 14).toInt = (qf 14).toInt := e537
                have e538 : (qf522 21).toInt = (qf 21).toInt := e538
                have e539 : (qf522 23).toInt = (qf 23).toInt := e539
                have e540 : (qf522 24).toInt = (qf 24).toInt := e540
                have e541 : NuU qa qa523 9 (qf 10).toInt z519 := e541
                skip
                have hw : pw D A s.heap H locs [wd_Mpr cs q qr (fun k => if k = 0 then (some h) else none) qf522 qa523 qg, wdP cs h r g tf ta pf na ma wa cf ca ef ea xf xa] := hw
                exact px_vret S hr hlk hAe hw (Nat.le_of_ble_eq_true rfl) (Nat.le_of_ble_eq_true rfl) (⟨qf522, qa523, rfl, (show TwO (qf522 2).toInt (qf 2).toInt (qf522 10).toInt (qf 10).toInt from (Or.inl ⟨by omega, by omega⟩)), (show (qf522 1).toInt = (qf 1).toInt from by first | exact e527 | omega), (show (qf522 4).toInt = (qf 4).toInt from by first | exact e530 | omega), (show (qf522 5).toInt = (qf 5).toInt from by first | exact e531 | omega), (show (qf522 6).toInt = (qf 6).toInt from by first | exact e532 | omega), (show (qf522 7).toInt = (qf 7).toInt from by first | exact e533 | omega), (show (qf522 11).toInt = (qf 11).toInt from by first | exact e534 | omega), (show (qf522 12).toInt = (qf 12).toInt from by first | exact e535 | omega), (show (qf522 13).toInt = (qf 13).toInt from by first | exact e536 | omega), (show (qf522 14).toInt = (qf 14).toInt from by first | exact e537 | omega), (show (qf522 21).toInt = (qf 21).toInt from by first | exact e538 | omega), (show (qf522 23).toInt = (qf 23).toInt from by first | exact e539 | omega), (show (qf522 24).toInt = (qf 24).toInt from by first | exact e540 | omega), (show WrU qa qa523 (qf 10).toInt (-1) from e541.w)⟩) d_Mpr_two_161
          · have nc364 : v299.toInt = (60 : Int) := (i_eq (x := v299) (y := 60)).mp c364
            refine lv_iload_n S.x S.b d_Mpr_two_90 rfl (lv_at hl 4 rfl) ?_
            refine lv_iload_n S.x S.b d_Mpr_two_91 rfl (lv_at hl 5 rfl) ?_
            refine lv_icmp_gt (tgt := 99) S.x S.b d_Mpr_two_92 (by decide) (fun c542 => ?_) (fun c542 => ?_)
            · have nc542 : p2.toInt < p1.toInt := (i_lt (x := p2) (y := p1)).mp c542
              refine lv_iconst (v := 0) S.x S.b d_Mpr_two_99 (by decide) ?_
              refine lv_goto (tgt := 113) S.x S.b d_Mpr_two_100 (by decide) ?_
              refine lv_istore (lv' := [(6, .int 0), (5, .int v299), (4, .ref sk295), (0, .ref q), (1, .int p0), (2, .int p1), (3, .int p2)]) S.x S.b d_Mpr_two_113 hl (by decide) rfl (fun ls hl => ?_)
              refine lv_aload_n S.x S.b d_Mpr_two_115 rfl (lv_at hl 3 rfl) ?_
              refine lv_aload S.x S.b d_Mpr_two_116 (lv_at hl 2 rfl) ?_
              obtain ⟨sk544, hRsk544, st545, sb546, hSsk544⟩ := oLW_lit hSh (k := 186) (tx := "<<") (n := 2) (by decide)
              refine va_ldcS S.x S.b S.own hRsk544 d_Mpr_two_118 ?_
              refine px_calli (pr := [wd_Mpr cs q qr (fun k => if k = 0 then (some h) else none) qf qa qg, wdP cs h r g tf ta pf na ma wa cf ca ef ea xf xa]) (px_runV (As := [.ref sk544]) (rest := [.ref q]) S (c_sg_equals l D cs sk295 st296 (mlen p0.toNatClampNeg) (mby p0.toNatClampNeg) sk544 st545 2 sb546   (show (mlen p0.toNatClampNeg) ≤ 1000000 from by first | exact oz_f8a16524ad e304 nc306 | omega) (show 2 ≤ 1000000 from by omega) _) hT (pr := [wd_Mpr cs q qr (fun k => if k = 0 then (some h) else none) qf qa qg, wdP cs h r g tf ta pf na ma wa cf ca ef ea xf xa]) (pcs := []) hw (oX_call (P := (fun A U H => (oZ A U H) ∧ (oS A sk295 st296 (mlen p0.toNatClampNeg) (mby p0.toNatClampNeg) U H) ∧ (oS A sk544 st545 2 sb546 U H))) (pr := [wd_Mpr cs q qr (fun k => if k = 0 then (some h) else none) qf qa qg, wdP cs h r g tf ta pf na ma wa cf ca ef ea xf xa]) (oG_and oG_Z (oG_and oG_S oG_S)) hw hA ⟨hZ, hSsk295, hSsk544⟩) (oS_recv hw hSsk295) m11_225 m14_155 m11_223 m11_224 m1_3 q_String_equals ⟨Nat.le_of_ble_eq_true rfl, Nat.le_of_ble_eq_true rfl⟩ hl.1 rfl (Nat.le_of_ble_eq_true rfl) d_Mpr_two_120 ⟨Nat.le_of_ble_eq_true rfl, Nat.le_of_ble_eq_true rfl⟩) hw hA (fun v548 p547 H locs hp547 hw => ?_)
              obtain ⟨rfl, e549, e550⟩ := hp547
              have e549 := z_rng e549
              have e550 : R_sg_equals (mlen p0.toNatClampNeg) (mby p0.toNatClampNeg) 2 sb546 v548 := e550
              have hw : pw D A s.heap H locs [wd_Mpr cs q qr (fun k => if k = 0 then (some h) else none) qf qa qg, wdP cs h r g tf ta pf na ma wa cf ca ef ea xf xa] := hw
              have lv548 := Int32.le_toInt v548
              have uv548 := Int32.toInt_lt v548
              refine lv_if_eq (tgt := 132) S.x S.b d_Mpr_two_123 (by decide) (fun c551 => ?_) (fun c551 => ?_)
              · have nc551 : v548.toInt = (0 : Int) := (i_eq (x := v548) (y := 0)).mp c551
                refine lv_aload S.x S.b d_Mpr_two_132 (lv_at hl 2 rfl) ?_
                obtain ⟨sk553, hRsk553, st554, sb555, hSsk553⟩ := oLW_lit hSh (k := 192) (tx := ">>") (n := 2) (by decide)
                refine va_ldcS S.x S.b S.own hRsk553 d_Mpr_two_134 ?_
                refine px_calli (pr := [wd_Mpr cs q qr (fun k => if k = 0 then (some h) else none) qf qa qg, wdP cs h r g tf ta pf na ma wa cf ca ef ea xf xa]) (px_runV (As := [.ref sk553]) (rest := [.ref q]) S (c_sg_equals l D cs sk295 st296 (mlen p0.toNatClampNeg) (mby p0.toNatClampNeg) sk553 st554 2 sb555   (show (mlen p0.toNatClampNeg) ≤ 1000000 from by first | exact oz_f8a16524ad e304 nc306 | omega) (show 2 ≤ 1000000 from by omega) _) hT (pr := [wd_Mpr cs q qr (fun k => if k = 0 then (some h) else none) qf qa qg, wdP cs h r g tf ta pf na ma wa cf ca ef ea xf xa]) (pcs := []) hw (oX_call (P := (fun A U H => (oZ A U H) ∧ (oS A sk295 st296 (mlen p0.toNatClampNeg) (mby p0.toNatClampNeg) U H) ∧ (oS A sk553 st554 2 sb555 U H))) (pr := [wd_Mpr cs q qr (fun k => if k = 0 then (some h) else none) qf qa qg, wdP cs h r g tf ta pf na ma wa cf ca ef ea xf xa]) (oG_and oG_Z (oG_and oG_S oG_S)) hw hA ⟨hZ, hSsk295, hSsk553⟩) (oS_recv hw hSsk295) m11_225 m14_155 m11_223 m11_224 m1_3 q_String_equals ⟨Nat.le_of_ble_eq_true rfl, Nat.le_of_ble_eq_true rfl⟩ hl.1 rfl (Nat.le_of_ble_eq_true rfl) d_Mpr_two_136 ⟨Nat.le_of_ble_eq_true rfl, Nat.le_of_ble_eq_true rfl⟩) hw hA (fun v557 p556 H locs hp556 hw => ?_)
                obtain ⟨rfl, e558, e559⟩ := hp556
                have e558 := z_rng e558
                have e559 : R_sg_equals (mlen p0.toNatClampNeg) (mby p0.toNatClampNeg) 2 sb555 v557 := e559
                have hw : pw D A s.heap H locs [wd_Mpr cs q qr (fun k => if k = 0 then (some h) else none) qf qa qg, wdP cs h r g tf ta pf na ma wa cf ca ef ea xf xa] := hw
                have lv557 := Int32.le_toInt v557
                have uv557 := Int32.toInt_lt v557
                refine lv_if_eq (tgt := 148) S.x S.b d_Mpr_two_139 (by decide) (fun c560 => ?_) (fun c560 => ?_)
                · have nc560 : v557.toInt = (0 : Int) := (i_eq (x := v557) (y := 0)).mp c560
                  refine lv_iload S.x S.b d_Mpr_two_148 (lv_at hl 0 rfl) ?_
                  refine lv_if_eq (tgt := 157) S.x S.b d_Mpr_two_150 (by decide) (fun c562 => ?_) (fun c562 => ?_)
                  ·
                    refine lv_iconst (v := 0) S.x S.b d_Mpr_two_157 (by decide) ?_
                    refine px_callv (pr := []) (px_runV (As := [.int 0]) (rest := []) S (c_mr_give l D cs nf q qr qg qf qa h r g tf ta pf na ma wa cf ca ef ea xf xa 0  (show 0 ≤ (qf 10).toInt from by first | exact g2 | omega) (show (qf 10).toInt < 62500 from by first | exact oz_7621ce4cd5 g3 | omega) _) hT (pr := []) (pcs := [wd_Mpr cs q qr (fun k => if k = 0 then (some h) else none) qf qa qg, wdP cs h r g tf ta pf na ma wa cf ca ef ea xf xa]) hw (oX_call (P := (fun A U H => (oP A g U H))) (pr := []) oG_P hw hA hP) (px_recv hT hw 0 0 rfl rfl rfl) m13_161 m13_158 m13_159 m13_160 m1_22 q_Mpr_give ⟨Nat.le_of_ble_eq_true rfl, Nat.le_of_ble_eq_true rfl⟩ hl.1 rfl (Nat.le_of_ble_eq_true rfl) d_Mpr_two_158 ⟨Nat.le_of_ble_eq_true rfl, Nat.le_of_ble_eq_true rfl⟩) hw hA (fun p567 H locs hp567 hw => ?_)
                    obtain ⟨qf565, qa566, rfl, e569, e570, e571, e572, e573, e574, e575, e576, e577, e578, e579, e580, e581, e582, e583, e584⟩ := hp567
                    have e569 : (qf565 10).toInt = (qf 10).toInt + 1 := e569
                    have e570 : (qf565 1).toInt = (qf 1).toInt := e570
                    have e571 : (qf565 2).toInt = (qf 2).toInt := e571
                    have e572 : (qf565 3).toInt = (qf 3).toInt := e572
                    have e573 : (qf565 4).toInt = (qf 4).toInt := e573
                    have e574 : (qf565 5).toInt = (qf 5).toInt := e574
                    have e575 : (qf565 6).toInt = (qf 6).toInt := e575
                    have e576 : (qf565 7).toInt = (qf 7).toInt := e576
                    have e577 : (qf565 11).toInt = (qf 11).toInt := e577
                    have e578 : (qf565 12).toInt = (qf 12).toInt := e578
                    have e579 : (qf565 13).toInt = (qf 13).toInt := e579
                    have e580 : (qf565 14).toInt = (qf 14).toInt := e580
                    have e581 : (qf565 21).toInt = (qf 21).toInt := e581
                    have e582 : (qf565 23).toInt = (qf 23).toInt := e582
                    have e583 : (qf565 24).toInt = (qf 24).toInt := e583
                    have e584 : NuU qa qa566 9 (qf 10).toInt (0 : Int32) := e584
                    skip
                    have hw : pw D A s.heap H locs [wd_Mpr cs q qr (fun k => if k = 0 then (some h) else none) qf565 qa566 qg, wdP cs h r g tf ta pf na ma wa cf ca ef ea xf xa] := hw
                    exact px_vret S hr hlk hAe hw (Nat.le_of_ble_eq_true rfl) (Nat.le_of_ble_eq_true rfl) (⟨qf565, qa566, rfl, (show TwO (qf565 2).toInt (qf 2).toInt (qf565 10).toInt (qf 10).toInt from (Or.inl ⟨by omega, by omega⟩)), (show (qf565 1).toInt = (qf 1).toInt from by first | exact e570 | omega), (show (qf565 4).toInt = (qf 4).toInt from by first | exact e573 | omega), (show (qf565 5).toInt = (qf 5).toInt from by first | exact e574 | omega), (show (qf565 6).toInt = (qf 6).toInt from by first | exact e575 | omega), (show (qf565 7).toInt = (qf 7).toInt from by first | exact e576 | omega), (show (qf565 11).toInt = (qf 11).toInt from by first | exact e577 | omega), (show (qf565 12).toInt = (qf 12).toInt from by first | exact e578 | omega), (show (qf565 13).toInt = (qf 13).toInt from by first | exact e579 | omega), (show (qf565 14).toInt = (qf 14).toInt from by first | exact e580 | omega), (show (qf565 21).toInt = (qf 21).toInt from by first | exact e581 | omega), (show (qf565 23).toInt = (qf 23).toInt from by first | exact e582 | omega), (show (qf565 24).toInt = (qf 24).toInt from by first | exact e583 | omega), (show WrU qa qa566 (qf 10).toInt (-1) from e584.w)⟩) d_Mpr_two_161
                  · exact absurd c562 (by decide)
                · have nc560 : ¬ v557.toInt = (0 : Int) := mt (i_eq (x := v557) (y := 0)).mpr c560
                  refine lv_iload_n S.x S.b d_Mpr_two_142 rfl (lv_at hl 5 rfl) ?_
                  refine lv_iload_n S.x S.b d_Mpr_two_143 rfl (lv_at hl 6 rfl) ?_
                  refine lv_ishr S.x S.b d_Mpr_two_144 ?_
                  refine lv_topi (fun z585 ez585 => ?_)
                  have lz585 := Int32.le_toInt z585
                  have uz585 := Int32.toInt_lt z585
                  refine lv_goto (tgt := 158) S.x S.b d_Mpr_two_145 (by decide) ?_
                  refine px_callv (pr := []) (px_runV (As := [.int z585]) (rest := []) S (c_mr_give l D cs nf q qr qg qf qa h r g tf ta pf na ma wa cf ca ef ea xf xa z585  (show 0 ≤ (qf 10).toInt from by first | exact g2 | omega) (show (qf 10).toInt < 62500 from by first | exact oz_7621ce4cd5 g3 | omega) _) hT (pr := []) (pcs := [wd_Mpr cs q qr (fun k => if k = 0 then (some h) else none) qf qa qg, wdP cs h r g tf ta pf na ma wa cf ca ef ea xf xa]) hw (oX_call (P := (fun A U H => (oP A g U H))) (pr := []) oG_P hw hA hP) (px_recv hT hw 0 0 rfl rfl rfl) m13_161 m13_158 m13_159 m13_160 m1_22 q_Mpr_give ⟨Nat.le_of_ble_eq_true rfl, Nat.le_of_ble_eq_true rfl⟩ hl.1 rfl (Nat.le_of_ble_eq_true rfl) d_Mpr_two_158 ⟨Nat.le_of_ble_eq_true rfl, Nat.le_of_ble_eq_true rfl⟩) hw hA (fun p590 H locs hp590 hw => ?_)
                  obtain ⟨qf588, qa589, rfl, e592, e593, e594, e595, e596, e597, e598, e599, e600, e601, e602, e603, e604, e605, e606, e607⟩ := hp590
                  have e592 : (qf588 10).toInt = (qf 10).toInt + 1 := e592
                  have e593 : (qf588 1).toInt = (qf 1).toInt := e593
                  have e594 : (qf588 2).toInt = (qf 2).toInt := e594
                  have e595 : (qf588 3).toInt = (qf 3).toInt := e595
                  have e596 : (qf588 4).toInt = (qf 4).toInt := e596
                  have e597 : (qf588 5).toInt = (qf 5).toInt := e597
                  have e598 : (qf588 6).toInt = (qf 6).toInt := e598
                  have e599 : (qf588 7).toInt = (qf 7).toInt := e599
                  have e600 : (qf588 11).toInt = (qf 11).toInt := e600
                  have e601 : (qf588 12).toInt = (qf 12).toInt := e601
                  have e602 : (qf588 13).toInt = (qf 13).toInt := e602
                  have e603 : (qf588 14).toInt = (qf 14).toInt := e603
                  have e604 : (qf588 21).toInt = (qf 21).toInt := e604
                  have e605 : (qf588 23).toInt = (qf 23).toInt := e605
                  have e606 : (qf588 24).toInt = (qf 24).toInt := e606
                  have e607 : NuU qa qa589 9 (qf 10).toInt z585 := e607
                  skip
                  have hw : pw D A s.heap H locs [wd_Mpr cs q qr (fun k => if k = 0 then (some h) else none) qf588 qa589 qg, wdP cs h r g tf ta pf na ma wa cf ca ef ea xf xa] := hw
                  exact px_vret S hr hlk hAe hw (Nat.le_of_ble_eq_true rfl) (Nat.le_of_ble_eq_true rfl) (⟨qf588, qa589, rfl, (show TwO (qf588 2).toInt (qf 2).toInt (qf588 10).toInt (qf 10).toInt from (Or.inl ⟨by omega, by omega⟩)), (show (qf588 1).toInt = (qf 1).toInt from by first | exact e593 | omega), (show (qf588 4).toInt = (qf 4).toInt from by first | exact e596 | omega), (show (qf588 5).toInt = (qf 5).toInt from by first | exact e597 | omega), (show (qf588 6).toInt = (qf 6).toInt from by first | exact e598 | omega), (show (qf588 7).toInt = (qf 7).toInt from by first | exact e599 | omega), (show (qf588 11).toInt = (qf 11).toInt from by first | exact e600 | omega), (show (qf588 12).toInt = (qf 12).toInt from by first | exact e601 | omega), (show (qf588 13).toInt = (qf 13).toInt from by first | exact e602 | omega), (show (qf588 14).toInt = (qf 14).toInt from by first | exact e603 | omega), (show (qf588 21).toInt = (qf 21).toInt from by first | exact e604 | omega), (show (qf588 23).toInt = (qf 23).toInt from by first | exact e605 | omega), (show (qf588 24).toInt = (qf 24).toInt from by first | exact e606 | omega), (show WrU qa qa589 (qf 10).toInt (-1) from e607.w)⟩) d_Mpr_two_161
              · have nc551 : ¬ v548.toInt = (0 : Int) := mt (i_eq (x := v548) (y := 0)).mpr c551
                refine lv_iload_n S.x S.b d_Mpr_two_126 rfl (lv_at hl 5 rfl) ?_
                refine lv_iload_n S.x S.b d_Mpr_two_127 rfl (lv_at hl 6 rfl) ?_
                refine lv_ishl S.x S.b d_Mpr_two_128 ?_
                refine lv_topi (fun z608 ez608 => ?_)
                have lz608 := Int32.le_toInt z608
                have uz608 := Int32.toInt_lt z608
                refine lv_goto (tgt := 158) S.x S.b d_Mpr_two_129 (by decide) ?_
                refine px_callv (pr := []) (px_runV (As := [.int z608]) (rest := []) S (c_mr_give l D cs nf q qr qg qf qa h r g tf ta pf na ma wa cf ca ef ea xf xa z608  (show 0 ≤ (qf 10).toInt from by first | exact g2 | omega) (show (qf 10).toInt < 62500 from by first | exact oz_7621ce4cd5 g3 | omega) _) hT (pr := []) (pcs := [wd_Mpr cs q qr (fun k => if k = 0 then (some h) else none) qf qa qg, wdP cs h r g tf ta pf na ma wa cf ca ef ea xf xa]) hw (oX_call (P := (fun A U H => (oP A g U H))) (pr := []) oG_P hw hA hP) (px_recv hT hw 0 0 rfl rfl rfl) m13_161 m13_158 m13_159 m13_160 m1_22 q_Mpr_give ⟨Nat.le_of_ble_eq_true rfl, Nat.le_of_ble_eq_true rfl⟩ hl.1 rfl (Nat.le_of_ble_eq_true rfl) d_Mpr_two_158 ⟨Nat.le_of_ble_eq_true rfl, Nat.le_of_ble_eq_true rfl⟩) hw hA (fun p613 H locs hp613 hw => ?_)
                obtain ⟨qf611, qa612, rfl, e615, e616, e617, e618, e619, e620, e621, e622, e623, e624, e625, e626, e627, e628, e629, e630⟩ := hp613
                have e615 : (qf611 10).toInt = (qf 10).toInt + 1 := e615
                have e616 : (qf611 1).toInt = (qf 1).toInt := e616
                have e617 : (qf611 2).toInt = (qf 2).toInt := e617
                have e618 : (qf611 3).toInt = (qf 3).toInt := e618
                have e619 : (qf611 4).toInt = (qf 4).toInt := e619
                have e620 : (qf611 5).toInt = (qf 5).toInt := e620
                have e621 : (qf611 6).toInt = (qf 6).toInt := e621
                have e622 : (qf611 7).toInt = (qf 7).toInt := e622
                have e623 : (qf611 11).toInt = (qf 11).toInt := e623
                have e624 : (qf611 12).toInt = (qf 12).toInt := e624
                have e625 : (qf611 13).toInt = (qf 13).toInt := e625
                have e626 : (qf611 14).toInt = (qf 14).toInt := e626
                have e627 : (qf611 21).toInt = (qf 21).toInt := e627
                have e628 : (qf611 23).toInt = (qf 23).toInt := e628
                have e629 : (qf611 24).toInt = (qf 24).toInt := e629
                have e630 : NuU qa qa612 9 (qf 10).toInt z608 := e630
                skip
                have hw : pw D A s.heap H locs [wd_Mpr cs q qr (fun k => if k = 0 then (some h) else none) qf611 qa612 qg, wdP cs h r g tf ta pf na ma wa cf ca ef ea xf xa] := hw
                exact px_vret S hr hlk hAe hw (Nat.le_of_ble_eq_true rfl) (Nat.le_of_ble_eq_true rfl) (⟨qf611, qa612, rfl, (show TwO (qf611 2).toInt (qf 2).toInt (qf611 10).toInt (qf 10).toInt from (Or.inl ⟨by omega, by omega⟩)), (show (qf611 1).toInt = (qf 1).toInt from by first | exact e616 | omega), (show (qf611 4).toInt = (qf 4).toInt from by first | exact e619 | omega), (show (qf611 5).toInt = (qf 5).toInt from by first | exact e620 | omega), (show (qf611 6).toInt = (qf 6).toInt from by first | exact e621 | omega), (show (qf611 7).toInt = (qf 7).toInt from by first | exact e622 | omega), (show (qf611 11).toInt = (qf 11).toInt from by first | exact e623 | omega), (show (qf611 12).toInt = (qf 12).toInt from by first | exact e624 | omega), (show (qf611 13).toInt = (qf 13).toInt from by first | exact e625 | omega), (show (qf611 14).toInt = (qf 14).toInt from by first | exact e626 | omega), (show (qf611 21).toInt = (qf 21).toInt from by first | exact e627 | omega), (show (qf611 23).toInt = (qf 23).toInt from by first | exact e628 | omega), (show (qf611 24).toInt = (qf 24).toInt from by first | exact e629 | omega), (show WrU qa qa612 (qf 10).toInt (-1) from e630.w)⟩) d_Mpr_two_161
            · have nc542 : ¬ p2.toInt < p1.toInt := mt (i_lt (x := p2) (y := p1)).mpr c542
              refine lv_iconst (v := 1) S.x S.b d_Mpr_two_95 (by decide) ?_
              refine lv_goto (tgt := 113) S.x S.b d_Mpr_two_96 (by decide) ?_
              refine lv_istore (lv' := [(6, .int 1), (5, .int v299), (4, .ref sk295), (0, .ref q), (1, .int p0), (2, .int p1), (3, .int p2)]) S.x S.b d_Mpr_two_113 hl (by decide) rfl (fun ls hl => ?_)
              refine lv_aload_n S.x S.b d_Mpr_two_115 rfl (lv_at hl 3 rfl) ?_
              refine lv_aload S.x S.b d_Mpr_two_116 (lv_at hl 2 rfl) ?_
              obtain ⟨sk631, hRsk631, st632, sb633, hSsk631⟩ := oLW_lit hSh (k := 186) (tx := "<<") (n := 2) (by decide)
              refine va_ldcS S.x S.b S.own hRsk631 d_Mpr_two_118 ?_
              refine px_calli (pr := [wd_Mpr cs q qr (fun k => if k = 0 then (some h) else none) qf qa qg, wdP cs h r g tf ta pf na ma wa cf ca ef ea xf xa]) (px_runV (As := [.ref sk631]) (rest := [.ref q]) S (c_sg_equals l D cs sk295 st296 (mlen p0.toNatClampNeg) (mby p0.toNatClampNeg) sk631 st632 2 sb633   (show (mlen p0.toNatClampNeg) ≤ 1000000 from by first | exact oz_f8a16524ad e304 nc306 | omega) (show 2 ≤ 1000000 from by omega) _) hT (pr := [wd_Mpr cs q qr (fun k => if k = 0 then (some h) else none) qf qa qg, wdP cs h r g tf ta pf na ma wa cf ca ef ea xf xa]) (pcs := []) hw (oX_call (P := (fun A U H => (oZ A U H) ∧ (oS A sk295 st296 (mlen p0.toNatClampNeg) (mby p0.toNatClampNeg) U H) ∧ (oS A sk631 st632 2 sb633 U H))) (pr := [wd_Mpr cs q qr (fun k => if k = 0 then (some h) else none) qf qa qg, wdP cs h r g tf ta pf na ma wa cf ca ef ea xf xa]) (oG_and oG_Z (oG_and oG_S oG_S)) hw hA ⟨hZ, hSsk295, hSsk631⟩) (oS_recv hw hSsk295) m11_225 m14_155 m11_223 m11_224 m1_3 q_String_equals ⟨Nat.le_of_ble_eq_true rfl, Nat.le_of_ble_eq_true rfl⟩ hl.1 rfl (Nat.le_of_ble_eq_true rfl) d_Mpr_two_120 ⟨Nat.le_of_ble_eq_true rfl, Nat.le_of_ble_eq_true rfl⟩) hw hA (fun v635 p634 H locs hp634 hw => ?_)
              obtain ⟨rfl, e636, e637⟩ := hp634
              have e636 := z_rng e636
              have e637 : R_sg_equals (mlen p0.toNatClampNeg) (mby p0.toNatClampNeg) 2 sb633 v635 := e637
              have hw : pw D A s.heap H locs [wd_Mpr cs q qr (fun k => if k = 0 then (some h) else none) qf qa qg, wdP cs h r g tf ta pf na ma wa cf ca ef ea xf xa] := hw
              have lv635 := Int32.le_toInt v635
              have uv635 := Int32.toInt_lt v635
              refine lv_if_eq (tgt := 132) S.x S.b d_Mpr_two_123 (by decide) (fun c638 => ?_) (fun c638 => ?_)
              · have nc638 : v635.toInt = (0 : Int) := (i_eq (x := v635) (y := 0)).mp c638
                refine lv_aload S.x S.b d_Mpr_two_132 (lv_at hl 2 rfl) ?_
                obtain ⟨sk640, hRsk640, st641, sb642, hSsk640⟩ := oLW_lit hSh (k := 192) (tx := ">>") (n := 2) (by decide)
                refine va_ldcS S.x S.b S.own hRsk640 d_Mpr_two_134 ?_
                refine px_calli (pr := [wd_Mpr cs q qr (fun k => if k = 0 then (some h) else none) qf qa qg, wdP cs h r g tf ta pf na ma wa cf ca ef ea xf xa]) (px_runV (As := [.ref sk640]) (rest := [.ref q]) S (c_sg_equals l D cs sk295 st296 (mlen p0.toNatClampNeg) (mby p0.toNatClampNeg) sk640 st641 2 sb642   (show (mlen p0.toNatClampNeg) ≤ 1000000 from by first | exact oz_f8a16524ad e304 nc306 | omega) (show 2 ≤ 1000000 from by omega) _) hT (pr := [wd_Mpr cs q qr (fun k => if k = 0 then (some h) else none) qf qa qg, wdP cs h r g tf ta pf na ma wa cf ca ef ea xf xa]) (pcs := []) hw (oX_call (P := (fun A U H => (oZ A U H) ∧ (oS A sk295 st296 (mlen p0.toNatClampNeg) (mby p0.toNatClampNeg) U H) ∧ (oS A sk640 st641 2 sb642 U H))) (pr := [wd_Mpr cs q qr (fun k => if k = 0 then (some h) else none) qf qa qg, wdP cs h r g tf ta pf na ma wa cf ca ef ea xf xa]) (oG_and oG_Z (oG_and oG_S oG_S)) hw hA ⟨hZ, hSsk295, hSsk640⟩) (oS_recv hw hSsk295) m11_225 m14_155 m11_223 m11_224 m1_3 q_String_equals ⟨Nat.le_of_ble_eq_true rfl, Nat.le_of_ble_eq_true rfl⟩ hl.1 rfl (Nat.le_of_ble_eq_true rfl) d_Mpr_two_136 ⟨Nat.le_of_ble_eq_true rfl, Nat.le_of_ble_eq_true rfl⟩) hw hA (fun v644 p643 H locs hp643 hw => ?_)
                obtain ⟨rfl, e645, e646⟩ := hp643
                have e645 := z_rng e645
                have e646 : R_sg_equals (mlen p0.toNatClampNeg) (mby p0.toNatClampNeg) 2 sb642 v644 := e646
                have hw : pw D A s.heap H locs [wd_Mpr cs q qr (fun k => if k = 0 then (some h) else none) qf qa qg, wdP cs h r g tf ta pf na ma wa cf ca ef ea xf xa] := hw
                have lv644 := Int32.le_toInt v644
                have uv644 := Int32.toInt_lt v644
                refine lv_if_eq (tgt := 148) S.x S.b d_Mpr_two_139 (by decide) (fun c647 => ?_) (fun c647 => ?_)
                · have nc647 : v644.toInt = (0 : Int) := (i_eq (x := v644) (y := 0)).mp c647
                  refine lv_iload S.x S.b d_Mpr_two_148 (lv_at hl 0 rfl) ?_
                  refine lv_if_eq (tgt := 157) S.x S.b d_Mpr_two_150 (by decide) (fun c649 => ?_) (fun c649 => ?_)
                  · exact absurd c649 (by decide)
                  ·
                    refine lv_iconst (v := 1) S.x S.b d_Mpr_two_153 (by decide) ?_
                    refine lv_goto (tgt := 158) S.x S.b d_Mpr_two_154 (by decide) ?_
                    refine px_callv (pr := []) (px_runV (As := [.int 1]) (rest := []) S (c_mr_give l D cs nf q qr qg qf qa h r g tf ta pf na ma wa cf ca ef ea xf xa 1  (show 0 ≤ (qf 10).toInt from by first | exact g2 | omega) (show (qf 10).toInt < 62500 from by first | exact oz_7621ce4cd5 g3 | omega) _) hT (pr := []) (pcs := [wd_Mpr cs q qr (fun k => if k = 0 then (some h) else none) qf qa qg, wdP cs h r g tf ta pf na ma wa cf ca ef ea xf xa]) hw (oX_call (P := (fun A U H => (oP A g U H))) (pr := []) oG_P hw hA hP) (px_recv hT hw 0 0 rfl rfl rfl) m13_161 m13_158 m13_159 m13_160 m1_22 q_Mpr_give ⟨Nat.le_of_ble_eq_true rfl, Nat.le_of_ble_eq_true rfl⟩ hl.1 rfl (Nat.le_of_ble_eq_true rfl) d_Mpr_two_158 ⟨Nat.le_of_ble_eq_true rfl, Nat.le_of_ble_eq_true rfl⟩) hw hA (fun p654 H locs hp654 hw => ?_)
                    obtain ⟨qf652, qa653, rfl, e656, e657, e658, e659, e660, e661, e662, e663, e664, e665, e666, e667, e668, e669, e670, e671⟩ := hp654
                    have e656 : (qf652 10).toInt = (qf 10).toInt + 1 := e656
                    have e657 : (qf652 1).toInt = (qf 1).toInt := e657
                    have e658 : (qf652 2).toInt = (qf 2).toInt := e658
                    have e659 : (qf652 3).toInt = (qf 3).toInt := e659
                    have e660 : (qf652 4).toInt = (qf 4).toInt := e660
                    have e661 : (qf652 5).toInt = (qf 5).toInt := e661
                    have e662 : (qf652 6).toInt = (qf 6).toInt := e662
                    have e663 : (qf652 7).toInt = (qf 7).toInt := e663
                    have e664 : (qf652 11).toInt = (qf 11).toInt := e664
                    have e665 : (qf652 12).toInt = (qf 12).toInt := e665
                    have e666 : (qf652 13).toInt = (qf 13).toInt := e666
                    have e667 : (qf652 14).toInt = (qf 14).toInt := e667
                    have e668 : (qf652 21).toInt = (qf 21).toInt := e668
                    have e669 : (qf652 23).toInt = (qf 23).toInt := e669
                    have e670 : (qf652 24).toInt = (qf 24).toInt := e670
                    have e671 : NuU qa qa653 9 (qf 10).toInt (1 : Int32) := e671
                    skip
                    have hw : pw D A s.heap H locs [wd_Mpr cs q qr (fun k => if k = 0 then (some h) else none) qf652 qa653 qg, wdP cs h r g tf ta pf na ma wa cf ca ef ea xf xa] := hw
                    exact px_vret S hr hlk hAe hw (Nat.le_of_ble_eq_true rfl) (Nat.le_of_ble_eq_true rfl) (⟨qf652, qa653, rfl, (show TwO (qf652 2).toInt (qf 2).toInt (qf652 10).toInt (qf 10).toInt from (Or.inl ⟨by omega, by omega⟩)), (show (qf652 1).toInt = (qf 1).toInt from by first | exact e657 | omega), (show (qf652 4).toInt = (qf 4).toInt from by first | exact e660 | omega), (show (qf652 5).toInt = (qf 5).toInt from by first | exact e661 | omega), (show (qf652 6).toInt = (qf 6).toInt from by first | exact e662 | omega), (show (qf652 7).toInt = (qf 7).toInt from by first | exact e663 | omega), (show (qf652 11).toInt = (qf 11).toInt from by first | exact e664 | omega), (show (qf652 12).toInt = (qf 12).toInt from by first | exact e665 | omega), (show (qf652 13).toInt = (qf 13).toInt from by first | exact e666 | omega), (show (qf652 14).toInt = (qf 14).toInt from by first | exact e667 | omega), (show (qf652 21).toInt = (qf 21).toInt from by first | exact e668 | omega), (show (qf652 23).toInt = (qf 23).toInt from by first | exact e669 | omega), (show (qf652 24).toInt = (qf 24).toInt from by first | exact e670 | omega), (show WrU qa qa653 (qf 10).toInt (-1) from e671.w)⟩) d_Mpr_two_161
                · have nc647 : ¬ v644.toInt = (0 : Int) := mt (i_eq (x := v644) (y := 0)).mpr c647
                  refine lv_iload_n S.x S.b d_Mpr_two_142 rfl (lv_at hl 5 rfl) ?_
                  refine lv_iload_n S.x S.b d_Mpr_two_143 rfl (lv_at hl 6 rfl) ?_
                  refine lv_ishr S.x S.b d_Mpr_two_144 ?_
                  refine lv_topi (fun z672 ez672 => ?_)
                  have lz672 := Int32.le_toInt z672
                  have uz672 := Int32.toInt_lt z672
                  refine lv_goto (tgt := 158) S.x S.b d_Mpr_two_145 (by decide) ?_
                  refine px_callv (pr := []) (px_runV (As := [.int z672]) (rest := []) S (c_mr_give l D cs nf q qr qg qf qa h r g tf ta pf na ma wa cf ca ef ea xf xa z672  (show 0 ≤ (qf 10).toInt from by first | exact g2 | omega) (show (qf 10).toInt < 62500 from by first | exact oz_7621ce4cd5 g3 | omega) _) hT (pr := []) (pcs := [wd_Mpr cs q qr (fun k => if k = 0 then (some h) else none) qf qa qg, wdP cs h r g tf ta pf na ma wa cf ca ef ea xf xa]) hw (oX_call (P := (fun A U H => (oP A g U H))) (pr := []) oG_P hw hA hP) (px_recv hT hw 0 0 rfl rfl rfl) m13_161 m13_158 m13_159 m13_160 m1_22 q_Mpr_give ⟨Nat.le_of_ble_eq_true rfl, Nat.le_of_ble_eq_true rfl⟩ hl.1 rfl (Nat.le_of_ble_eq_true rfl) d_Mpr_two_158 ⟨Nat.le_of_ble_eq_true rfl, Nat.le_of_ble_eq_true rfl⟩) hw hA (fun p677 H locs hp677 hw => ?_)
                  obtain ⟨qf675, qa676, rfl, e679, e680, e681, e682, e683, e684, e685, e686, e687, e688, e689, e690, e691, e692, e693, e694⟩ := hp677
                  have e679 : (qf675 10).toInt = (qf 10).toInt + 1 := e679
                  have e680 : (qf675 1).toInt = (qf 1).toInt := e680
                  have e681 : (qf675 2).toInt = (qf 2).toInt := e681
                  have e682 : (qf675 3).toInt = (qf 3).toInt := e682
                  have e683 : (qf675 4).toInt = (qf 4).toInt := e683
                  have e684 : (qf675 5).toInt = (qf 5).toInt := e684
                  have e685 : (qf675 6).toInt = (qf 6).toInt := e685
                  have e686 : (qf675 7).toInt = (qf 7).toInt := e686
                  have e687 : (qf675 11).toInt = (qf 11).toInt := e687
                  have e688 : (qf675 12).toInt = (qf 12).toInt := e688
                  have e689 : (qf675 13).toInt = (qf 13).toInt := e689
                  have e690 : (qf675 14).toInt = (qf 14).toInt := e690
                  have e691 : (qf675 21).toInt = (qf 21).toInt := e691
                  have e692 : (qf675 23).toInt = (qf 23).toInt := e692
                  have e693 : (qf675 24).toInt = (qf 24).toInt := e693
                  have e694 : NuU qa qa676 9 (qf 10).toInt z672 := e694
                  skip
                  have hw : pw D A s.heap H locs [wd_Mpr cs q qr (fun k => if k = 0 then (some h) else none) qf675 qa676 qg, wdP cs h r g tf ta pf na ma wa cf ca ef ea xf xa] := hw
                  exact px_vret S hr hlk hAe hw (Nat.le_of_ble_eq_true rfl) (Nat.le_of_ble_eq_true rfl) (⟨qf675, qa676, rfl, (show TwO (qf675 2).toInt (qf 2).toInt (qf675 10).toInt (qf 10).toInt from (Or.inl ⟨by omega, by omega⟩)), (show (qf675 1).toInt = (qf 1).toInt from by first | exact e680 | omega), (show (qf675 4).toInt = (qf 4).toInt from by first | exact e683 | omega), (show (qf675 5).toInt = (qf 5).toInt from by first | exact e684 | omega), (show (qf675 6).toInt = (qf 6).toInt from by first | exact e685 | omega), (show (qf675 7).toInt = (qf 7).toInt from by first | exact e686 | omega), (show (qf675 11).toInt = (qf 11).toInt from by first | exact e687 | omega), (show (qf675 12).toInt = (qf 12).toInt from by first | exact e688 | omega), (show (qf675 13).toInt = (qf 13).toInt from by first | exact e689 | omega), (show (qf675 14).toInt = (qf 14).toInt from by first | exact e690 | omega), (show (qf675 21).toInt = (qf 21).toInt from by first | exact e691 | omega), (show (qf675 23).toInt = (qf 23).toInt from by first | exact e692 | omega), (show (qf675 24).toInt = (qf 24).toInt from by first | exact e693 | omega), (show WrU qa qa676 (qf 10).toInt (-1) from e694.w)⟩) d_Mpr_two_161
              · have nc638 : ¬ v635.toInt = (0 : Int) := mt (i_eq (x := v635) (y := 0)).mpr c638
                refine lv_iload_n S.x S.b d_Mpr_two_126 rfl (lv_at hl 5 rfl) ?_
                refine lv_iload_n S.x S.b d_Mpr_two_127 rfl (lv_at hl 6 rfl) ?_
                refine lv_ishl S.x S.b d_Mpr_two_128 ?_
                refine lv_topi (fun z695 ez695 => ?_)
                have lz695 := Int32.le_toInt z695
                have uz695 := Int32.toInt_lt z695
                refine lv_goto (tgt := 158) S.x S.b d_Mpr_two_129 (by decide) ?_
                refine px_callv (pr := []) (px_runV (As := [.int z695]) (rest := []) S (c_mr_give l D cs nf q qr qg qf qa h r g tf ta pf na ma wa cf ca ef ea xf xa z695  (show 0 ≤ (qf 10).toInt from by first | exact g2 | omega) (show (qf 10).toInt < 62500 from by first | exact oz_7621ce4cd5 g3 | omega) _) hT (pr := []) (pcs := [wd_Mpr cs q qr (fun k => if k = 0 then (some h) else none) qf qa qg, wdP cs h r g tf ta pf na ma wa cf ca ef ea xf xa]) hw (oX_call (P := (fun A U H => (oP A g U H))) (pr := []) oG_P hw hA hP) (px_recv hT hw 0 0 rfl rfl rfl) m13_161 m13_158 m13_159 m13_160 m1_22 q_Mpr_give ⟨Nat.le_of_ble_eq_true rfl, Nat.le_of_ble_eq_true rfl⟩ hl.1 rfl (Nat.le_of_ble_eq_true rfl) d_Mpr_two_158 ⟨Nat.le_of_ble_eq_true rfl, Nat.le_of_ble_eq_true rfl⟩) hw hA (fun p700 H locs hp700 hw => ?_)
                obtain ⟨qf698, qa699, rfl, e702, e703, e704, e705, e706, e707, e708, e709, e710, e711, e712, e713, e714, e715, e716, e717⟩ := hp700
                have e702 : (qf698 10).toInt = (qf 10).toInt + 1 := e702
                have e703 : (qf698 1).toInt = (qf 1).toInt := e703
                have e704 : (qf698 2).toInt = (qf 2).toInt := e704
                have e705 : (qf698 3).toInt = (qf 3).toInt := e705
                have e706 : (qf698 4).toInt = (qf 4).toInt := e706
                have e707 : (qf698 5).toInt = (qf 5).toInt := e707
                have e708 : (qf698 6).toInt = (qf 6).toInt := e708
                have e709 : (qf698 7).toInt = (qf 7).toInt := e709
                have e710 : (qf698 11).toInt = (qf 11).toInt := e710
                have e711 : (qf698 12).toInt = (qf 12).toInt := e711
                have e712 : (qf698 13).toInt = (qf 13).toInt := e712
                have e713 : (qf698 14).toInt = (qf 14).toInt := e713
                have e714 : (qf698 21).toInt = (qf 21).toInt := e714
                have e715 : (qf698 23).toInt = (qf 23).toInt := e715
                have e716 : (qf698 24).toInt = (qf 24).toInt := e716
                have e717 : NuU qa qa699 9 (qf 10).toInt z695 := e717
                skip
                have hw : pw D A s.heap H locs [wd_Mpr cs q qr (fun k => if k = 0 then (some h) else none) qf698 qa699 qg, wdP cs h r g tf ta pf na ma wa cf ca ef ea xf xa] := hw
                exact px_vret S hr hlk hAe hw (Nat.le_of_ble_eq_true rfl) (Nat.le_of_ble_eq_true rfl) (⟨qf698, qa699, rfl, (show TwO (qf698 2).toInt (qf 2).toInt (qf698 10).toInt (qf 10).toInt from (Or.inl ⟨by omega, by omega⟩)), (show (qf698 1).toInt = (qf 1).toInt from by first | exact e703 | omega), (show (qf698 4).toInt = (qf 4).toInt from by first | exact e706 | omega), (show (qf698 5).toInt = (qf 5).toInt from by first | exact e707 | omega), (show (qf698 6).toInt = (qf 6).toInt from by first | exact e708 | omega), (show (qf698 7).toInt = (qf 7).toInt from by first | exact e709 | omega), (show (qf698 11).toInt = (qf 11).toInt from by first | exact e710 | omega), (show (qf698 12).toInt = (qf 12).toInt from by first | exact e711 | omega), (show (qf698 13).toInt = (qf 13).toInt from by first | exact e712 | omega), (show (qf698 14).toInt = (qf 14).toInt from by first | exact e713 | omega), (show (qf698 21).toInt = (qf 21).toInt from by first | exact e714 | omega), (show (qf698 23).toInt = (qf 23).toInt from by first | exact e715 | omega), (show (qf698 24).toInt = (qf 24).toInt from by first | exact e716 | omega), (show WrU qa qa699 (qf 10).toInt (-1) from e717.w)⟩) d_Mpr_two_161
        · have nc362 : ¬ v359.toInt = (61 : Int) := mt (i_eq (x := v359) (y := 61)).mpr c362
          refine lv_iconst (v := 0) S.x S.b d_Mpr_two_79 (by decide) ?_
          refine lv_goto (tgt := 113) S.x S.b d_Mpr_two_80 (by decide) ?_
          refine lv_istore (lv' := [(6, .int 0), (5, .int v299), (4, .ref sk295), (0, .ref q), (1, .int p0), (2, .int p1), (3, .int p2)]) S.x S.b d_Mpr_two_113 hl (by decide) rfl (fun ls hl => ?_)
          refine lv_aload_n S.x S.b d_Mpr_two_115 rfl (lv_at hl 3 rfl) ?_
          refine lv_aload S.x S.b d_Mpr_two_116 (lv_at hl 2 rfl) ?_
          obtain ⟨sk718, hRsk718, st719, sb720, hSsk718⟩ := oLW_lit hSh (k := 186) (tx := "<<") (n := 2) (by decide)
          refine va_ldcS S.x S.b S.own hRsk718 d_Mpr_two_118 ?_
          refine px_calli (pr := [wd_Mpr cs q qr (fun k => if k = 0 then (some h) else none) qf qa qg, wdP cs h r g tf ta pf na ma wa cf ca ef ea xf xa]) (px_runV (As := [.ref sk718]) (rest := [.ref q]) S (c_sg_equals l D cs sk295 st296 (mlen p0.toNatClampNeg) (mby p0.toNatClampNeg) sk718 st719 2 sb720   (show (mlen p0.toNatClampNeg) ≤ 1000000 from by first | exact oz_f8a16524ad e304 nc306 | omega) (show 2 ≤ 1000000 from by omega) _) hT (pr := [wd_Mpr cs q qr (fun k => if k = 0 then (some h) else none) qf qa qg, wdP cs h r g tf ta pf na ma wa cf ca ef ea xf xa]) (pcs := []) hw (oX_call (P := (fun A U H => (oZ A U H) ∧ (oS A sk295 st296 (mlen p0.toNatClampNeg) (mby p0.toNatClampNeg) U H) ∧ (oS A sk718 st719 2 sb720 U H))) (pr := [wd_Mpr cs q qr (fun k => if k = 0 then (some h) else none) qf qa qg, wdP cs h r g tf ta pf na ma wa cf ca ef ea xf xa]) (oG_and oG_Z (oG_and oG_S oG_S)) hw hA ⟨hZ, hSsk295, hSsk718⟩) (oS_recv hw hSsk295) m11_225 m14_155 m11_223 m11_224 m1_3 q_String_equals ⟨Nat.le_of_ble_eq_true rfl, Nat.le_of_ble_eq_true rfl⟩ hl.1 rfl (Nat.le_of_ble_eq_true rfl) d_Mpr_two_120 ⟨Nat.le_of_ble_eq_true rfl, Nat.le_of_ble_eq_true rfl⟩) hw hA (fun v722 p721 H locs hp721 hw => ?_)
          obtain ⟨rfl, e723, e724⟩ := hp721
          have e723 := z_rng e723
          have e724 : R_sg_equals (mlen p0.toNatClampNeg) (mby p0.toNatClampNeg) 2 sb720 v722 := e724
          have hw : pw D A s.heap H locs [wd_Mpr cs q qr (fun k => if k = 0 then (some h) else none) qf qa qg, wdP cs h r g tf ta pf na ma wa cf ca ef ea xf xa] := hw
          have lv722 := Int32.le_toInt v722
          have uv722 := Int32.toInt_lt v722
          refine lv_if_eq (tgt := 132) S.x S.b d_Mpr_two_123 (by decide) (fun c725 => ?_) (fun c725 => ?_)
          · have nc725 : v722.toInt = (0 : Int) := (i_eq (x := v722) (y := 0)).mp c725
            refine lv_aload S.x S.b d_Mpr_two_132 (lv_at hl 2 rfl) ?_
            obtain ⟨sk727, hRsk727, st728, sb729, hSsk727⟩ := oLW_lit hSh (k := 192) (tx := ">>") (n := 2) (by decide)
            refine va_ldcS S.x S.b S.own hRsk727 d_Mpr_two_134 ?_
            refine px_calli (pr := [wd_Mpr cs q qr (fun k => if k = 0 then (some h) else none) qf qa qg, wdP cs h r g tf ta pf na ma wa cf ca ef ea xf xa]) (px_runV (As := [.ref sk727]) (rest := [.ref q]) S (c_sg_equals l D cs sk295 st296 (mlen p0.toNatClampNeg) (mby p0.toNatClampNeg) sk727 st728 2 sb729   (show (mlen p0.toNatClampNeg) ≤ 1000000 from by first | exact oz_f8a16524ad e304 nc306 | omega) (show 2 ≤ 1000000 from by omega) _) hT (pr := [wd_Mpr cs q qr (fun k => if k = 0 then (some h) else none) qf qa qg, wdP cs h r g tf ta pf na ma wa cf ca ef ea xf xa]) (pcs := []) hw (oX_call (P := (fun A U H => (oZ A U H) ∧ (oS A sk295 st296 (mlen p0.toNatClampNeg) (mby p0.toNatClampNeg) U H) ∧ (oS A sk727 st728 2 sb729 U H))) (pr := [wd_Mpr cs q qr (fun k => if k = 0 then (some h) else none) qf qa qg, wdP cs h r g tf ta pf na ma wa cf ca ef ea xf xa]) (oG_and oG_Z (oG_and oG_S oG_S)) hw hA ⟨hZ, hSsk295, hSsk727⟩) (oS_recv hw hSsk295) m11_225 m14_155 m11_223 m11_224 m1_3 q_String_equals ⟨Nat.le_of_ble_eq_true rfl, Nat.le_of_ble_eq_true rfl⟩ hl.1 rfl (Nat.le_of_ble_eq_true rfl) d_Mpr_two_136 ⟨Nat.le_of_ble_eq_true rfl, Nat.le_of_ble_eq_true rfl⟩) hw hA (fun v731 p730 H locs hp730 hw => ?_)
            obtain ⟨rfl, e732, e733⟩ := hp730
            have e732 := z_rng e732
            have e733 : R_sg_equals (mlen p0.toNatClampNeg) (mby p0.toNatClampNeg) 2 sb729 v731 := e733
            have hw : pw D A s.heap H locs [wd_Mpr cs q qr (fun k => if k = 0 then (some h) else none) qf qa qg, wdP cs h r g tf ta pf na ma wa cf ca ef ea xf xa] := hw
            have lv731 := Int32.le_toInt v731
            have uv731 := Int32.toInt_lt v731
            refine lv_if_eq (tgt := 148) S.x S.b d_Mpr_two_139 (by decide) (fun c734 => ?_) (fun c734 => ?_)
            · have nc734 : v731.toInt = (0 : Int) := (i_eq (x := v731) (y := 0)).mp c734
              refine lv_iload S.x S.b d_Mpr_two_148 (lv_at hl 0 rfl) ?_
              refine lv_if_eq (tgt := 157) S.x S.b d_Mpr_two_150 (by decide) (fun c736 => ?_) (fun c736 => ?_)
              ·
                refine lv_iconst (v := 0) S.x S.b d_Mpr_two_157 (by decide) ?_
                refine px_callv (pr := []) (px_runV (As := [.int 0]) (rest := []) S (c_mr_give l D cs nf q qr qg qf qa h r g tf ta pf na ma wa cf ca ef ea xf xa 0  (show 0 ≤ (qf 10).toInt from by first | exact g2 | omega) (show (qf 10).toInt < 62500 from by first | exact oz_7621ce4cd5 g3 | omega) _) hT (pr := []) (pcs := [wd_Mpr cs q qr (fun k => if k = 0 then (some h) else none) qf qa qg, wdP cs h r g tf ta pf na ma wa cf ca ef ea xf xa]) hw (oX_call (P := (fun A U H => (oP A g U H))) (pr := []) oG_P hw hA hP) (px_recv hT hw 0 0 rfl rfl rfl) m13_161 m13_158 m13_159 m13_160 m1_22 q_Mpr_give ⟨Nat.le_of_ble_eq_true rfl, Nat.le_of_ble_eq_true rfl⟩ hl.1 rfl (Nat.le_of_ble_eq_true rfl) d_Mpr_two_158 ⟨Nat.le_of_ble_eq_true rfl, Nat.le_of_ble_eq_true rfl⟩) hw hA (fun p741 H locs hp741 hw => ?_)
                obtain ⟨qf739, qa740, rfl, e743, e744, e745, e746, e747, e748, e749, e750, e751, e752, e753, e754, e755, e756, e757, e758⟩ := hp741
                have e743 : (qf739 10).toInt = (qf 10).toInt + 1 := e743
                have e744 : (qf739 1).toInt = (qf 1).toInt := e744
                have e745 : (qf739 2).toInt = (qf 2).toInt := e745
                have e746 : (qf739 3).toInt = (qf 3).toInt := e746
                have e747 : (qf739 4).toInt = (qf 4).toInt := e747
                have e748 : (qf739 5).toInt = (qf 5).toInt := e748
                have e749 : (qf739 6).toInt = (qf 6).toInt := e749
                have e750 : (qf739 7).toInt = (qf 7).toInt := e750
                have e751 : (qf739 11).toInt = (qf 11).toInt := e751
                have e752 : (qf739 12).toInt = (qf 12).toInt := e752
                have e753 : (qf739 13).toInt = (qf 13).toInt := e753
                have e754 : (qf739 14).toInt = (qf 14).toInt := e754
                have e755 : (qf739 21).toInt = (qf 21).toInt := e755
                have e756 : (qf739 23).toInt = (qf 23).toInt := e756
                have e757 : (qf739 24).toInt = (qf 24).toInt := e757
                have e758 : NuU qa qa740 9 (qf 10).toInt (0 : Int32) := e758
                skip
                have hw : pw D A s.heap H locs [wd_Mpr cs q qr (fun k => if k = 0 then (some h) else none) qf739 qa740 qg, wdP cs h r g tf ta pf na ma wa cf ca ef ea xf xa] := hw
                exact px_vret S hr hlk hAe hw (Nat.le_of_ble_eq_true rfl) (Nat.le_of_ble_eq_true rfl) (⟨qf739, qa740, rfl, (show TwO (qf739 2).toInt (qf 2).toInt (qf739 10).toInt (qf 10).toInt from (Or.inl ⟨by omega, by omega⟩)), (show (qf739 1).toInt = (qf 1).toInt from by first | exact e744 | omega), (show (qf739 4).toInt = (qf 4).toInt from by first | exact e747 | omega), (show (qf739 5).toInt = (qf 5).toInt from by first | exact e748 | omega), (show (qf739 6).toInt = (qf 6).toInt from by first | exact e749 | omega), (show (qf739 7).toInt = (qf 7).toInt from by first | exact e750 | omega), (show (qf739 11).toInt = (qf 11).toInt from by first | exact e751 | omega), (show (qf739 12).toInt = (qf 12).toInt from by first | exact e752 | omega), (show (qf739 13).toInt = (qf 13).toInt from by first | exact e753 | omega), (show (qf739 14).toInt = (qf 14).toInt from by first | exact e754 | omega), (show (qf739 21).toInt = (qf 21).toInt from by first | exact e755 | omega), (show (qf739 23).toInt = (qf 23).toInt from by first | exact e756 | omega), (show (qf739 24).toInt = (qf 24).toInt from by first | exact e757 | omega), (show WrU qa qa740 (qf 10).toInt (-1) from e758.w)⟩) d_Mpr_two_161
              · exact absurd c736 (by decide)
            · have nc734 : ¬ v731.toInt = (0 : Int) := mt (i_eq (x := v731) (y := 0)).mpr c734
              refine lv_iload_n S.x S.b d_Mpr_two_142 rfl (lv_at hl 5 rfl) ?_
              refine lv_iload_n S.x S.b d_Mpr_two_143 rfl (lv_at hl 6 rfl) ?_
              refine lv_ishr S.x S.b d_Mpr_two_144 ?_
              refine lv_topi (fun z759 ez759 => ?_)
              have lz759 := Int32.le_toInt z759
              have uz759 := Int32.toInt_lt z759
              refine lv_goto (tgt := 158) S.x S.b d_Mpr_two_145 (by decide) ?_
              refine px_callv (pr := []) (px_runV (As := [.int z759]) (rest := []) S (c_mr_give l D cs nf q qr qg qf qa h r g tf ta pf na ma wa cf ca ef ea xf xa z759  (show 0 ≤ (qf 10).toInt from by first | exact g2 | omega) (show (qf 10).toInt < 62500 from by first | exact oz_7621ce4cd5 g3 | omega) _) hT (pr := []) (pcs := [wd_Mpr cs q qr (fun k => if k = 0 then (some h) else none) qf qa qg, wdP cs h r g tf ta pf na ma wa cf ca ef ea xf xa]) hw (oX_call (P := (fun A U H => (oP A g U H))) (pr := []) oG_P hw hA hP) (px_recv hT hw 0 0 rfl rfl rfl) m13_161 m13_158 m13_159 m13_160 m1_22 q_Mpr_give ⟨Nat.le_of_ble_eq_true rfl, Nat.le_of_ble_eq_true rfl⟩ hl.1 rfl (Nat.le_of_ble_eq_true rfl) d_Mpr_two_158 ⟨Nat.le_of_ble_eq_true rfl, Nat.le_of_ble_eq_true rfl⟩) hw hA (fun p764 H locs hp764 hw => ?_)
              obtain ⟨qf762, qa763, rfl, e766, e767, e768, e769, e770, e771, e772, e773, e774, e775, e776, e777, e778, e779, e780, e781⟩ := hp764
              have e766 : (qf762 10).toInt = (qf 10).toInt + 1 := e766
              have e767 : (qf762 1).toInt = (qf 1).toInt := e767
              have e768 : (qf762 2).toInt = (qf 2).toInt := e768
              have e769 : (qf762 3).toInt = (qf 3).toInt := e769
              have e770 : (qf762 4).toInt = (qf 4).toInt := e770
              have e771 : (qf762 5).toInt = (qf 5).toInt := e771
              have e772 : (qf762 6).toInt = (qf 6).toInt := e772
              have e773 : (qf762 7).toInt = (qf 7).toInt := e773
              have e774 : (qf762 11).toInt = (qf 11).toInt := e774
              have e775 : (qf762 12).toInt = (qf 12).toInt := e775
              have e776 : (qf762 13).toInt = (qf 13).toInt := e776
              have e777 : (qf762 14).toInt = (qf 14).toInt := e777
              have e778 : (qf762 21).toInt = (qf 21).toInt := e778
              have e779 : (qf762 23).toInt = (qf 23).toInt := e779
              have e780 : (qf762 24).toInt = (qf 24).toInt := e780
              have e781 : NuU qa qa763 9 (qf 10).toInt z759 := e781
              skip
              have hw : pw D A s.heap H locs [wd_Mpr cs q qr (fun k => if k = 0 then (some h) else none) qf762 qa763 qg, wdP cs h r g tf ta pf na ma wa cf ca ef ea xf xa] := hw
              exact px_vret S hr hlk hAe hw (Nat.le_of_ble_eq_true rfl) (Nat.le_of_ble_eq_true rfl) (⟨qf762, qa763, rfl, (show TwO (qf762 2).toInt (qf 2).toInt (qf762 10).toInt (qf 10).toInt from (Or.inl ⟨by omega, by omega⟩)), (show (qf762 1).toInt = (qf 1).toInt from by first | exact e767 | omega), (show (qf762 4).toInt = (qf 4).toInt from by first | exact e770 | omega), (show (qf762 5).toInt = (qf 5).toInt from by first | exact e771 | omega), (show (qf762 6).toInt = (qf 6).toInt from by first | exact e772 | omega), (show (qf762 7).toInt = (qf 7).toInt from by first | exact e773 | omega), (show (qf762 11).toInt = (qf 11).toInt from by first | exact e774 | omega), (show (qf762 12).toInt = (qf 12).toInt from by first | exact e775 | omega), (show (qf762 13).toInt = (qf 13).toInt from by first | exact e776 | omega), (show (qf762 14).toInt = (qf 14).toInt from by first | exact e777 | omega), (show (qf762 21).toInt = (qf 21).toInt from by first | exact e778 | omega), (show (qf762 23).toInt = (qf 23).toInt from by first | exact e779 | omega), (show (qf762 24).toInt = (qf 24).toInt from by first | exact e780 | omega), (show WrU qa qa763 (qf 10).toInt (-1) from e781.w)⟩) d_Mpr_two_161
          · have nc725 : ¬ v722.toInt = (0 : Int) := mt (i_eq (x := v722) (y := 0)).mpr c725
            refine lv_iload_n S.x S.b d_Mpr_two_126 rfl (lv_at hl 5 rfl) ?_
            refine lv_iload_n S.x S.b d_Mpr_two_127 rfl (lv_at hl 6 rfl) ?_
            refine lv_ishl S.x S.b d_Mpr_two_128 ?_
            refine lv_topi (fun z782 ez782 => ?_)
            have lz782 := Int32.le_toInt z782
            have uz782 := Int32.toInt_lt z782
            refine lv_goto (tgt := 158) S.x S.b d_Mpr_two_129 (by decide) ?_
            refine px_callv (pr := []) (px_runV (As := [.int z782]) (rest := []) S (c_mr_give l D cs nf q qr qg qf qa h r g tf ta pf na ma wa cf ca ef ea xf xa z782  (show 0 ≤ (qf 10).toInt from by first | exact g2 | omega) (show (qf 10).toInt < 62500 from by first | exact oz_7621ce4cd5 g3 | omega) _) hT (pr := []) (pcs := [wd_Mpr cs q qr (fun k => if k = 0 then (some h) else none) qf qa qg, wdP cs h r g tf ta pf na ma wa cf ca ef ea xf xa]) hw (oX_call (P := (fun A U H => (oP A g U H))) (pr := []) oG_P hw hA hP) (px_recv hT hw 0 0 rfl rfl rfl) m13_161 m13_158 m13_159 m13_160 m1_22 q_Mpr_give ⟨Nat.le_of_ble_eq_true rfl, Nat.le_of_ble_eq_true rfl⟩ hl.1 rfl (Nat.le_of_ble_eq_true rfl) d_Mpr_two_158 ⟨Nat.le_of_ble_eq_true rfl, Nat.le_of_ble_eq_true rfl⟩) hw hA (fun p787 H locs hp787 hw => ?_)
            obtain ⟨qf785, qa786, rfl, e789, e790, e791, e792, e793, e794, e795, e796, e797, e798, e799, e800, e801, e802, e803, e804⟩ := hp787
            have e789 : (qf785 10).toInt = (qf 10).toInt + 1 := e789
            have e790 : (qf785 1).toInt = (qf 1).toInt := e790
            have e791 : (qf785 2).toInt = (qf 2).toInt := e791
            have e792 : (qf785 3).toInt = (qf 3).toInt := e792
            have e793 : (qf785 4).toInt = (qf 4).toInt := e793
            have e794 : (qf785 5).toInt = (qf 5).toInt := e794
            have e795 : (qf785 6).toInt = (qf 6).toInt := e795
            have e796 : (qf785 7).toInt = (qf 7).toInt := e796
            have e797 : (qf785 11).toInt = (qf 11).toInt := e797
            have e798 : (qf785 12).toInt = (qf 12).toInt := e798
            have e799 : (qf785 13).toInt = (qf 13).toInt := e799
            have e800 : (qf785 14).toInt = (qf 14).toInt := e800
            have e801 : (qf785 21).toInt = (qf 21).toInt := e801
            have e802 : (qf785 23).toInt = (qf 23).toInt := e802
            have e803 : (qf785 24).toInt = (qf 24).toInt := e803
            have e804 : NuU qa qa786 9 (qf 10).toInt z782 := e804
            skip
            have hw : pw D A s.heap H locs [wd_Mpr cs q qr (fun k => if k = 0 then (some h) else none) qf785 qa786 qg, wdP cs h r g tf ta pf na ma wa cf ca ef ea xf xa] := hw
            exact px_vret S hr hlk hAe hw (Nat.le_of_ble_eq_true rfl) (Nat.le_of_ble_eq_true rfl) (⟨qf785, qa786, rfl, (show TwO (qf785 2).toInt (qf 2).toInt (qf785 10).toInt (qf 10).toInt from (Or.inl ⟨by omega, by omega⟩)), (show (qf785 1).toInt = (qf 1).toInt from by first | exact e790 | omega), (show (qf785 4).toInt = (qf 4).toInt from by first | exact e793 | omega), (show (qf785 5).toInt = (qf 5).toInt from by first | exact e794 | omega), (show (qf785 6).toInt = (qf 6).toInt from by first | exact e795 | omega), (show (qf785 7).toInt = (qf 7).toInt from by first | exact e796 | omega), (show (qf785 11).toInt = (qf 11).toInt from by first | exact e797 | omega), (show (qf785 12).toInt = (qf 12).toInt from by first | exact e798 | omega), (show (qf785 13).toInt = (qf 13).toInt from by first | exact e799 | omega), (show (qf785 14).toInt = (qf 14).toInt from by first | exact e800 | omega), (show (qf785 21).toInt = (qf 21).toInt from by first | exact e801 | omega), (show (qf785 23).toInt = (qf 23).toInt from by first | exact e802 | omega), (show (qf785 24).toInt = (qf 24).toInt from by first | exact e803 | omega), (show WrU qa qa786 (qf 10).toInt (-1) from e804.w)⟩) d_Mpr_two_161
      · have nc356 : v299.toInt = (33 : Int) := (i_eq (x := v299) (y := 33)).mp c356
        refine lv_iload_n S.x S.b d_Mpr_two_55 rfl (lv_at hl 4 rfl) ?_
        refine lv_iload_n S.x S.b d_Mpr_two_56 rfl (lv_at hl 5 rfl) ?_
        refine lv_icmp_eq (tgt := 64) S.x S.b d_Mpr_two_57 (by decide) (fun c805 => ?_) (fun c805 => ?_)
        · have nc805 : p1.toInt = p2.toInt := (i_eq (x := p1) (y := p2)).mp c805
          refine lv_iconst (v := 0) S.x S.b d_Mpr_two_64 (by decide) ?_
          refine lv_goto (tgt := 113) S.x S.b d_Mpr_two_65 (by decide) ?_
          refine lv_istore (lv' := [(6, .int 0), (5, .int v299), (4, .ref sk295), (0, .ref q), (1, .int p0), (2, .int p1), (3, .int p2)]) S.x S.b d_Mpr_two_113 hl (by decide) rfl (fun ls hl => ?_)
          refine lv_aload_n S.x S.b d_Mpr_two_115 rfl (lv_at hl 3 rfl) ?_
          refine lv_aload S.x S.b d_Mpr_two_116 (lv_at hl 2 rfl) ?_
          obtain ⟨sk807, hRsk807, st808, sb809, hSsk807⟩ := oLW_lit hSh (k := 186) (tx := "<<") (n := 2) (by decide)
          refine va_ldcS S.x S.b S.own hRsk807 d_Mpr_two_118 ?_
          refine px_calli (pr := [wd_Mpr cs q qr (fun k => if k = 0 then (some h) else none) qf qa qg, wdP cs h r g tf ta pf na ma wa cf ca ef ea xf xa]) (px_runV (As := [.ref sk807]) (rest := [.ref q]) S (c_sg_equals l D cs sk295 st296 (mlen p0.toNatClampNeg) (mby p0.toNatClampNeg) sk807 st808 2 sb809   (show (mlen p0.toNatClampNeg) ≤ 1000000 from by first | exact oz_f8a16524ad e304 nc306 | omega) (show 2 ≤ 1000000 from by omega) _) hT (pr := [wd_Mpr cs q qr (fun k => if k = 0 then (some h) else none) qf qa qg, wdP cs h r g tf ta pf na ma wa cf ca ef ea xf xa]) (pcs := []) hw (oX_call (P := (fun A U H => (oZ A U H) ∧ (oS A sk295 st296 (mlen p0.toNatClampNeg) (mby p0.toNatClampNeg) U H) ∧ (oS A sk807 st808 2 sb809 U H))) (pr := [wd_Mpr cs q qr (fun k => if k = 0 then (some h) else none) qf qa qg, wdP cs h r g tf ta pf na ma wa cf ca ef ea xf xa]) (oG_and oG_Z (oG_and oG_S oG_S)) hw hA ⟨hZ, hSsk295, hSsk807⟩) (oS_recv hw hSsk295) m11_225 m14_155 m11_223 m11_224 m1_3 q_String_equals ⟨Nat.le_of_ble_eq_true rfl, Nat.le_of_ble_eq_true rfl⟩ hl.1 rfl (Nat.le_of_ble_eq_true rfl) d_Mpr_two_120 ⟨Nat.le_of_ble_eq_true rfl, Nat.le_of_ble_eq_true rfl⟩) hw hA (fun v811 p810 H locs hp810 hw => ?_)
          obtain ⟨rfl, e812, e813⟩ := hp810
          have e812 := z_rng e812
          have e813 : R_sg_equals (mlen p0.toNatClampNeg) (mby p0.toNatClampNeg) 2 sb809 v811 := e813
          have hw : pw D A s.heap H locs [wd_Mpr cs q qr (fun k => if k = 0 then (some h) else none) qf qa qg, wdP cs h r g tf ta pf na ma wa cf ca ef ea xf xa] := hw
          have lv811 := Int32.le_toInt v811
          have uv811 := Int32.toInt_lt v811
          refine lv_if_eq (tgt := 132) S.x S.b d_Mpr_two_123 (by decide) (fun c814 => ?_) (fun c814 => ?_)
          · have nc814 : v811.toInt = (0 : Int) := (i_eq (x := v811) (y := 0)).mp c814
            refine lv_aload S.x S.b d_Mpr_two_132 (lv_at hl 2 rfl) ?_
            obtain ⟨sk816, hRsk816, st817, sb818, hSsk816⟩ := oLW_lit hSh (k := 192) (tx := ">>") (n := 2) (by decide)
            refine va_ldcS S.x S.b S.own hRsk816 d_Mpr_two_134 ?_
            refine px_calli (pr := [wd_Mpr cs q qr (fun k => if k = 0 then (some h) else none) qf qa qg, wdP cs h r g tf ta pf na ma wa cf ca ef ea xf xa]) (px_runV (As := [.ref sk816]) (rest := [.ref q]) S (c_sg_equals l D cs sk295 st296 (mlen p0.toNatClampNeg) (mby p0.toNatClampNeg) sk816 st817 2 sb818   (show (mlen p0.toNatClampNeg) ≤ 1000000 from by first | exact oz_f8a16524ad e304 nc306 | omega) (show 2 ≤ 1000000 from by omega) _) hT (pr := [wd_Mpr cs q qr (fun k => if k = 0 then (some h) else none) qf qa qg, wdP cs h r g tf ta pf na ma wa cf ca ef ea xf xa]) (pcs := []) hw (oX_call (P := (fun A U H => (oZ A U H) ∧ (oS A sk295 st296 (mlen p0.toNatClampNeg) (mby p0.toNatClampNeg) U H) ∧ (oS A sk816 st817 2 sb818 U H))) (pr := [wd_Mpr cs q qr (fun k => if k = 0 then (some h) else none) qf qa qg, wdP cs h r g tf ta pf na ma wa cf ca ef ea xf xa]) (oG_and oG_Z (oG_and oG_S oG_S)) hw hA ⟨hZ, hSsk295, hSsk816⟩) (oS_recv hw hSsk295) m11_225 m14_155 m11_223 m11_224 m1_3 q_String_equals ⟨Nat.le_of_ble_eq_true rfl, Nat.le_of_ble_eq_true rfl⟩ hl.1 rfl (Nat.le_of_ble_eq_true rfl) d_Mpr_two_136 ⟨Nat.le_of_ble_eq_true rfl, Nat.le_of_ble_eq_true rfl⟩) hw hA (fun v820 p819 H locs hp819 hw => ?_)
            obtain ⟨rfl, e821, e822⟩ := hp819
            have e821 := z_rng e821
            have e822 : R_sg_equals (mlen p0.toNatClampNeg) (mby p0.toNatClampNeg) 2 sb818 v820 := e822
            have hw : pw D A s.heap H locs [wd_Mpr cs q qr (fun k => if k = 0 then (some h) else none) qf qa qg, wdP cs h r g tf ta pf na ma wa cf ca ef ea xf xa] := hw
            have lv820 := Int32.le_toInt v820
            have uv820 := Int32.toInt_lt v820
            refine lv_if_eq (tgt := 148) S.x S.b d_Mpr_two_139 (by decide) (fun c823 => ?_) (fun c823 => ?_)
            · have nc823 : v820.toInt = (0 : Int) := (i_eq (x := v820) (y := 0)).mp c823
              refine lv_iload S.x S.b d_Mpr_two_148 (lv_at hl 0 rfl) ?_
              refine lv_if_eq (tgt := 157) S.x S.b d_Mpr_two_150 (by decide) (fun c825 => ?_) (fun c825 => ?_)
              ·
                refine lv_iconst (v := 0) S.x S.b d_Mpr_two_157 (by decide) ?_
                refine px_callv (pr := []) (px_runV (As := [.int 0]) (rest := []) S (c_mr_give l D cs nf q qr qg qf qa h r g tf ta pf na ma wa cf ca ef ea xf xa 0  (show 0 ≤ (qf 10).toInt from by first | exact g2 | omega) (show (qf 10).toInt < 62500 from by first | exact oz_7621ce4cd5 g3 | omega) _) hT (pr := []) (pcs := [wd_Mpr cs q qr (fun k => if k = 0 then (some h) else none) qf qa qg, wdP cs h r g tf ta pf na ma wa cf ca ef ea xf xa]) hw (oX_call (P := (fun A U H => (oP A g U H))) (pr := []) oG_P hw hA hP) (px_recv hT hw 0 0 rfl rfl rfl) m13_161 m13_158 m13_159 m13_160 m1_22 q_Mpr_give ⟨Nat.le_of_ble_eq_true rfl, Nat.le_of_ble_eq_true rfl⟩ hl.1 rfl (Nat.le_of_ble_eq_true rfl) d_Mpr_two_158 ⟨Nat.le_of_ble_eq_true rfl, Nat.le_of_ble_eq_true rfl⟩) hw hA (fun p830 H locs hp830 hw => ?_)
                obtain ⟨qf828, qa829, rfl, e832, e833, e834, e835, e836, e837, e838, e839, e840, e841, e842, e843, e844, e845, e846, e847⟩ := hp830
                have e832 : (qf828 10).toInt = (qf 10).toInt + 1 := e832
                have e833 : (qf828 1).toInt = (qf 1).toInt := e833
                have e834 : (qf828 2).toInt = (qf 2).toInt := e834
                have e835 : (qf828 3).toInt = (qf 3).toInt := e835
                have e836 : (qf828 4).toInt = (qf 4).toInt := e836
                have e837 : (qf828 5).toInt = (qf 5).toInt := e837
                have e838 : (qf828 6).toInt = (qf 6).toInt := e838
                have e839 : (qf828 7).toInt = (qf 7).toInt := e839
                have e840 : (qf828 11).toInt = (qf 11).toInt := e840
                have e841 : (qf828 12).toInt = (qf 12).toInt := e841
                have e842 : (qf828 13).toInt = (qf 13).toInt := e842
                have e843 : (qf828 14).toInt = (qf 14).toInt := e843
                have e844 : (qf828 21).toInt = (qf 21).toInt := e844
                have e845 : (qf828 23).toInt = (qf 23).toInt := e845
                have e846 : (qf828 24).toInt = (qf 24).toInt := e846
                have e847 : NuU qa qa829 9 (qf 10).toInt (0 : Int32) := e847
                skip
                have hw : pw D A s.heap H locs [wd_Mpr cs q qr (fun k => if k = 0 then (some h) else none) qf828 qa829 qg, wdP cs h r g tf ta pf na ma wa cf ca ef ea xf xa] := hw
                exact px_vret S hr hlk hAe hw (Nat.le_of_ble_eq_true rfl) (Nat.le_of_ble_eq_true rfl) (⟨qf828, qa829, rfl, (show TwO (qf828 2).toInt (qf 2).toInt (qf828 10).toInt (qf 10).toInt from (Or.inl ⟨by omega, by omega⟩)), (show (qf828 1).toInt = (qf 1).toInt from by first | exact e833 | omega), (show (qf828 4).toInt = (qf 4).toInt from by first | exact e836 | omega), (show (qf828 5).toInt = (qf 5).toInt from by first | exact e837 | omega), (show (qf828 6).toInt = (qf 6).toInt from by first | exact e838 | omega), (show (qf828 7).toInt = (qf 7).toInt from by first | exact e839 | omega), (show (qf828 11).toInt = (qf 11).toInt from by first | exact e840 | omega), (show (qf828 12).toInt = (qf 12).toInt from by first | exact e841 | omega), (show (qf828 13).toInt = (qf 13).toInt from by first | exact e842 | omega), (show (qf828 14).toInt = (qf 14).toInt from by first | exact e843 | omega), (show (qf828 21).toInt = (qf 21).toInt from by first | exact e844 | omega), (show (qf828 23).toInt = (qf 23).toInt from by first | exact e845 | omega), (show (qf828 24).toInt = (qf 24).toInt from by first | exact e846 | omega), (show WrU qa qa829 (qf 10).toInt (-1) from e847.w)⟩) d_Mpr_two_161
              · exact absurd c825 (by decide)
            · have nc823 : ¬ v820.toInt = (0 : Int) := mt (i_eq (x := v820) (y := 0)).mpr c823
              refine lv_iload_n S.x S.b d_Mpr_two_142 rfl (lv_at hl 5 rfl) ?_
              refine lv_iload_n S.x S.b d_Mpr_two_143 rfl (lv_at hl 6 rfl) ?_
              refine lv_ishr S.x S.b d_Mpr_two_144 ?_
              refine lv_topi (fun z848 ez848 => ?_)
              have lz848 := Int32.le_toInt z848
              have uz848 := Int32.toInt_lt z848
              refine lv_goto (tgt := 158) S.x S.b d_Mpr_two_145 (by decide) ?_
              refine px_callv (pr := []) (px_runV (As := [.int z848]) (rest := []) S (c_mr_give l D cs nf q qr qg qf qa h r g tf ta pf na ma wa cf ca ef ea xf xa z848  (show 0 ≤ (qf 10).toInt from by first | exact g2 | omega) (show (qf 10).toInt < 62500 from by first | exact oz_7621ce4cd5 g3 | omega) _) hT (pr := []) (pcs := [wd_Mpr cs q qr (fun k => if k = 0 then (some h) else none) qf qa qg, wdP cs h r g tf ta pf na ma wa cf ca ef ea xf xa]) hw (oX_call (P := (fun A U H => (oP A g U H))) (pr := []) oG_P hw hA hP) (px_recv hT hw 0 0 rfl rfl rfl) m13_161 m13_158 m13_159 m13_160 m1_22 q_Mpr_give ⟨Nat.le_of_ble_eq_true rfl, Nat.le_of_ble_eq_true rfl⟩ hl.1 rfl (Nat.le_of_ble_eq_true rfl) d_Mpr_two_158 ⟨Nat.le_of_ble_eq_true rfl, Nat.le_of_ble_eq_true rfl⟩) hw hA (fun p853 H locs hp853 hw => ?_)
              obtain ⟨qf851, qa852, rfl, e855, e856, e857, e858, e859, e860, e861, e862, e863, e864, e865, e866, e867, e868, e869, e870⟩ := hp853
              have e855 : (qf851 10).toInt = (qf 10).toInt + 1 := e855
              have e856 : (qf851 1).toInt = (qf 1).toInt := e856
              have e857 : (qf851 2).toInt = (qf 2).toInt := e857
              have e858 : (qf851 3).toInt = (qf 3).toInt := e858
              have e859 : (qf851 4).toInt = (qf 4).toInt := e859
              have e860 : (qf851 5).toInt = (qf 5).toInt := e860
              have e861 : (qf851 6).toInt = (qf 6).toInt := e861
              have e862 : (qf851 7).toInt = (qf 7).toInt := e862
              have e863 : (qf851 11).toInt = (qf 11).toInt := e863
              have e864 : (qf851 12).toInt = (qf 12).toInt := e864
              have e865 : (qf851 13).toInt = (qf 13).toInt := e865
              have e866 : (qf851 14).toInt = (qf 14).toInt := e866
              have e867 : (qf851 21).toInt = (qf 21).toInt := e867
              have e868 : (qf851 23).toInt = (qf 23).toInt := e868
              have e869 : (qf851 24).toInt = (qf 24).toInt := e869
              have e870 : NuU qa qa852 9 (qf 10).toInt z848 := e870
              skip
              have hw : pw D A s.heap H locs [wd_Mpr cs q qr (fun k => if k = 0 then (some h) else none) qf851 qa852 qg, wdP cs h r g tf ta pf na ma wa cf ca ef ea xf xa] := hw
              exact px_vret S hr hlk hAe hw (Nat.le_of_ble_eq_true rfl) (Nat.le_of_ble_eq_true rfl) (⟨qf851, qa852, rfl, (show TwO (qf851 2).toInt (qf 2).toInt (qf851 10).toInt (qf 10).toInt from (Or.inl ⟨by omega, by omega⟩)), (show (qf851 1).toInt = (qf 1).toInt from by first | exact e856 | omega), (show (qf851 4).toInt = (qf 4).toInt from by first | exact e859 | omega), (show (qf851 5).toInt = (qf 5).toInt from by first | exact e860 | omega), (show (qf851 6).toInt = (qf 6).toInt from by first | exact e861 | omega), (show (qf851 7).toInt = (qf 7).toInt from by first | exact e862 | omega), (show (qf851 11).toInt = (qf 11).toInt from by first | exact e863 | omega), (show (qf851 12).toInt = (qf 12).toInt from by first | exact e864 | omega), (show (qf851 13).toInt = (qf 13).toInt from by first | exact e865 | omega), (show (qf851 14).toInt = (qf 14).toInt from by first | exact e866 | omega), (show (qf851 21).toInt = (qf 21).toInt from by first | exact e867 | omega), (show (qf851 23).toInt = (qf 23).toInt from by first | exact e868 | omega), (show (qf851 24).toInt = (qf 24).toInt from by first | exact e869 | omega), (show WrU qa qa852 (qf 10).toInt (-1) from e870.w)⟩) d_Mpr_two_161
          · have nc814 : ¬ v811.toInt = (0 : Int) := mt (i_eq (x := v811) (y := 0)).mpr c814
            refine lv_iload_n S.x S.b d_Mpr_two_126 rfl (lv_at hl 5 rfl) ?_
            refine lv_iload_n S.x S.b d_Mpr_two_127 rfl (lv_at hl 6 rfl) ?_
            refine lv_ishl S.x S.b d_Mpr_two_128 ?_
            refine lv_topi (fun z871 ez871 => ?_)
            have lz871 := Int32.le_toInt z871
            have uz871 := Int32.toInt_lt z871
            refine lv_goto (tgt := 158) S.x S.b d_Mpr_two_129 (by decide) ?_
            refine px_callv (pr := []) (px_runV (As := [.int z871]) (rest := []) S (c_mr_give l D cs nf q qr qg qf qa h r g tf ta pf na ma wa cf ca ef ea xf xa z871  (show 0 ≤ (qf 10).toInt from by first | exact g2 | omega) (show (qf 10).toInt < 62500 from by first | exact oz_7621ce4cd5 g3 | omega) _) hT (pr := []) (pcs := [wd_Mpr cs q qr (fun k => if k = 0 then (some h) else none) qf qa qg, wdP cs h r g tf ta pf na ma wa cf ca ef ea xf xa]) hw (oX_call (P := (fun A U H => (oP A g U H))) (pr := []) oG_P hw hA hP) (px_recv hT hw 0 0 rfl rfl rfl) m13_161 m13_158 m13_159 m13_160 m1_22 q_Mpr_give ⟨Nat.le_of_ble_eq_true rfl, Nat.le_of_ble_eq_true rfl⟩ hl.1 rfl (Nat.le_of_ble_eq_true rfl) d_Mpr_two_158 ⟨Nat.le_of_ble_eq_true rfl, Nat.le_of_ble_eq_true rfl⟩) hw hA (fun p876 H locs hp876 hw => ?_)
            obtain ⟨qf874, qa875, rfl, e878, e879, e880, e881, e882, e883, e884, e885, e886, e887, e888, e889, e890, e891, e892, e893⟩ := hp876
            have e878 : (qf874 10).toInt = (qf 10).toInt + 1 := e878
            have e879 : (qf874 1).toInt = (qf 1).toInt := e879
            have e880 : (qf874 2).toInt = (qf 2).toInt := e880
            have e881 : (qf874 3).toInt = (qf 3).toInt := e881
            have e882 : (qf874 4).toInt = (qf 4).toInt := e882
            have e883 : (qf874 5).toInt = (qf 5).toInt := e883
            have e884 : (qf874 6).toInt = (qf 6).toInt := e884
            have e885 : (qf874 7).toInt = (qf 7).toInt := e885
            have e886 : (qf874 11).toInt = (qf 11).toInt := e886
            have e887 : (qf874 12).toInt = (qf 12).toInt := e887
            have e888 : (qf874 13).toInt = (qf 13).toInt := e888
            have e889 : (qf874 14).toInt = (qf 14).toInt := e889
            have e890 : (qf874 21).toInt = (qf 21).toInt := e890
            have e891 : (qf874 23).toInt = (qf 23).toInt := e891
            have e892 : (qf874 24).toInt = (qf 24).toInt := e892
            have e893 : NuU qa qa875 9 (qf 10).toInt z871 := e893
            skip
            have hw : pw D A s.heap H locs [wd_Mpr cs q qr (fun k => if k = 0 then (some h) else none) qf874 qa875 qg, wdP cs h r g tf ta pf na ma wa cf ca ef ea xf xa] := hw
            exact px_vret S hr hlk hAe hw (Nat.le_of_ble_eq_true rfl) (Nat.le_of_ble_eq_true rfl) (⟨qf874, qa875, rfl, (show TwO (qf874 2).toInt (qf 2).toInt (qf874 10).toInt (qf 10).toInt from (Or.inl ⟨by omega, by omega⟩)), (show (qf874 1).toInt = (qf 1).toInt from by first | exact e879 | omega), (show (qf874 4).toInt = (qf 4).toInt from by first | exact e882 | omega), (show (qf874 5).toInt = (qf 5).toInt from by first | exact e883 | omega), (show (qf874 6).toInt = (qf 6).toInt from by first | exact e884 | omega), (show (qf874 7).toInt = (qf 7).toInt from by first | exact e885 | omega), (show (qf874 11).toInt = (qf 11).toInt from by first | exact e886 | omega), (show (qf874 12).toInt = (qf 12).toInt from by first | exact e887 | omega), (show (qf874 13).toInt = (qf 13).toInt from by first | exact e888 | omega), (show (qf874 14).toInt = (qf 14).toInt from by first | exact e889 | omega), (show (qf874 21).toInt = (qf 21).toInt from by first | exact e890 | omega), (show (qf874 23).toInt = (qf 23).toInt from by first | exact e891 | omega), (show (qf874 24).toInt = (qf 24).toInt from by first | exact e892 | omega), (show WrU qa qa875 (qf 10).toInt (-1) from e893.w)⟩) d_Mpr_two_161
        · have nc805 : ¬ p1.toInt = p2.toInt := mt (i_eq (x := p1) (y := p2)).mpr c805
          refine lv_iconst (v := 1) S.x S.b d_Mpr_two_60 (by decide) ?_
          refine lv_goto (tgt := 113) S.x S.b d_Mpr_two_61 (by decide) ?_
          refine lv_istore (lv' := [(6, .int 1), (5, .int v299), (4, .ref sk295), (0, .ref q), (1, .int p0), (2, .int p1), (3, .int p2)]) S.x S.b d_Mpr_two_113 hl (by decide) rfl (fun ls hl => ?_)
          refine lv_aload_n S.x S.b d_Mpr_two_115 rfl (lv_at hl 3 rfl) ?_
          refine lv_aload S.x S.b d_Mpr_two_116 (lv_at hl 2 rfl) ?_
          obtain ⟨sk894, hRsk894, st895, sb896, hSsk894⟩ := oLW_lit hSh (k := 186) (tx := "<<") (n := 2) (by decide)
          refine va_ldcS S.x S.b S.own hRsk894 d_Mpr_two_118 ?_
          refine px_calli (pr := [wd_Mpr cs q qr (fun k => if k = 0 then (some h) else none) qf qa qg, wdP cs h r g tf ta pf na ma wa cf ca ef ea xf xa]) (px_runV (As := [.ref sk894]) (rest := [.ref q]) S (c_sg_equals l D cs sk295 st296 (mlen p0.toNatClampNeg) (mby p0.toNatClampNeg) sk894 st895 2 sb896   (show (mlen p0.toNatClampNeg) ≤ 1000000 from by first | exact oz_f8a16524ad e304 nc306 | omega) (show 2 ≤ 1000000 from by omega) _) hT (pr := [wd_Mpr cs q qr (fun k => if k = 0 then (some h) else none) qf qa qg, wdP cs h r g tf ta pf na ma wa cf ca ef ea xf xa]) (pcs := []) hw (oX_call (P := (fun A U H => (oZ A U H) ∧ (oS A sk295 st296 (mlen p0.toNatClampNeg) (mby p0.toNatClampNeg) U H) ∧ (oS A sk894 st895 2 sb896 U H))) (pr := [wd_Mpr cs q qr (fun k => if k = 0 then (some h) else none) qf qa qg, wdP cs h r g tf ta pf na ma wa cf ca ef ea xf xa]) (oG_and oG_Z (oG_and oG_S oG_S)) hw hA ⟨hZ, hSsk295, hSsk894⟩) (oS_recv hw hSsk295) m11_225 m14_155 m11_223 m11_224 m1_3 q_String_equals ⟨Nat.le_of_ble_eq_true rfl, Nat.le_of_ble_eq_true rfl⟩ hl.1 rfl (Nat.le_of_ble_eq_true rfl) d_Mpr_two_120 ⟨Nat.le_of_ble_eq_true rfl, Nat.le_of_ble_eq_true rfl⟩) hw hA (fun v898 p897 H locs hp897 hw => ?_)
          obtain ⟨rfl, e899, e900⟩ := hp897
          have e899 := z_rng e899
          have e900 : R_sg_equals (mlen p0.toNatClampNeg) (mby p0.toNatClampNeg) 2 sb896 v898 := e900
          have hw : pw D A s.heap H locs [wd_Mpr cs q qr (fun k => if k = 0 then (some h) else none) qf qa qg, wdP cs h r g tf ta pf na ma wa cf ca ef ea xf xa] := hw
          have lv898 := Int32.le_toInt v898
          have uv898 := Int32.toInt_lt v898
          refine lv_if_eq (tgt := 132) S.x S.b d_Mpr_two_123 (by decide) (fun c901 => ?_) (fun c901 => ?_)
          · have nc901 : v898.toInt = (0 : Int) := (i_eq (x := v898) (y := 0)).mp c901
            refine lv_aload S.x S.b d_Mpr_two_132 (lv_at hl 2 rfl) ?_
            obtain ⟨sk903, hRsk903, st904, sb905, hSsk903⟩ := oLW_lit hSh (k := 192) (tx := ">>") (n := 2) (by decide)
            refine va_ldcS S.x S.b S.own hRsk903 d_Mpr_two_134 ?_
            refine px_calli (pr := [wd_Mpr cs q qr (fun k => if k = 0 then (some h) else none) qf qa qg, wdP cs h r g tf ta pf na ma wa cf ca ef ea xf xa]) (px_runV (As := [.ref sk903]) (rest := [.ref q]) S (c_sg_equals l D cs sk295 st296 (mlen p0.toNatClampNeg) (mby p0.toNatClampNeg) sk903 st904 2 sb905   (show (mlen p0.toNatClampNeg) ≤ 1000000 from by first | exact oz_f8a16524ad e304 nc306 | omega) (show 2 ≤ 1000000 from by omega) _) hT (pr := [wd_Mpr cs q qr (fun k => if k = 0 then (some h) else none) qf qa qg, wdP cs h r g tf ta pf na ma wa cf ca ef ea xf xa]) (pcs := []) hw (oX_call (P := (fun A U H => (oZ A U H) ∧ (oS A sk295 st296 (mlen p0.toNatClampNeg) (mby p0.toNatClampNeg) U H) ∧ (oS A sk903 st904 2 sb905 U H))) (pr := [wd_Mpr cs q qr (fun k => if k = 0 then (some h) else none) qf qa qg, wdP cs h r g tf ta pf na ma wa cf ca ef ea xf xa]) (oG_and oG_Z (oG_and oG_S oG_S)) hw hA ⟨hZ, hSsk295, hSsk903⟩) (oS_recv hw hSsk295) m11_225 m14_155 m11_223 m11_224 m1_3 q_String_equals ⟨Nat.le_of_ble_eq_true rfl, Nat.le_of_ble_eq_true rfl⟩ hl.1 rfl (Nat.le_of_ble_eq_true rfl) d_Mpr_two_136 ⟨Nat.le_of_ble_eq_true rfl, Nat.le_of_ble_eq_true rfl⟩) hw hA (fun v907 p906 H locs hp906 hw => ?_)
            obtain ⟨rfl, e908, e909⟩ := hp906
            have e908 := z_rng e908
            have e909 : R_sg_equals (mlen p0.toNatClampNeg) (mby p0.toNatClampNeg) 2 sb905 v907 := e909
            have hw : pw D A s.heap H locs [wd_Mpr cs q qr (fun k => if k = 0 then (some h) else none) qf qa qg, wdP cs h r g tf ta pf na ma wa cf ca ef ea xf xa] := hw
            have lv907 := Int32.le_toInt v907
            have uv907 := Int32.toInt_lt v907
            refine lv_if_eq (tgt := 148) S.x S.b d_Mpr_two_139 (by decide) (fun c910 => ?_) (fun c910 => ?_)
            · have nc910 : v907.toInt = (0 : Int) := (i_eq (x := v907) (y := 0)).mp c910
              refine lv_iload S.x S.b d_Mpr_two_148 (lv_at hl 0 rfl) ?_
              refine lv_if_eq (tgt := 157) S.x S.b d_Mpr_two_150 (by decide) (fun c912 => ?_) (fun c912 => ?_)
              · exact absurd c912 (by decide)
              ·
                refine lv_iconst (v := 1) S.x S.b d_Mpr_two_153 (by decide) ?_
                refine lv_goto (tgt := 158) S.x S.b d_Mpr_two_154 (by decide) ?_
                refine px_callv (pr := []) (px_runV (As := [.int 1]) (rest := []) S (c_mr_give l D cs nf q qr qg qf qa h r g tf ta pf na ma wa cf ca ef ea xf xa 1  (show 0 ≤ (qf 10).toInt from by first | exact g2 | omega) (show (qf 10).toInt < 62500 from by first | exact oz_7621ce4cd5 g3 | omega) _) hT (pr := []) (pcs := [wd_Mpr cs q qr (fun k => if k = 0 then (some h) else none) qf qa qg, wdP cs h r g tf ta pf na ma wa cf ca ef ea xf xa]) hw (oX_call (P := (fun A U H => (oP A g U H))) (pr := []) oG_P hw hA hP) (px_recv hT hw 0 0 rfl rfl rfl) m13_161 m13_158 m13_159 m13_160 m1_22 q_Mpr_give ⟨Nat.le_of_ble_eq_true rfl, Nat.le_of_ble_eq_true rfl⟩ hl.1 rfl (Nat.le_of_ble_eq_true rfl) d_Mpr_two_158 ⟨Nat.le_of_ble_eq_true rfl, Nat.le_of_ble_eq_true rfl⟩) hw hA (fun p917 H locs hp917 hw => ?_)
                obtain ⟨qf915, qa916, rfl, e919, e920, e921, e922, e923, e924, e925, e926, e927, e928, e929, e930, e931, e932, e933, e934⟩ := hp917
                have e919 : (qf915 10).toInt = (qf 10).toInt + 1 := e919
                have e920 : (qf915 1).toInt = (qf 1).toInt := e920
                have e921 : (qf915 2).toInt = (qf 2).toInt := e921
                have e922 : (qf915 3).toInt = (qf 3).toInt := e922
                have e923 : (qf915 4).toInt = (qf 4).toInt := e923
                have e924 : (qf915 5).toInt = (qf 5).toInt := e924
                have e925 : (qf915 6).toInt = (qf 6).toInt := e925
                have e926 : (qf915 7).toInt = (qf 7).toInt := e926
                have e927 : (qf915 11).toInt = (qf 11).toInt := e927
                have e928 : (qf915 12).toInt = (qf 12).toInt := e928
                have e929 : (qf915 13).toInt = (qf 13).toInt := e929
                have e930 : (qf915 14).toInt = (qf 14).toInt := e930
                have e931 : (qf915 21).toInt = (qf 21).toInt := e931
                have e932 : (qf915 23).toInt = (qf 23).toInt := e932
                have e933 : (qf915 24).toInt = (qf 24).toInt := e933
                have e934 : NuU qa qa916 9 (qf 10).toInt (1 : Int32) := e934
                skip
                have hw : pw D A s.heap H locs [wd_Mpr cs q qr (fun k => if k = 0 then (some h) else none) qf915 qa916 qg, wdP cs h r g tf ta pf na ma wa cf ca ef ea xf xa] := hw
                exact px_vret S hr hlk hAe hw (Nat.le_of_ble_eq_true rfl) (Nat.le_of_ble_eq_true rfl) (⟨qf915, qa916, rfl, (show TwO (qf915 2).toInt (qf 2).toInt (qf915 10).toInt (qf 10).toInt from (Or.inl ⟨by omega, by omega⟩)), (show (qf915 1).toInt = (qf 1).toInt from by first | exact e920 | omega), (show (qf915 4).toInt = (qf 4).toInt from by first | exact e923 | omega), (show (qf915 5).toInt = (qf 5).toInt from by first | exact e924 | omega), (show (qf915 6).toInt = (qf 6).toInt from by first | exact e925 | omega), (show (qf915 7).toInt = (qf 7).toInt from by first | exact e926 | omega), (show (qf915 11).toInt = (qf 11).toInt from by first | exact e927 | omega), (show (qf915 12).toInt = (qf 12).toInt from by first | exact e928 | omega), (show (qf915 13).toInt = (qf 13).toInt from by first | exact e929 | omega), (show (qf915 14).toInt = (qf 14).toInt from by first | exact e930 | omega), (show (qf915 21).toInt = (qf 21).toInt from by first | exact e931 | omega), (show (qf915 23).toInt = (qf 23).toInt from by first | exact e932 | omega), (show (qf915 24).toInt = (qf 24).toInt from by first | exact e933 | omega), (show WrU qa qa916 (qf 10).toInt (-1) from e934.w)⟩) d_Mpr_two_161
            · have nc910 : ¬ v907.toInt = (0 : Int) := mt (i_eq (x := v907) (y := 0)).mpr c910
              refine lv_iload_n S.x S.b d_Mpr_two_142 rfl (lv_at hl 5 rfl) ?_
              refine lv_iload_n S.x S.b d_Mpr_two_143 rfl (lv_at hl 6 rfl) ?_
              refine lv_ishr S.x S.b d_Mpr_two_144 ?_
              refine lv_topi (fun z935 ez935 => ?_)
              have lz935 := Int32.le_toInt z935
              have uz935 := Int32.toInt_lt z935
              refine lv_goto (tgt := 158) S.x S.b d_Mpr_two_145 (by decide) ?_
              refine px_callv (pr := []) (px_runV (As := [.int z935]) (rest := []) S (c_mr_give l D cs nf q qr qg qf qa h r g tf ta pf na ma wa cf ca ef ea xf xa z935  (show 0 ≤ (qf 10).toInt from by first | exact g2 | omega) (show (qf 10).toInt < 62500 from by first | exact oz_7621ce4cd5 g3 | omega) _) hT (pr := []) (pcs := [wd_Mpr cs q qr (fun k => if k = 0 then (some h) else none) qf qa qg, wdP cs h r g tf ta pf na ma wa cf ca ef ea xf xa]) hw (oX_call (P := (fun A U H => (oP A g U H))) (pr := []) oG_P hw hA hP) (px_recv hT hw 0 0 rfl rfl rfl) m13_161 m13_158 m13_159 m13_160 m1_22 q_Mpr_give ⟨Nat.le_of_ble_eq_true rfl, Nat.le_of_ble_eq_true rfl⟩ hl.1 rfl (Nat.le_of_ble_eq_true rfl) d_Mpr_two_158 ⟨Nat.le_of_ble_eq_true rfl, Nat.le_of_ble_eq_true rfl⟩) hw hA (fun p940 H locs hp940 hw => ?_)
              obtain ⟨qf938, qa939, rfl, e942, e943, e944, e945, e946, e947, e948, e949, e950, e951, e952, e953, e954, e955, e956, e957⟩ := hp940
              have e942 : (qf938 10).toInt = (qf 10).toInt + 1 := e942
              have e943 : (qf938 1).toInt = (qf 1).toInt := e943
              have e944 : (qf938 2).toInt = (qf 2).toInt := e944
              have e945 : (qf938 3).toInt = (qf 3).toInt := e945
              have e946 : (qf938 4).toInt = (qf 4).toInt := e946
              have e947 : (qf938 5).toInt = (qf 5).toInt := e947
              have e948 : (qf938 6).toInt = (qf 6).toInt := e948
              have e949 : (qf938 7).toInt = (qf 7).toInt := e949
              have e950 : (qf938 11).toInt = (qf 11).toInt := e950
              have e951 : (qf938 12).toInt = (qf 12).toInt := e951
              have e952 : (qf938 13).toInt = (qf 13).toInt := e952
              have e953 : (qf938 14).toInt = (qf 14).toInt := e953
              have e954 : (qf938 21).toInt = (qf 21).toInt := e954
              have e955 : (qf938 23).toInt = (qf 23).toInt := e955
              have e956 : (qf938 24).toInt = (qf 24).toInt := e956
              have e957 : NuU qa qa939 9 (qf 10).toInt z935 := e957
              skip
              have hw : pw D A s.heap H locs [wd_Mpr cs q qr (fun k => if k = 0 then (some h) else none) qf938 qa939 qg, wdP cs h r g tf ta pf na ma wa cf ca ef ea xf xa] := hw
              exact px_vret S hr hlk hAe hw (Nat.le_of_ble_eq_true rfl) (Nat.le_of_ble_eq_true rfl) (⟨qf938, qa939, rfl, (show TwO (qf938 2).toInt (qf 2).toInt (qf938 10).toInt (qf 10).toInt from (Or.inl ⟨by omega, by omega⟩)), (show (qf938 1).toInt = (qf 1).toInt from by first | exact e943 | omega), (show (qf938 4).toInt = (qf 4).toInt from by first | exact e946 | omega), (show (qf938 5).toInt = (qf 5).toInt from by first | exact e947 | omega), (show (qf938 6).toInt = (qf 6).toInt from by first | exact e948 | omega), (show (qf938 7).toInt = (qf 7).toInt from by first | exact e949 | omega), (show (qf938 11).toInt = (qf 11).toInt from by first | exact e950 | omega), (show (qf938 12).toInt = (qf 12).toInt from by first | exact e951 | omega), (show (qf938 13).toInt = (qf 13).toInt from by first | exact e952 | omega), (show (qf938 14).toInt = (qf 14).toInt from by first | exact e953 | omega), (show (qf938 21).toInt = (qf 21).toInt from by first | exact e954 | omega), (show (qf938 23).toInt = (qf 23).toInt from by first | exact e955 | omega), (show (qf938 24).toInt = (qf 24).toInt from by first | exact e956 | omega), (show WrU qa qa939 (qf 10).toInt (-1) from e957.w)⟩) d_Mpr_two_161
          · have nc901 : ¬ v898.toInt = (0 : Int) := mt (i_eq (x := v898) (y := 0)).mpr c901
            refine lv_iload_n S.x S.b d_Mpr_two_126 rfl (lv_at hl 5 rfl) ?_
            refine lv_iload_n S.x S.b d_Mpr_two_127 rfl (lv_at hl 6 rfl) ?_
            refine lv_ishl S.x S.b d_Mpr_two_128 ?_
            refine lv_topi (fun z958 ez958 => ?_)
            have lz958 := Int32.le_toInt z958
            have uz958 := Int32.toInt_lt z958
            refine lv_goto (tgt := 158) S.x S.b d_Mpr_two_129 (by decide) ?_
            refine px_callv (pr := []) (px_runV (As := [.int z958]) (rest := []) S (c_mr_give l D cs nf q qr qg qf qa h r g tf ta pf na ma wa cf ca ef ea xf xa z958  (show 0 ≤ (qf 10).toInt from by first | exact g2 | omega) (show (qf 10).toInt < 62500 from by first | exact oz_7621ce4cd5 g3 | omega) _) hT (pr := []) (pcs := [wd_Mpr cs q qr (fun k => if k = 0 then (some h) else none) qf qa qg, wdP cs h r g tf ta pf na ma wa cf ca ef ea xf xa]) hw (oX_call (P := (fun A U H => (oP A g U H))) (pr := []) oG_P hw hA hP) (px_recv hT hw 0 0 rfl rfl rfl) m13_161 m13_158 m13_159 m13_160 m1_22 q_Mpr_give ⟨Nat.le_of_ble_eq_true rfl, Nat.le_of_ble_eq_true rfl⟩ hl.1 rfl (Nat.le_of_ble_eq_true rfl) d_Mpr_two_158 ⟨Nat.le_of_ble_eq_true rfl, Nat.le_of_ble_eq_true rfl⟩) hw hA (fun p963 H locs hp963 hw => ?_)
            obtain ⟨qf961, qa962, rfl, e965, e966, e967, e968, e969, e970, e971, e972, e973, e974, e975, e976, e977, e978, e979, e980⟩ := hp963
            have e965 : (qf961 10).toInt = (qf 10).toInt + 1 := e965
            have e966 : (qf961 1).toInt = (qf 1).toInt := e966
            have e967 : (qf961 2).toInt = (qf 2).toInt := e967
            have e968 : (qf961 3).toInt = (qf 3).toInt := e968
            have e969 : (qf961 4).toInt = (qf 4).toInt := e969
            have e970 : (qf961 5).toInt = (qf 5).toInt := e970
            have e971 : (qf961 6).toInt = (qf 6).toInt := e971
            have e972 : (qf961 7).toInt = (qf 7).toInt := e972
            have e973 : (qf961 11).toInt = (qf 11).toInt := e973
            have e974 : (qf961 12).toInt = (qf 12).toInt := e974
            have e975 : (qf961 13).toInt = (qf 13).toInt := e975
            have e976 : (qf961 14).toInt = (qf 14).toInt := e976
            have e977 : (qf961 21).toInt = (qf 21).toInt := e977
            have e978 : (qf961 23).toInt = (qf 23).toInt := e978
            have e979 : (qf961 24).toInt = (qf 24).toInt := e979
            have e980 : NuU qa qa962 9 (qf 10).toInt z958 := e980
            skip
            have hw : pw D A s.heap H locs [wd_Mpr cs q qr (fun k => if k = 0 then (some h) else none) qf961 qa962 qg, wdP cs h r g tf ta pf na ma wa cf ca ef ea xf xa] := hw
            exact px_vret S hr hlk hAe hw (Nat.le_of_ble_eq_true rfl) (Nat.le_of_ble_eq_true rfl) (⟨qf961, qa962, rfl, (show TwO (qf961 2).toInt (qf 2).toInt (qf961 10).toInt (qf 10).toInt from (Or.inl ⟨by omega, by omega⟩)), (show (qf961 1).toInt = (qf 1).toInt from by first | exact e966 | omega), (show (qf961 4).toInt = (qf 4).toInt from by first | exact e969 | omega), (show (qf961 5).toInt = (qf 5).toInt from by first | exact e970 | omega), (show (qf961 6).toInt = (qf 6).toInt from by first | exact e971 | omega), (show (qf961 7).toInt = (qf 7).toInt from by first | exact e972 | omega), (show (qf961 11).toInt = (qf 11).toInt from by first | exact e973 | omega), (show (qf961 12).toInt = (qf 12).toInt from by first | exact e974 | omega), (show (qf961 13).toInt = (qf 13).toInt from by first | exact e975 | omega), (show (qf961 14).toInt = (qf 14).toInt from by first | exact e976 | omega), (show (qf961 21).toInt = (qf 21).toInt from by first | exact e977 | omega), (show (qf961 23).toInt = (qf 23).toInt from by first | exact e978 | omega), (show (qf961 24).toInt = (qf 24).toInt from by first | exact e979 | omega), (show WrU qa qa962 (qf 10).toInt (-1) from e980.w)⟩) d_Mpr_two_161
    · have nc354 : v299.toInt = (61 : Int) := (i_eq (x := v299) (y := 61)).mp c354
      refine lv_iload_n S.x S.b d_Mpr_two_35 rfl (lv_at hl 4 rfl) ?_
      refine lv_iload_n S.x S.b d_Mpr_two_36 rfl (lv_at hl 5 rfl) ?_
      refine lv_icmp_ne (tgt := 44) S.x S.b d_Mpr_two_37 (by decide) (fun c981 => ?_) (fun c981 => ?_)
      · have nc981 : ¬ p1.toInt = p2.toInt := mt (i_eq (x := p1) (y := p2)).mpr c981
        refine lv_iconst (v := 0) S.x S.b d_Mpr_two_44 (by decide) ?_
        refine lv_goto (tgt := 113) S.x S.b d_Mpr_two_45 (by decide) ?_
        refine lv_istore (lv' := [(6, .int 0), (5, .int v299), (4, .ref sk295), (0, .ref q), (1, .int p0), (2, .int p1), (3, .int p2)]) S.x S.b d_Mpr_two_113 hl (by decide) rfl (fun ls hl => ?_)
        refine lv_aload_n S.x S.b d_Mpr_two_115 rfl (lv_at hl 3 rfl) ?_
        refine lv_aload S.x S.b d_Mpr_two_116 (lv_at hl 2 rfl) ?_
        obtain ⟨sk983, hRsk983, st984, sb985, hSsk983⟩ := oLW_lit hSh (k := 186) (tx := "<<") (n := 2) (by decide)
        refine va_ldcS S.x S.b S.own hRsk983 d_Mpr_two_118 ?_
        refine px_calli (pr := [wd_Mpr cs q qr (fun k => if k = 0 then (some h) else none) qf qa qg, wdP cs h r g tf ta pf na ma wa cf ca ef ea xf xa]) (px_runV (As := [.ref sk983]) (rest := [.ref q]) S (c_sg_equals l D cs sk295 st296 (mlen p0.toNatClampNeg) (mby p0.toNatClampNeg) sk983 st984 2 sb985   (show (mlen p0.toNatClampNeg) ≤ 1000000 from by first | exact oz_f8a16524ad e304 nc306 | omega) (show 2 ≤ 1000000 from by omega) _) hT (pr := [wd_Mpr cs q qr (fun k => if k = 0 then (some h) else none) qf qa qg, wdP cs h r g tf ta pf na ma wa cf ca ef ea xf xa]) (pcs := []) hw (oX_call (P := (fun A U H => (oZ A U H) ∧ (oS A sk295 st296 (mlen p0.toNatClampNeg) (mby p0.toNatClampNeg) U H) ∧ (oS A sk983 st984 2 sb985 U H))) (pr := [wd_Mpr cs q qr (fun k => if k = 0 then (some h) else none) qf qa qg, wdP cs h r g tf ta pf na ma wa cf ca ef ea xf xa]) (oG_and oG_Z (oG_and oG_S oG_S)) hw hA ⟨hZ, hSsk295, hSsk983⟩) (oS_recv hw hSsk295) m11_225 m14_155 m11_223 m11_224 m1_3 q_String_equals ⟨Nat.le_of_ble_eq_true rfl, Nat.le_of_ble_eq_true rfl⟩ hl.1 rfl (Nat.le_of_ble_eq_true rfl) d_Mpr_two_120 ⟨Nat.le_of_ble_eq_true rfl, Nat.le_of_ble_eq_true rfl⟩) hw hA (fun v987 p986 H locs hp986 hw => ?_)
        obtain ⟨rfl, e988, e989⟩ := hp986
        have e988 := z_rng e988
        have e989 : R_sg_equals (mlen p0.toNatClampNeg) (mby p0.toNatClampNeg) 2 sb985 v987 := e989
        have hw : pw D A s.heap H locs [wd_Mpr cs q qr (fun k => if k = 0 then (some h) else none) qf qa qg, wdP cs h r g tf ta pf na ma wa cf ca ef ea xf xa] := hw
        have lv987 := Int32.le_toInt v987
        have uv987 := Int32.toInt_lt v987
        refine lv_if_eq (tgt := 132) S.x S.b d_Mpr_two_123 (by decide) (fun c990 => ?_) (fun c990 => ?_)
        · have nc990 : v987.toInt = (0 : Int) := (i_eq (x := v987) (y := 0)).mp c990
          refine lv_aload S.x S.b d_Mpr_two_132 (lv_at hl 2 rfl) ?_
          obtain ⟨sk992, hRsk992, st993, sb994, hSsk992⟩ := oLW_lit hSh (k := 192) (tx := ">>") (n := 2) (by decide)
          refine va_ldcS S.x S.b S.own hRsk992 d_Mpr_two_134 ?_
          refine px_calli (pr := [wd_Mpr cs q qr (fun k => if k = 0 then (some h) else none) qf qa qg, wdP cs h r g tf ta pf na ma wa cf ca ef ea xf xa]) (px_runV (As := [.ref sk992]) (rest := [.ref q]) S (c_sg_equals l D cs sk295 st296 (mlen p0.toNatClampNeg) (mby p0.toNatClampNeg) sk992 st993 2 sb994   (show (mlen p0.toNatClampNeg) ≤ 1000000 from by first | exact oz_f8a16524ad e304 nc306 | omega) (show 2 ≤ 1000000 from by omega) _) hT (pr := [wd_Mpr cs q qr (fun k => if k = 0 then (some h) else none) qf qa qg, wdP cs h r g tf ta pf na ma wa cf ca ef ea xf xa]) (pcs := []) hw (oX_call (P := (fun A U H => (oZ A U H) ∧ (oS A sk295 st296 (mlen p0.toNatClampNeg) (mby p0.toNatClampNeg) U H) ∧ (oS A sk992 st993 2 sb994 U H))) (pr := [wd_Mpr cs q qr (fun k => if k = 0 then (some h) else none) qf qa qg, wdP cs h r g tf ta pf na ma wa cf ca ef ea xf xa]) (oG_and oG_Z (oG_and oG_S oG_S)) hw hA ⟨hZ, hSsk295, hSsk992⟩) (oS_recv hw hSsk295) m11_225 m14_155 m11_223 m11_224 m1_3 q_String_equals ⟨Nat.le_of_ble_eq_true rfl, Nat.le_of_ble_eq_true rfl⟩ hl.1 rfl (Nat.le_of_ble_eq_true rfl) d_Mpr_two_136 ⟨Nat.le_of_ble_eq_true rfl, Nat.le_of_ble_eq_true rfl⟩) hw hA (fun v996 p995 H locs hp995 hw => ?_)
          obtain ⟨rfl, e997, e998⟩ := hp995
          have e997 := z_rng e997
          have e998 : R_sg_equals (mlen p0.toNatClampNeg) (mby p0.toNatClampNeg) 2 sb994 v996 := e998
          have hw : pw D A s.heap H locs [wd_Mpr cs q qr (fun k => if k = 0 then (some h) else none) qf qa qg, wdP cs h r g tf ta pf na ma wa cf ca ef ea xf xa] := hw
          have lv996 := Int32.le_toInt v996
          have uv996 := Int32.toInt_lt v996
          refine lv_if_eq (tgt := 148) S.x S.b d_Mpr_two_139 (by decide) (fun c999 => ?_) (fun c999 => ?_)
          · have nc999 : v996.toInt = (0 : Int) := (i_eq (x := v996) (y := 0)).mp c999
            refine lv_iload S.x S.b d_Mpr_two_148 (lv_at hl 0 rfl) ?_
            refine lv_if_eq (tgt := 157) S.x S.b d_Mpr_two_150 (by decide) (fun c1001 => ?_) (fun c1001 => ?_)
            ·
              refine lv_iconst (v := 0) S.x S.b d_Mpr_two_157 (by decide) ?_
              refine px_callv (pr := []) (px_runV (As := [.int 0]) (rest := []) S (c_mr_give l D cs nf q qr qg qf qa h r g tf ta pf na ma wa cf ca ef ea xf xa 0  (show 0 ≤ (qf 10).toInt from by first | exact g2 | omega) (show (qf 10).toInt < 62500 from by first | exact oz_7621ce4cd5 g3 | omega) _) hT (pr := []) (pcs := [wd_Mpr cs q qr (fun k => if k = 0 then (some h) else none) qf qa qg, wdP cs h r g tf ta pf na ma wa cf ca ef ea xf xa]) hw (oX_call (P := (fun A U H => (oP A g U H))) (pr := []) oG_P hw hA hP) (px_recv hT hw 0 0 rfl rfl rfl) m13_161 m13_158 m13_159 m13_160 m1_22 q_Mpr_give ⟨Nat.le_of_ble_eq_true rfl, Nat.le_of_ble_eq_true rfl⟩ hl.1 rfl (Nat.le_of_ble_eq_true rfl) d_Mpr_two_158 ⟨Nat.le_of_ble_eq_true rfl, Nat.le_of_ble_eq_true rfl⟩) hw hA (fun p1006 H locs hp1006 hw => ?_)
              obtain ⟨qf1004, qa1005, rfl, e1008, e1009, e1010, e1011, e1012, e1013, e1014, e1015, e1016, e1017, e1018, e1019, e1020, e1021, e1022, e1023⟩ := hp1006
              have e1008 : (qf1004 10).toInt = (qf 10).toInt + 1 := e1008
              have e1009 : (qf1004 1).toInt = (qf 1).toInt := e1009
              have e1010 : (qf1004 2).toInt = (qf 2).toInt := e1010
              have e1011 : (qf1004 3).toInt = (qf 3).toInt := e1011
              have e1012 : (qf1004 4).toInt = (qf 4).toInt := e1012
              have e1013 : (qf1004 5).toInt = (qf 5).toInt := e1013
              have e1014 : (qf1004 6).toInt = (qf 6).toInt := e1014
              have e1015 : (qf1004 7).toInt = (qf 7).toInt := e1015
              have e1016 : (qf1004 11).toInt = (qf 11).toInt := e1016
              have e1017 : (qf1004 12).toInt = (qf 12).toInt := e1017
              have e1018 : (qf1004 13).toInt = (qf 13).toInt := e1018
              have e1019 : (qf1004 14).toInt = (qf 14).toInt := e1019
              have e1020 : (qf1004 21).toInt = (qf 21).toInt := e1020
              have e1021 : (qf1004 23).toInt = (qf 23).toInt := e1021
              have e1022 : (qf1004 24).toInt = (qf 24).toInt := e1022
              have e1023 : NuU qa qa1005 9 (qf 10).toInt (0 : Int32) := e1023
              skip
              have hw : pw D A s.heap H locs [wd_Mpr cs q qr (fun k => if k = 0 then (some h) else none) qf1004 qa1005 qg, wdP cs h r g tf ta pf na ma wa cf ca ef ea xf xa] := hw
              exact px_vret S hr hlk hAe hw (Nat.le_of_ble_eq_true rfl) (Nat.le_of_ble_eq_true rfl) (⟨qf1004, qa1005, rfl, (show TwO (qf1004 2).toInt (qf 2).toInt (qf1004 10).toInt (qf 10).toInt from (Or.inl ⟨by omega, by omega⟩)), (show (qf1004 1).toInt = (qf 1).toInt from by first | exact e1009 | omega), (show (qf1004 4).toInt = (qf 4).toInt from by first | exact e1012 | omega), (show (qf1004 5).toInt = (qf 5).toInt from by first | exact e1013 | omega), (show (qf1004 6).toInt = (qf 6).toInt from by first | exact e1014 | omega), (show (qf1004 7).toInt = (qf 7).toInt from by first | exact e1015 | omega), (show (qf1004 11).toInt = (qf 11).toInt from by first | exact e1016 | omega), (show (qf1004 12).toInt = (qf 12).toInt from by first | exact e1017 | omega), (show (qf1004 13).toInt = (qf 13).toInt from by first | exact e1018 | omega), (show (qf1004 14).toInt = (qf 14).toInt from by first | exact e1019 | omega), (show (qf1004 21).toInt = (qf 21).toInt from by first | exact e1020 | omega), (show (qf1004 23).toInt = (qf 23).toInt from by first | exact e1021 | omega), (show (qf1004 24).toInt = (qf 24).toInt from by first | exact e1022 | omega), (show WrU qa qa1005 (qf 10).toInt (-1) from e1023.w)⟩) d_Mpr_two_161
            · exact absurd c1001 (by decide)
          · have nc999 : ¬ v996.toInt = (0 : Int) := mt (i_eq (x := v996) (y := 0)).mpr c999
            refine lv_iload_n S.x S.b d_Mpr_two_142 rfl (lv_at hl 5 rfl) ?_
            refine lv_iload_n S.x S.b d_Mpr_two_143 rfl (lv_at hl 6 rfl) ?_
            refine lv_ishr S.x S.b d_Mpr_two_144 ?_
            refine lv_topi (fun z1024 ez1024 => ?_)
            have lz1024 := Int32.le_toInt z1024
            have uz1024 := Int32.toInt_lt z1024
            refine lv_goto (tgt := 158) S.x S.b d_Mpr_two_145 (by decide) ?_
            refine px_callv (pr := []) (px_runV (As := [.int z1024]) (rest := []) S (c_mr_give l D cs nf q qr qg qf qa h r g tf ta pf na ma wa cf ca ef ea xf xa z1024  (show 0 ≤ (qf 10).toInt from by first | exact g2 | omega) (show (qf 10).toInt < 62500 from by first | exact oz_7621ce4cd5 g3 | omega) _) hT (pr := []) (pcs := [wd_Mpr cs q qr (fun k => if k = 0 then (some h) else none) qf qa qg, wdP cs h r g tf ta pf na ma wa cf ca ef ea xf xa]) hw (oX_call (P := (fun A U H => (oP A g U H))) (pr := []) oG_P hw hA hP) (px_recv hT hw 0 0 rfl rfl rfl) m13_161 m13_158 m13_159 m13_160 m1_22 q_Mpr_give ⟨Nat.le_of_ble_eq_true rfl, Nat.le_of_ble_eq_true rfl⟩ hl.1 rfl (Nat.le_of_ble_eq_true rfl) d_Mpr_two_158 ⟨Nat.le_of_ble_eq_true rfl, Nat.le_of_ble_eq_true rfl⟩) hw hA (fun p1029 H locs hp1029 hw => ?_)
            obtain ⟨qf1027, qa1028, rfl, e1031, e1032, e1033, e1034, e1035, e1036, e1037, e1038, e1039, e1040, e1041, e1042, e1043, e1044, e1045, e1046⟩ := hp1029
            have e1031 : (qf1027 10).toInt = (qf 10).toInt + 1 := e1031
            have e1032 : (qf1027 1).toInt = (qf 1).toInt := e1032
            have e1033 : (qf1027 2).toInt = (qf 2).toInt := e1033
            have e1034 : (qf1027 3).toInt = (qf 3).toInt := e1034
            have e1035 : (qf1027 4).toInt = (qf 4).toInt := e1035
            have e1036 : (qf1027 5).toInt = (qf 5).toInt := e1036
            have e1037 : (qf1027 6).toInt = (qf 6).toInt := e1037
            have e1038 : (qf1027 7).toInt = (qf 7).toInt := e1038
            have e1039 : (qf1027 11).toInt = (qf 11).toInt := e1039
            have e1040 : (qf1027 12).toInt = (qf 12).toInt := e1040
            have e1041 : (qf1027 13).toInt = (qf 13).toInt := e1041
            have e1042 : (qf1027 14).toInt = (qf 14).toInt := e1042
            have e1043 : (qf1027 21).toInt = (qf 21).toInt := e1043
            have e1044 : (qf1027 23).toInt = (qf 23).toInt := e1044
            have e1045 : (qf1027 24).toInt = (qf 24).toInt := e1045
            have e1046 : NuU qa qa1028 9 (qf 10).toInt z1024 := e1046
            skip
            have hw : pw D A s.heap H locs [wd_Mpr cs q qr (fun k => if k = 0 then (some h) else none) qf1027 qa1028 qg, wdP cs h r g tf ta pf na ma wa cf ca ef ea xf xa] := hw
            exact px_vret S hr hlk hAe hw (Nat.le_of_ble_eq_true rfl) (Nat.le_of_ble_eq_true rfl) (⟨qf1027, qa1028, rfl, (show TwO (qf1027 2).toInt (qf 2).toInt (qf1027 10).toInt (qf 10).toInt from (Or.inl ⟨by omega, by omega⟩)), (show (qf1027 1).toInt = (qf 1).toInt from by first | exact e1032 | omega), (show (qf1027 4).toInt = (qf 4).toInt from by first | exact e1035 | omega), (show (qf1027 5).toInt = (qf 5).toInt from by first | exact e1036 | omega), (show (qf1027 6).toInt = (qf 6).toInt from by first | exact e1037 | omega), (show (qf1027 7).toInt = (qf 7).toInt from by first | exact e1038 | omega), (show (qf1027 11).toInt = (qf 11).toInt from by first | exact e1039 | omega), (show (qf1027 12).toInt = (qf 12).toInt from by first | exact e1040 | omega), (show (qf1027 13).toInt = (qf 13).toInt from by first | exact e1041 | omega), (show (qf1027 14).toInt = (qf 14).toInt from by first | exact e1042 | omega), (show (qf1027 21).toInt = (qf 21).toInt from by first | exact e1043 | omega), (show (qf1027 23).toInt = (qf 23).toInt from by first | exact e1044 | omega), (show (qf1027 24).toInt = (qf 24).toInt from by first | exact e1045 | omega), (show WrU qa qa1028 (qf 10).toInt (-1) from e1046.w)⟩) d_Mpr_two_161
        · have nc990 : ¬ v987.toInt = (0 : Int) := mt (i_eq (x := v987) (y := 0)).mpr c990
          refine lv_iload_n S.x S.b d_Mpr_two_126 rfl (lv_at hl 5 rfl) ?_
          refine lv_iload_n S.x S.b d_Mpr_two_127 rfl (lv_at hl 6 rfl) ?_
          refine lv_ishl S.x S.b d_Mpr_two_128 ?_
          refine lv_topi (fun z1047 ez1047 => ?_)
          have lz1047 := Int32.le_toInt z1047
          have uz1047 := Int32.toInt_lt z1047
          refine lv_goto (tgt := 158) S.x S.b d_Mpr_two_129 (by decide) ?_
          refine px_callv (pr := []) (px_runV (As := [.int z1047]) (rest := []) S (c_mr_give l D cs nf q qr qg qf qa h r g tf ta pf na ma wa cf ca ef ea xf xa z1047  (show 0 ≤ (qf 10).toInt from by first | exact g2 | omega) (show (qf 10).toInt < 62500 from by first | exact oz_7621ce4cd5 g3 | omega) _) hT (pr := []) (pcs := [wd_Mpr cs q qr (fun k => if k = 0 then (some h) else none) qf qa qg, wdP cs h r g tf ta pf na ma wa cf ca ef ea xf xa]) hw (oX_call (P := (fun A U H => (oP A g U H))) (pr := []) oG_P hw hA hP) (px_recv hT hw 0 0 rfl rfl rfl) m13_161 m13_158 m13_159 m13_160 m1_22 q_Mpr_give ⟨Nat.le_of_ble_eq_true rfl, Nat.le_of_ble_eq_true rfl⟩ hl.1 rfl (Nat.le_of_ble_eq_true rfl) d_Mpr_two_158 ⟨Nat.le_of_ble_eq_true rfl, Nat.le_of_ble_eq_true rfl⟩) hw hA (fun p1052 H locs hp1052 hw => ?_)
          obtain ⟨qf1050, qa1051, rfl, e1054, e1055, e1056, e1057, e1058, e1059, e1060, e1061, e1062, e1063, e1064, e1065, e1066, e1067, e1068, e1069⟩ := hp1052
          have e1054 : (qf1050 10).toInt = (qf 10).toInt + 1 := e1054
          have e1055 : (qf1050 1).toInt = (qf 1).toInt := e1055
          have e1056 : (qf1050 2).toInt = (qf 2).toInt := e1056
          have e1057 : (qf1050 3).toInt = (qf 3).toInt := e1057
          have e1058 : (qf1050 4).toInt = (qf 4).toInt := e1058
          have e1059 : (qf1050 5).toInt = (qf 5).toInt := e1059
          have e1060 : (qf1050 6).toInt = (qf 6).toInt := e1060
          have e1061 : (qf1050 7).toInt = (qf 7).toInt := e1061
          have e1062 : (qf1050 11).toInt = (qf 11).toInt := e1062
          have e1063 : (qf1050 12).toInt = (qf 12).toInt := e1063
          have e1064 : (qf1050 13).toInt = (qf 13).toInt := e1064
          have e1065 : (qf1050 14).toInt = (qf 14).toInt := e1065
          have e1066 : (qf1050 21).toInt = (qf 21).toInt := e1066
          have e1067 : (qf1050 23).toInt = (qf 23).toInt := e1067
          have e1068 : (qf1050 24).toInt = (qf 24).toInt := e1068
          have e1069 : NuU qa qa1051 9 (qf 10).toInt z1047 := e1069
          skip
          have hw : pw D A s.heap H locs [wd_Mpr cs q qr (fun k => if k = 0 then (some h) else none) qf1050 qa1051 qg, wdP cs h r g tf ta pf na ma wa cf ca ef ea xf xa] := hw
          exact px_vret S hr hlk hAe hw (Nat.le_of_ble_eq_true rfl) (Nat.le_of_ble_eq_true rfl) (⟨qf1050, qa1051, rfl, (show TwO (qf1050 2).toInt (qf 2).toInt (qf1050 10).toInt (qf 10).toInt from (Or.inl ⟨by omega, by omega⟩)), (show (qf1050 1).toInt = (qf 1).toInt from by first | exact e1055 | omega), (show (qf1050 4).toInt = (qf 4).toInt from by first | exact e1058 | omega), (show (qf1050 5).toInt = (qf 5).toInt from by first | exact e1059 | omega), (show (qf1050 6).toInt = (qf 6).toInt from by first | exact e1060 | omega), (show (qf1050 7).toInt = (qf 7).toInt from by first | exact e1061 | omega), (show (qf1050 11).toInt = (qf 11).toInt from by first | exact e1062 | omega), (show (qf1050 12).toInt = (qf 12).toInt from by first | exact e1063 | omega), (show (qf1050 13).toInt = (qf 13).toInt from by first | exact e1064 | omega), (show (qf1050 14).toInt = (qf 14).toInt from by first | exact e1065 | omega), (show (qf1050 21).toInt = (qf 21).toInt from by first | exact e1066 | omega), (show (qf1050 23).toInt = (qf 23).toInt from by first | exact e1067 | omega), (show (qf1050 24).toInt = (qf 24).toInt from by first | exact e1068 | omega), (show WrU qa qa1051 (qf 10).toInt (-1) from e1069.w)⟩) d_Mpr_two_161
      · have nc981 : p1.toInt = p2.toInt := (i_eq (x := p1) (y := p2)).mp c981
        refine lv_iconst (v := 1) S.x S.b d_Mpr_two_40 (by decide) ?_
        refine lv_goto (tgt := 113) S.x S.b d_Mpr_two_41 (by decide) ?_
        refine lv_istore (lv' := [(6, .int 1), (5, .int v299), (4, .ref sk295), (0, .ref q), (1, .int p0), (2, .int p1), (3, .int p2)]) S.x S.b d_Mpr_two_113 hl (by decide) rfl (fun ls hl => ?_)
        refine lv_aload_n S.x S.b d_Mpr_two_115 rfl (lv_at hl 3 rfl) ?_
        refine lv_aload S.x S.b d_Mpr_two_116 (lv_at hl 2 rfl) ?_
        obtain ⟨sk1070, hRsk1070, st1071, sb1072, hSsk1070⟩ := oLW_lit hSh (k := 186) (tx := "<<") (n := 2) (by decide)
        refine va_ldcS S.x S.b S.own hRsk1070 d_Mpr_two_118 ?_
        refine px_calli (pr := [wd_Mpr cs q qr (fun k => if k = 0 then (some h) else none) qf qa qg, wdP cs h r g tf ta pf na ma wa cf ca ef ea xf xa]) (px_runV (As := [.ref sk1070]) (rest := [.ref q]) S (c_sg_equals l D cs sk295 st296 (mlen p0.toNatClampNeg) (mby p0.toNatClampNeg) sk1070 st1071 2 sb1072   (show (mlen p0.toNatClampNeg) ≤ 1000000 from by first | exact oz_f8a16524ad e304 nc306 | omega) (show 2 ≤ 1000000 from by omega) _) hT (pr := [wd_Mpr cs q qr (fun k => if k = 0 then (some h) else none) qf qa qg, wdP cs h r g tf ta pf na ma wa cf ca ef ea xf xa]) (pcs := []) hw (oX_call (P := (fun A U H => (oZ A U H) ∧ (oS A sk295 st296 (mlen p0.toNatClampNeg) (mby p0.toNatClampNeg) U H) ∧ (oS A sk1070 st1071 2 sb1072 U H))) (pr := [wd_Mpr cs q qr (fun k => if k = 0 then (some h) else none) qf qa qg, wdP cs h r g tf ta pf na ma wa cf ca ef ea xf xa]) (oG_and oG_Z (oG_and oG_S oG_S)) hw hA ⟨hZ, hSsk295, hSsk1070⟩) (oS_recv hw hSsk295) m11_225 m14_155 m11_223 m11_224 m1_3 q_String_equals ⟨Nat.le_of_ble_eq_true rfl, Nat.le_of_ble_eq_true rfl⟩ hl.1 rfl (Nat.le_of_ble_eq_true rfl) d_Mpr_two_120 ⟨Nat.le_of_ble_eq_true rfl, Nat.le_of_ble_eq_true rfl⟩) hw hA (fun v1074 p1073 H locs hp1073 hw => ?_)
        obtain ⟨rfl, e1075, e1076⟩ := hp1073
        have e1075 := z_rng e1075
        have e1076 : R_sg_equals (mlen p0.toNatClampNeg) (mby p0.toNatClampNeg) 2 sb1072 v1074 := e1076
        have hw : pw D A s.heap H locs [wd_Mpr cs q qr (fun k => if k = 0 then (some h) else none) qf qa qg, wdP cs h r g tf ta pf na ma wa cf ca ef ea xf xa] := hw
        have lv1074 := Int32.le_toInt v1074
        have uv1074 := Int32.toInt_lt v1074
        refine lv_if_eq (tgt := 132) S.x S.b d_Mpr_two_123 (by decide) (fun c1077 => ?_) (fun c1077 => ?_)
        · have nc1077 : v1074.toInt = (0 : Int) := (i_eq (x := v1074) (y := 0)).mp c1077
          refine lv_aload S.x S.b d_Mpr_two_132 (lv_at hl 2 rfl) ?_
          obtain ⟨sk1079, hRsk1079, st1080, sb1081, hSsk1079⟩ := oLW_lit hSh (k := 192) (tx := ">>") (n := 2) (by decide)
          refine va_ldcS S.x S.b S.own hRsk1079 d_Mpr_two_134 ?_
          refine px_calli (pr := [wd_Mpr cs q qr (fun k => if k = 0 then (some h) else none) qf qa qg, wdP cs h r g tf ta pf na ma wa cf ca ef ea xf xa]) (px_runV (As := [.ref sk1079]) (rest := [.ref q]) S (c_sg_equals l D cs sk295 st296 (mlen p0.toNatClampNeg) (mby p0.toNatClampNeg) sk1079 st1080 2 sb1081   (show (mlen p0.toNatClampNeg) ≤ 1000000 from by first | exact oz_f8a16524ad e304 nc306 | omega) (show 2 ≤ 1000000 from by omega) _) hT (pr := [wd_Mpr cs q qr (fun k => if k = 0 then (some h) else none) qf qa qg, wdP cs h r g tf ta pf na ma wa cf ca ef ea xf xa]) (pcs := []) hw (oX_call (P := (fun A U H => (oZ A U H) ∧ (oS A sk295 st296 (mlen p0.toNatClampNeg) (mby p0.toNatClampNeg) U H) ∧ (oS A sk1079 st1080 2 sb1081 U H))) (pr := [wd_Mpr cs q qr (fun k => if k = 0 then (some h) else none) qf qa qg, wdP cs h r g tf ta pf na ma wa cf ca ef ea xf xa]) (oG_and oG_Z (oG_and oG_S oG_S)) hw hA ⟨hZ, hSsk295, hSsk1079⟩) (oS_recv hw hSsk295) m11_225 m14_155 m11_223 m11_224 m1_3 q_String_equals ⟨Nat.le_of_ble_eq_true rfl, Nat.le_of_ble_eq_true rfl⟩ hl.1 rfl (Nat.le_of_ble_eq_true rfl) d_Mpr_two_136 ⟨Nat.le_of_ble_eq_true rfl, Nat.le_of_ble_eq_true rfl⟩) hw hA (fun v1083 p1082 H locs hp1082 hw => ?_)
          obtain ⟨rfl, e1084, e1085⟩ := hp1082
          have e1084 := z_rng e1084
          have e1085 : R_sg_equals (mlen p0.toNatClampNeg) (mby p0.toNatClampNeg) 2 sb1081 v1083 := e1085
          have hw : pw D A s.heap H locs [wd_Mpr cs q qr (fun k => if k = 0 then (some h) else none) qf qa qg, wdP cs h r g tf ta pf na ma wa cf ca ef ea xf xa] := hw
          have lv1083 := Int32.le_toInt v1083
          have uv1083 := Int32.toInt_lt v1083
          refine lv_if_eq (tgt := 148) S.x S.b d_Mpr_two_139 (by decide) (fun c1086 => ?_) (fun c1086 => ?_)
          · have nc1086 : v1083.toInt = (0 : Int) := (i_eq (x := v1083) (y := 0)).mp c1086
            refine lv_iload S.x S.b d_Mpr_two_148 (lv_at hl 0 rfl) ?_
            refine lv_if_eq (tgt := 157) S.x S.b d_Mpr_two_150 (by decide) (fun c1088 => ?_) (fun c1088 => ?_)
            · exact absurd c1088 (by decide)
            ·
              refine lv_iconst (v := 1) S.x S.b d_Mpr_two_153 (by decide) ?_
              refine lv_goto (tgt := 158) S.x S.b d_Mpr_two_154 (by decide) ?_
              refine px_callv (pr := []) (px_runV (As := [.int 1]) (rest := []) S (c_mr_give l D cs nf q qr qg qf qa h r g tf ta pf na ma wa cf ca ef ea xf xa 1  (show 0 ≤ (qf 10).toInt from by first | exact g2 | omega) (show (qf 10).toInt < 62500 from by first | exact oz_7621ce4cd5 g3 | omega) _) hT (pr := []) (pcs := [wd_Mpr cs q qr (fun k => if k = 0 then (some h) else none) qf qa qg, wdP cs h r g tf ta pf na ma wa cf ca ef ea xf xa]) hw (oX_call (P := (fun A U H => (oP A g U H))) (pr := []) oG_P hw hA hP) (px_recv hT hw 0 0 rfl rfl rfl) m13_161 m13_158 m13_159 m13_160 m1_22 q_Mpr_give ⟨Nat.le_of_ble_eq_true rfl, Nat.le_of_ble_eq_true rfl⟩ hl.1 rfl (Nat.le_of_ble_eq_true rfl) d_Mpr_two_158 ⟨Nat.le_of_ble_eq_true rfl, Nat.le_of_ble_eq_true rfl⟩) hw hA (fun p1093 H locs hp1093 hw => ?_)
              obtain ⟨qf1091, qa1092, rfl, e1095, e1096, e1097, e1098, e1099, e1100, e1101, e1102, e1103, e1104, e1105, e1106, e1107, e1108, e1109, e1110⟩ := hp1093
              have e1095 : (qf1091 10).toInt = (qf 10).toInt + 1 := e1095
              have e1096 : (qf1091 1).toInt = (qf 1).toInt := e1096
              have e1097 : (qf1091 2).toInt = (qf 2).toInt := e1097
              have e1098 : (qf1091 3).toInt = (qf 3).toInt := e1098
              have e1099 : (qf1091 4).toInt = (qf 4).toInt := e1099
              have e1100 : (qf1091 5).toInt = (qf 5).toInt := e1100
              have e1101 : (qf1091 6).toInt = (qf 6).toInt := e1101
              have e1102 : (qf1091 7).toInt = (qf 7).toInt := e1102
              have e1103 : (qf1091 11).toInt = (qf 11).toInt := e1103
              have e1104 : (qf1091 12).toInt = (qf 12).toInt := e1104
              have e1105 : (qf1091 13).toInt = (qf 13).toInt := e1105
              have e1106 : (qf1091 14).toInt = (qf 14).toInt := e1106
              have e1107 : (qf1091 21).toInt = (qf 21).toInt := e1107
              have e1108 : (qf1091 23).toInt = (qf 23).toInt := e1108
              have e1109 : (qf1091 24).toInt = (qf 24).toInt := e1109
              have e1110 : NuU qa qa1092 9 (qf 10).toInt (1 : Int32) := e1110
              skip
              have hw : pw D A s.heap H locs [wd_Mpr cs q qr (fun k => if k = 0 then (some h) else none) qf1091 qa1092 qg, wdP cs h r g tf ta pf na ma wa cf ca ef ea xf xa] := hw
              exact px_vret S hr hlk hAe hw (Nat.le_of_ble_eq_true rfl) (Nat.le_of_ble_eq_true rfl) (⟨qf1091, qa1092, rfl, (show TwO (qf1091 2).toInt (qf 2).toInt (qf1091 10).toInt (qf 10).toInt from (Or.inl ⟨by omega, by omega⟩)), (show (qf1091 1).toInt = (qf 1).toInt from by first | exact e1096 | omega), (show (qf1091 4).toInt = (qf 4).toInt from by first | exact e1099 | omega), (show (qf1091 5).toInt = (qf 5).toInt from by first | exact e1100 | omega), (show (qf1091 6).toInt = (qf 6).toInt from by first | exact e1101 | omega), (show (qf1091 7).toInt = (qf 7).toInt from by first | exact e1102 | omega), (show (qf1091 11).toInt = (qf 11).toInt from by first | exact e1103 | omega), (show (qf1091 12).toInt = (qf 12).toInt from by first | exact e1104 | omega), (show (qf1091 13).toInt = (qf 13).toInt from by first | exact e1105 | omega), (show (qf1091 14).toInt = (qf 14).toInt from by first | exact e1106 | omega), (show (qf1091 21).toInt = (qf 21).toInt from by first | exact e1107 | omega), (show (qf1091 23).toInt = (qf 23).toInt from by first | exact e1108 | omega), (show (qf1091 24).toInt = (qf 24).toInt from by first | exact e1109 | omega), (show WrU qa qa1092 (qf 10).toInt (-1) from e1110.w)⟩) d_Mpr_two_161
          · have nc1086 : ¬ v1083.toInt = (0 : Int) := mt (i_eq (x := v1083) (y := 0)).mpr c1086
            refine lv_iload_n S.x S.b d_Mpr_two_142 rfl (lv_at hl 5 rfl) ?_
            refine lv_iload_n S.x S.b d_Mpr_two_143 rfl (lv_at hl 6 rfl) ?_
            refine lv_ishr S.x S.b d_Mpr_two_144 ?_
            refine lv_topi (fun z1111 ez1111 => ?_)
            have lz1111 := Int32.le_toInt z1111
            have uz1111 := Int32.toInt_lt z1111
            refine lv_goto (tgt := 158) S.x S.b d_Mpr_two_145 (by decide) ?_
            refine px_callv (pr := []) (px_runV (As := [.int z1111]) (rest := []) S (c_mr_give l D cs nf q qr qg qf qa h r g tf ta pf na ma wa cf ca ef ea xf xa z1111  (show 0 ≤ (qf 10).toInt from by first | exact g2 | omega) (show (qf 10).toInt < 62500 from by first | exact oz_7621ce4cd5 g3 | omega) _) hT (pr := []) (pcs := [wd_Mpr cs q qr (fun k => if k = 0 then (some h) else none) qf qa qg, wdP cs h r g tf ta pf na ma wa cf ca ef ea xf xa]) hw (oX_call (P := (fun A U H => (oP A g U H))) (pr := []) oG_P hw hA hP) (px_recv hT hw 0 0 rfl rfl rfl) m13_161 m13_158 m13_159 m13_160 m1_22 q_Mpr_give ⟨Nat.le_of_ble_eq_true rfl, Nat.le_of_ble_eq_true rfl⟩ hl.1 rfl (Nat.le_of_ble_eq_true rfl) d_Mpr_two_158 ⟨Nat.le_of_ble_eq_true rfl, Nat.le_of_ble_eq_true rfl⟩) hw hA (fun p1116 H locs hp1116 hw => ?_)
            obtain ⟨qf1114, qa1115, rfl, e1118, e1119, e1120, e1121, e1122, e1123, e1124, e1125, e1126, e1127, e1128, e1129, e1130, e1131, e1132, e1133⟩ := hp1116
            have e1118 : (qf1114 10).toInt = (qf 10).toInt + 1 := e1118
            have e1119 : (qf1114 1).toInt = (qf 1).toInt := e1119
            have e1120 : (qf1114 2).toInt = (qf 2).toInt := e1120
            have e1121 : (qf1114 3).toInt = (qf 3).toInt := e1121
            have e1122 : (qf1114 4).toInt = (qf 4).toInt := e1122
            have e1123 : (qf1114 5).toInt = (qf 5).toInt := e1123
            have e1124 : (qf1114 6).toInt = (qf 6).toInt := e1124
            have e1125 : (qf1114 7).toInt = (qf 7).toInt := e1125
            have e1126 : (qf1114 11).toInt = (qf 11).toInt := e1126
            have e1127 : (qf1114 12).toInt = (qf 12).toInt := e1127
            have e1128 : (qf1114 13).toInt = (qf 13).toInt := e1128
            have e1129 : (qf1114 14).toInt = (qf 14).toInt := e1129
            have e1130 : (qf1114 21).toInt = (qf 21).toInt := e1130
            have e1131 : (qf1114 23).toInt = (qf 23).toInt := e1131
            have e1132 : (qf1114 24).toInt = (qf 24).toInt := e1132
            have e1133 : NuU qa qa1115 9 (qf 10).toInt z1111 := e1133
            skip
            have hw : pw D A s.heap H locs [wd_Mpr cs q qr (fun k => if k = 0 then (some h) else none) qf1114 qa1115 qg, wdP cs h r g tf ta pf na ma wa cf ca ef ea xf xa] := hw
            exact px_vret S hr hlk hAe hw (Nat.le_of_ble_eq_true rfl) (Nat.le_of_ble_eq_true rfl) (⟨qf1114, qa1115, rfl, (show TwO (qf1114 2).toInt (qf 2).toInt (qf1114 10).toInt (qf 10).toInt from (Or.inl ⟨by omega, by omega⟩)), (show (qf1114 1).toInt = (qf 1).toInt from by first | exact e1119 | omega), (show (qf1114 4).toInt = (qf 4).toInt from by first | exact e1122 | omega), (show (qf1114 5).toInt = (qf 5).toInt from by first | exact e1123 | omega), (show (qf1114 6).toInt = (qf 6).toInt from by first | exact e1124 | omega), (show (qf1114 7).toInt = (qf 7).toInt from by first | exact e1125 | omega), (show (qf1114 11).toInt = (qf 11).toInt from by first | exact e1126 | omega), (show (qf1114 12).toInt = (qf 12).toInt from by first | exact e1127 | omega), (show (qf1114 13).toInt = (qf 13).toInt from by first | exact e1128 | omega), (show (qf1114 14).toInt = (qf 14).toInt from by first | exact e1129 | omega), (show (qf1114 21).toInt = (qf 21).toInt from by first | exact e1130 | omega), (show (qf1114 23).toInt = (qf 23).toInt from by first | exact e1131 | omega), (show (qf1114 24).toInt = (qf 24).toInt from by first | exact e1132 | omega), (show WrU qa qa1115 (qf 10).toInt (-1) from e1133.w)⟩) d_Mpr_two_161
        · have nc1077 : ¬ v1074.toInt = (0 : Int) := mt (i_eq (x := v1074) (y := 0)).mpr c1077
          refine lv_iload_n S.x S.b d_Mpr_two_126 rfl (lv_at hl 5 rfl) ?_
          refine lv_iload_n S.x S.b d_Mpr_two_127 rfl (lv_at hl 6 rfl) ?_
          refine lv_ishl S.x S.b d_Mpr_two_128 ?_
          refine lv_topi (fun z1134 ez1134 => ?_)
          have lz1134 := Int32.le_toInt z1134
          have uz1134 := Int32.toInt_lt z1134
          refine lv_goto (tgt := 158) S.x S.b d_Mpr_two_129 (by decide) ?_
          refine px_callv (pr := []) (px_runV (As := [.int z1134]) (rest := []) S (c_mr_give l D cs nf q qr qg qf qa h r g tf ta pf na ma wa cf ca ef ea xf xa z1134  (show 0 ≤ (qf 10).toInt from by first | exact g2 | omega) (show (qf 10).toInt < 62500 from by first | exact oz_7621ce4cd5 g3 | omega) _) hT (pr := []) (pcs := [wd_Mpr cs q qr (fun k => if k = 0 then (some h) else none) qf qa qg, wdP cs h r g tf ta pf na ma wa cf ca ef ea xf xa]) hw (oX_call (P := (fun A U H => (oP A g U H))) (pr := []) oG_P hw hA hP) (px_recv hT hw 0 0 rfl rfl rfl) m13_161 m13_158 m13_159 m13_160 m1_22 q_Mpr_give ⟨Nat.le_of_ble_eq_true rfl, Nat.le_of_ble_eq_true rfl⟩ hl.1 rfl (Nat.le_of_ble_eq_true rfl) d_Mpr_two_158 ⟨Nat.le_of_ble_eq_true rfl, Nat.le_of_ble_eq_true rfl⟩) hw hA (fun p1139 H locs hp1139 hw => ?_)
          obtain ⟨qf1137, qa1138, rfl, e1141, e1142, e1143, e1144, e1145, e1146, e1147, e1148, e1149, e1150, e1151, e1152, e1153, e1154, e1155, e1156⟩ := hp1139
          have e1141 : (qf1137 10).toInt = (qf 10).toInt + 1 := e1141
          have e1142 : (qf1137 1).toInt = (qf 1).toInt := e1142
          have e1143 : (qf1137 2).toInt = (qf 2).toInt := e1143
          have e1144 : (qf1137 3).toInt = (qf 3).toInt := e1144
          have e1145 : (qf1137 4).toInt = (qf 4).toInt := e1145
          have e1146 : (qf1137 5).toInt = (qf 5).toInt := e1146
          have e1147 : (qf1137 6).toInt = (qf 6).toInt := e1147
          have e1148 : (qf1137 7).toInt = (qf 7).toInt := e1148
          have e1149 : (qf1137 11).toInt = (qf 11).toInt := e1149
          have e1150 : (qf1137 12).toInt = (qf 12).toInt := e1150
          have e1151 : (qf1137 13).toInt = (qf 13).toInt := e1151
          have e1152 : (qf1137 14).toInt = (qf 14).toInt := e1152
          have e1153 : (qf1137 21).toInt = (qf 21).toInt := e1153
          have e1154 : (qf1137 23).toInt = (qf 23).toInt := e1154
          have e1155 : (qf1137 24).toInt = (qf 24).toInt := e1155
          have e1156 : NuU qa qa1138 9 (qf 10).toInt z1134 := e1156
          skip
          have hw : pw D A s.heap H locs [wd_Mpr cs q qr (fun k => if k = 0 then (some h) else none) qf1137 qa1138 qg, wdP cs h r g tf ta pf na ma wa cf ca ef ea xf xa] := hw
          exact px_vret S hr hlk hAe hw (Nat.le_of_ble_eq_true rfl) (Nat.le_of_ble_eq_true rfl) (⟨qf1137, qa1138, rfl, (show TwO (qf1137 2).toInt (qf 2).toInt (qf1137 10).toInt (qf 10).toInt from (Or.inl ⟨by omega, by omega⟩)), (show (qf1137 1).toInt = (qf 1).toInt from by first | exact e1142 | omega), (show (qf1137 4).toInt = (qf 4).toInt from by first | exact e1145 | omega), (show (qf1137 5).toInt = (qf 5).toInt from by first | exact e1146 | omega), (show (qf1137 6).toInt = (qf 6).toInt from by first | exact e1147 | omega), (show (qf1137 7).toInt = (qf 7).toInt from by first | exact e1148 | omega), (show (qf1137 11).toInt = (qf 11).toInt from by first | exact e1149 | omega), (show (qf1137 12).toInt = (qf 12).toInt from by first | exact e1150 | omega), (show (qf1137 13).toInt = (qf 13).toInt from by first | exact e1151 | omega), (show (qf1137 14).toInt = (qf 14).toInt from by first | exact e1152 | omega), (show (qf1137 21).toInt = (qf 21).toInt from by first | exact e1153 | omega), (show (qf1137 23).toInt = (qf 23).toInt from by first | exact e1154 | omega), (show (qf1137 24).toInt = (qf 24).toInt from by first | exact e1155 | omega), (show WrU qa qa1138 (qf 10).toInt (-1) from e1156.w)⟩) d_Mpr_two_161
