theorem oz_7621ce4cd5 {a0 : Int} (h0 : a0 < 62000) : a0 < 62500 := by omega
theorem oz_fc62deb105 {a0 : Int} {n1 : Nat} (h0 : (n1 : Int) = a0) (h1 : a0 ≤ 42) : 0 ≤ a0 ∧ a0 < ((43 : Nat) : Int) := by omega
theorem oz_a1e339bdbc {a1 : Int} {n0 : Nat} (h0 : a1 = (n0 : Int)) (h1 : a1 = (2 : Int)) : (1 : Int) < (n0 : Int) := by omega
theorem m13_158 : Cond.methodLink "HomeSystemModel$Process" 105 ⟨"HomeSystemModel$Process", "give", "(I)V"⟩ ∈ AL := AL_13 (List.mem_of_getElem? (i := 158) rfl) rfl
theorem m13_161 : Cond.code ⟨"HomeSystemModel$Process", "give", "(I)V"⟩ prog_15_method_5_code 2 (Option.none : Option Jvm.ClassFile.FieldType) ∈ AL := AL_13 (List.mem_of_getElem? (i := 161) rfl) rfl
theorem m13_160 : Cond.selects "HomeSystemModel$Process" ⟨"HomeSystemModel$Process", "give", "(I)V"⟩ ⟨"HomeSystemModel$Process", "give", "(I)V"⟩ ∈ AL := AL_13 (List.mem_of_getElem? (i := 160) rfl) rfl
theorem m13_159 : Cond.instanceMethod ⟨"HomeSystemModel$Process", "give", "(I)V"⟩ ∈ AL := AL_13 (List.mem_of_getElem? (i := 159) rfl) rfl
theorem m9_225n : Cond.fieldLinkNest "HomeSystemModel$Process" 173 "HomeSystemModel$Program" "marks" "[Ljava/lang/String;" "HomeSystemModel" ∈ tables_1 := by unfold tables_1; exact List.mem_append_right _ (List.mem_append_right _ (List.mem_append_right _ (List.mem_append_right _ (List.mem_append_right _ (List.mem_append_right _ (List.mem_append_right _ (List.mem_append_right _ (List.mem_append_left _ (List.mem_of_getElem? (i := 225) rfl)))))))))
theorem m14_152 : Cond.methodLink "HomeSystemModel$Process" 177 ⟨"java/lang/String", "charAt", "(I)C"⟩ ∈ AL := AL_14 (List.mem_of_getElem? (i := 152) rfl) rfl
theorem m14_153 : Cond.methodLink "HomeSystemModel$Process" 183 ⟨"java/lang/String", "length", "()I"⟩ ∈ AL := AL_14 (List.mem_of_getElem? (i := 153) rfl) rfl
theorem m14_155 : Cond.methodLink "HomeSystemModel$Process" 188 ⟨"java/lang/String", "equals", "(Ljava/lang/Object;)Z"⟩ ∈ AL := AL_14 (List.mem_of_getElem? (i := 155) rfl) rfl
/-! two strings of the process -/
def litW : List (Nat × String × Nat) := [(186, "<<", 2), (192, ">>", 2)]
def oLW (A : Nat → Prop) (U : State) (H : Heap) : Prop := ∀ q ∈ litW, ∃ sk, vk_R "HomeSystemModel$Process" q.1 q.2.1 sk U ∧ StS A sk q.2.2 U H
theorem oG_LW : oG (fun A U H => oLW A U H) := oG_all fun _ => oG_all fun _ => oG_ex fun _ => oG_and oG_L oG_Q
theorem oLW_lit {A : Nat → Prop} {U : State} {H : Heap} (h : oLW A U H) {k : Nat} {tx : String} {n : Nat} (hk : (k, tx, n) ∈ litW) : ∃ sk, vk_R "HomeSystemModel$Process" k tx sk U ∧ ∃ (st : Nat) (sb : Nat → Int32), oS A sk st n sb U H := h _ hk
abbrev b_Mpr_two : ByteArray := prog_15_method_18_code
def y_Mpr_two : MethodName := ⟨"HomeSystemModel$Process", "two", "(III)V"⟩
theorem d_Mpr_two_0 : decode b_Mpr_two 0 = .ok (.aload_n 0, 1) := by decide +kernel
theorem d_Mpr_two_1 : decode b_Mpr_two 1 = .ok (.getfield 52, 3) := by decide +kernel
theorem d_Mpr_two_4 : decode b_Mpr_two 4 = .ok (.getfield 173, 3) := by decide +kernel
theorem d_Mpr_two_7 : decode b_Mpr_two 7 = .ok (.iload_n 1, 1) := by decide +kernel
theorem d_Mpr_two_8 : decode b_Mpr_two 8 = .ok (.aaload, 1) := by decide +kernel
theorem d_Mpr_two_9 : decode b_Mpr_two 9 = .ok (.astore 4, 2) := by decide +kernel
theorem d_Mpr_two_11 : decode b_Mpr_two 11 = .ok (.aload 4, 2) := by decide +kernel
theorem d_Mpr_two_13 : decode b_Mpr_two 13 = .ok (.iconst 0, 1) := by decide +kernel
theorem d_Mpr_two_14 : decode b_Mpr_two 14 = .ok (.invokevirtual 177, 3) := by decide +kernel
theorem d_Mpr_two_17 : decode b_Mpr_two 17 = .ok (.istore 5, 2) := by decide +kernel
theorem d_Mpr_two_19 : decode b_Mpr_two 19 = .ok (.aload 4, 2) := by decide +kernel
theorem d_Mpr_two_21 : decode b_Mpr_two 21 = .ok (.invokevirtual 183, 3) := by decide +kernel
theorem d_Mpr_two_24 : decode b_Mpr_two 24 = .ok (.iconst 2, 1) := by decide +kernel
theorem d_Mpr_two_25 : decode b_Mpr_two 25 = .ok (.if_icmp .ne 137, 3) := by decide +kernel
theorem d_Mpr_two_28 : decode b_Mpr_two 28 = .ok (.iload 5, 2) := by decide +kernel
theorem d_Mpr_two_30 : decode b_Mpr_two 30 = .ok (.bipush 61, 2) := by decide +kernel
theorem d_Mpr_two_32 : decode b_Mpr_two 32 = .ok (.if_icmp .ne 16, 3) := by decide +kernel
theorem d_Mpr_two_35 : decode b_Mpr_two 35 = .ok (.iload_n 2, 1) := by decide +kernel
theorem d_Mpr_two_36 : decode b_Mpr_two 36 = .ok (.iload_n 3, 1) := by decide +kernel
theorem d_Mpr_two_37 : decode b_Mpr_two 37 = .ok (.if_icmp .ne 7, 3) := by decide +kernel
theorem d_Mpr_two_40 : decode b_Mpr_two 40 = .ok (.iconst 1, 1) := by decide +kernel
theorem d_Mpr_two_41 : decode b_Mpr_two 41 = .ok (.goto 72, 3) := by decide +kernel
theorem d_Mpr_two_44 : decode b_Mpr_two 44 = .ok (.iconst 0, 1) := by decide +kernel
theorem d_Mpr_two_45 : decode b_Mpr_two 45 = .ok (.goto 68, 3) := by decide +kernel
theorem d_Mpr_two_48 : decode b_Mpr_two 48 = .ok (.iload 5, 2) := by decide +kernel
theorem d_Mpr_two_50 : decode b_Mpr_two 50 = .ok (.bipush 33, 2) := by decide +kernel
theorem d_Mpr_two_52 : decode b_Mpr_two 52 = .ok (.if_icmp .ne 16, 3) := by decide +kernel
theorem d_Mpr_two_55 : decode b_Mpr_two 55 = .ok (.iload_n 2, 1) := by decide +kernel
theorem d_Mpr_two_56 : decode b_Mpr_two 56 = .ok (.iload_n 3, 1) := by decide +kernel
theorem d_Mpr_two_57 : decode b_Mpr_two 57 = .ok (.if_icmp .eq 7, 3) := by decide +kernel
theorem d_Mpr_two_60 : decode b_Mpr_two 60 = .ok (.iconst 1, 1) := by decide +kernel
theorem d_Mpr_two_61 : decode b_Mpr_two 61 = .ok (.goto 52, 3) := by decide +kernel
theorem d_Mpr_two_64 : decode b_Mpr_two 64 = .ok (.iconst 0, 1) := by decide +kernel
theorem d_Mpr_two_65 : decode b_Mpr_two 65 = .ok (.goto 48, 3) := by decide +kernel
theorem d_Mpr_two_68 : decode b_Mpr_two 68 = .ok (.aload 4, 2) := by decide +kernel
theorem d_Mpr_two_70 : decode b_Mpr_two 70 = .ok (.iconst 1, 1) := by decide +kernel
theorem d_Mpr_two_71 : decode b_Mpr_two 71 = .ok (.invokevirtual 177, 3) := by decide +kernel
theorem d_Mpr_two_74 : decode b_Mpr_two 74 = .ok (.bipush 61, 2) := by decide +kernel
theorem d_Mpr_two_76 : decode b_Mpr_two 76 = .ok (.if_icmp .eq 7, 3) := by decide +kernel
theorem d_Mpr_two_79 : decode b_Mpr_two 79 = .ok (.iconst 0, 1) := by decide +kernel
theorem d_Mpr_two_80 : decode b_Mpr_two 80 = .ok (.goto 33, 3) := by decide +kernel
theorem d_Mpr_two_83 : decode b_Mpr_two 83 = .ok (.iload 5, 2) := by decide +kernel
theorem d_Mpr_two_85 : decode b_Mpr_two 85 = .ok (.bipush 60, 2) := by decide +kernel
theorem d_Mpr_two_87 : decode b_Mpr_two 87 = .ok (.if_icmp .ne 16, 3) := by decide +kernel
theorem d_Mpr_two_90 : decode b_Mpr_two 90 = .ok (.iload_n 2, 1) := by decide +kernel
theorem d_Mpr_two_91 : decode b_Mpr_two 91 = .ok (.iload_n 3, 1) := by decide +kernel
theorem d_Mpr_two_92 : decode b_Mpr_two 92 = .ok (.if_icmp .gt 7, 3) := by decide +kernel
theorem d_Mpr_two_95 : decode b_Mpr_two 95 = .ok (.iconst 1, 1) := by decide +kernel
theorem d_Mpr_two_96 : decode b_Mpr_two 96 = .ok (.goto 17, 3) := by decide +kernel
theorem d_Mpr_two_99 : decode b_Mpr_two 99 = .ok (.iconst 0, 1) := by decide +kernel
theorem d_Mpr_two_100 : decode b_Mpr_two 100 = .ok (.goto 13, 3) := by decide +kernel
theorem d_Mpr_two_103 : decode b_Mpr_two 103 = .ok (.iload_n 2, 1) := by decide +kernel
theorem d_Mpr_two_104 : decode b_Mpr_two 104 = .ok (.iload_n 3, 1) := by decide +kernel
theorem d_Mpr_two_105 : decode b_Mpr_two 105 = .ok (.if_icmp .lt 7, 3) := by decide +kernel
theorem d_Mpr_two_108 : decode b_Mpr_two 108 = .ok (.iconst 1, 1) := by decide +kernel
theorem d_Mpr_two_109 : decode b_Mpr_two 109 = .ok (.goto 4, 3) := by decide +kernel
theorem d_Mpr_two_112 : decode b_Mpr_two 112 = .ok (.iconst 0, 1) := by decide +kernel
theorem d_Mpr_two_113 : decode b_Mpr_two 113 = .ok (.istore 6, 2) := by decide +kernel
theorem d_Mpr_two_115 : decode b_Mpr_two 115 = .ok (.aload_n 0, 1) := by decide +kernel
theorem d_Mpr_two_116 : decode b_Mpr_two 116 = .ok (.aload 4, 2) := by decide +kernel
theorem d_Mpr_two_118 : decode b_Mpr_two 118 = .ok (.ldc 186, 2) := by decide +kernel
theorem d_Mpr_two_120 : decode b_Mpr_two 120 = .ok (.invokevirtual 188, 3) := by decide +kernel
theorem d_Mpr_two_123 : decode b_Mpr_two 123 = .ok (.ifCond .eq 9, 3) := by decide +kernel
theorem d_Mpr_two_126 : decode b_Mpr_two 126 = .ok (.iload_n 2, 1) := by decide +kernel
theorem d_Mpr_two_127 : decode b_Mpr_two 127 = .ok (.iload_n 3, 1) := by decide +kernel
theorem d_Mpr_two_128 : decode b_Mpr_two 128 = .ok (.ishl, 1) := by decide +kernel
theorem d_Mpr_two_129 : decode b_Mpr_two 129 = .ok (.goto 29, 3) := by decide +kernel
theorem d_Mpr_two_132 : decode b_Mpr_two 132 = .ok (.aload 4, 2) := by decide +kernel
theorem d_Mpr_two_134 : decode b_Mpr_two 134 = .ok (.ldc 192, 2) := by decide +kernel
theorem d_Mpr_two_136 : decode b_Mpr_two 136 = .ok (.invokevirtual 188, 3) := by decide +kernel
theorem d_Mpr_two_139 : decode b_Mpr_two 139 = .ok (.ifCond .eq 9, 3) := by decide +kernel
theorem d_Mpr_two_142 : decode b_Mpr_two 142 = .ok (.iload_n 2, 1) := by decide +kernel
theorem d_Mpr_two_143 : decode b_Mpr_two 143 = .ok (.iload_n 3, 1) := by decide +kernel
theorem d_Mpr_two_144 : decode b_Mpr_two 144 = .ok (.ishr, 1) := by decide +kernel
theorem d_Mpr_two_145 : decode b_Mpr_two 145 = .ok (.goto 13, 3) := by decide +kernel
theorem d_Mpr_two_148 : decode b_Mpr_two 148 = .ok (.iload 6, 2) := by decide +kernel
theorem d_Mpr_two_150 : decode b_Mpr_two 150 = .ok (.ifCond .eq 7, 3) := by decide +kernel
theorem d_Mpr_two_153 : decode b_Mpr_two 153 = .ok (.iconst 1, 1) := by decide +kernel
theorem d_Mpr_two_154 : decode b_Mpr_two 154 = .ok (.goto 4, 3) := by decide +kernel
theorem d_Mpr_two_157 : decode b_Mpr_two 157 = .ok (.iconst 0, 1) := by decide +kernel
theorem d_Mpr_two_158 : decode b_Mpr_two 158 = .ok (.invokevirtual 105, 3) := by decide +kernel
theorem d_Mpr_two_161 : decode b_Mpr_two 161 = .ok (.return_, 1) := by decide +kernel
theorem d_Mpr_two_162 : decode b_Mpr_two 162 = .ok (.iload 5, 2) := by decide +kernel
theorem d_Mpr_two_164 : decode b_Mpr_two 164 = .ok (.bipush 47, 2) := by decide +kernel
theorem d_Mpr_two_166 : decode b_Mpr_two 166 = .ok (.if_icmp .eq 10, 3) := by decide +kernel
theorem d_Mpr_two_169 : decode b_Mpr_two 169 = .ok (.iload 5, 2) := by decide +kernel
theorem d_Mpr_two_171 : decode b_Mpr_two 171 = .ok (.bipush 37, 2) := by decide +kernel
theorem d_Mpr_two_173 : decode b_Mpr_two 173 = .ok (.if_icmp .ne 14, 3) := by decide +kernel
theorem d_Mpr_two_176 : decode b_Mpr_two 176 = .ok (.iload_n 3, 1) := by decide +kernel
theorem d_Mpr_two_177 : decode b_Mpr_two 177 = .ok (.ifCond .ne 10, 3) := by decide +kernel
theorem d_Mpr_two_180 : decode b_Mpr_two 180 = .ok (.aload_n 0, 1) := by decide +kernel
theorem d_Mpr_two_181 : decode b_Mpr_two 181 = .ok (.iconst 3, 1) := by decide +kernel
theorem d_Mpr_two_182 : decode b_Mpr_two 182 = .ok (.iconst 0, 1) := by decide +kernel
theorem d_Mpr_two_183 : decode b_Mpr_two 183 = .ok (.invokevirtual 134, 3) := by decide +kernel
theorem d_Mpr_two_186 : decode b_Mpr_two 186 = .ok (.return_, 1) := by decide +kernel
theorem d_Mpr_two_187 : decode b_Mpr_two 187 = .ok (.aload_n 0, 1) := by decide +kernel
theorem d_Mpr_two_188 : decode b_Mpr_two 188 = .ok (.iload 5, 2) := by decide +kernel
theorem d_Mpr_two_190 : decode b_Mpr_two 190 = .ok (.bipush 43, 2) := by decide +kernel
theorem d_Mpr_two_192 : decode b_Mpr_two 192 = .ok (.if_icmp .ne 9, 3) := by decide +kernel
theorem d_Mpr_two_195 : decode b_Mpr_two 195 = .ok (.iload_n 2, 1) := by decide +kernel
theorem d_Mpr_two_196 : decode b_Mpr_two 196 = .ok (.iload_n 3, 1) := by decide +kernel
theorem d_Mpr_two_197 : decode b_Mpr_two 197 = .ok (.iadd, 1) := by decide +kernel
theorem d_Mpr_two_198 : decode b_Mpr_two 198 = .ok (.goto 119, 3) := by decide +kernel
theorem d_Mpr_two_201 : decode b_Mpr_two 201 = .ok (.iload 5, 2) := by decide +kernel
theorem d_Mpr_two_203 : decode b_Mpr_two 203 = .ok (.bipush 45, 2) := by decide +kernel
theorem d_Mpr_two_205 : decode b_Mpr_two 205 = .ok (.if_icmp .ne 9, 3) := by decide +kernel
theorem d_Mpr_two_208 : decode b_Mpr_two 208 = .ok (.iload_n 2, 1) := by decide +kernel
theorem d_Mpr_two_209 : decode b_Mpr_two 209 = .ok (.iload_n 3, 1) := by decide +kernel
theorem d_Mpr_two_210 : decode b_Mpr_two 210 = .ok (.isub, 1) := by decide +kernel
theorem d_Mpr_two_211 : decode b_Mpr_two 211 = .ok (.goto 106, 3) := by decide +kernel
theorem d_Mpr_two_214 : decode b_Mpr_two 214 = .ok (.iload 5, 2) := by decide +kernel
theorem d_Mpr_two_216 : decode b_Mpr_two 216 = .ok (.bipush 42, 2) := by decide +kernel
theorem d_Mpr_two_218 : decode b_Mpr_two 218 = .ok (.if_icmp .ne 9, 3) := by decide +kernel
theorem d_Mpr_two_221 : decode b_Mpr_two 221 = .ok (.iload_n 2, 1) := by decide +kernel
theorem d_Mpr_two_222 : decode b_Mpr_two 222 = .ok (.iload_n 3, 1) := by decide +kernel
theorem d_Mpr_two_223 : decode b_Mpr_two 223 = .ok (.imul, 1) := by decide +kernel
theorem d_Mpr_two_224 : decode b_Mpr_two 224 = .ok (.goto 93, 3) := by decide +kernel
theorem d_Mpr_two_227 : decode b_Mpr_two 227 = .ok (.iload 5, 2) := by decide +kernel
theorem d_Mpr_two_229 : decode b_Mpr_two 229 = .ok (.bipush 47, 2) := by decide +kernel
theorem d_Mpr_two_231 : decode b_Mpr_two 231 = .ok (.if_icmp .ne 9, 3) := by decide +kernel
theorem d_Mpr_two_234 : decode b_Mpr_two 234 = .ok (.iload_n 2, 1) := by decide +kernel
theorem d_Mpr_two_235 : decode b_Mpr_two 235 = .ok (.iload_n 3, 1) := by decide +kernel
theorem d_Mpr_two_236 : decode b_Mpr_two 236 = .ok (.idiv, 1) := by decide +kernel
theorem d_Mpr_two_237 : decode b_Mpr_two 237 = .ok (.goto 80, 3) := by decide +kernel
theorem d_Mpr_two_240 : decode b_Mpr_two 240 = .ok (.iload 5, 2) := by decide +kernel
theorem d_Mpr_two_242 : decode b_Mpr_two 242 = .ok (.bipush 37, 2) := by decide +kernel
theorem d_Mpr_two_244 : decode b_Mpr_two 244 = .ok (.if_icmp .ne 9, 3) := by decide +kernel
theorem d_Mpr_two_247 : decode b_Mpr_two 247 = .ok (.iload_n 2, 1) := by decide +kernel
theorem d_Mpr_two_248 : decode b_Mpr_two 248 = .ok (.iload_n 3, 1) := by decide +kernel
theorem d_Mpr_two_249 : decode b_Mpr_two 249 = .ok (.irem, 1) := by decide +kernel
theorem d_Mpr_two_250 : decode b_Mpr_two 250 = .ok (.goto 67, 3) := by decide +kernel
theorem d_Mpr_two_253 : decode b_Mpr_two 253 = .ok (.iload 5, 2) := by decide +kernel
theorem d_Mpr_two_255 : decode b_Mpr_two 255 = .ok (.bipush 38, 2) := by decide +kernel
theorem d_Mpr_two_257 : decode b_Mpr_two 257 = .ok (.if_icmp .ne 9, 3) := by decide +kernel
theorem d_Mpr_two_260 : decode b_Mpr_two 260 = .ok (.iload_n 2, 1) := by decide +kernel
theorem d_Mpr_two_261 : decode b_Mpr_two 261 = .ok (.iload_n 3, 1) := by decide +kernel
theorem d_Mpr_two_262 : decode b_Mpr_two 262 = .ok (.iand, 1) := by decide +kernel
theorem d_Mpr_two_263 : decode b_Mpr_two 263 = .ok (.goto 54, 3) := by decide +kernel
theorem d_Mpr_two_266 : decode b_Mpr_two 266 = .ok (.iload 5, 2) := by decide +kernel
theorem d_Mpr_two_268 : decode b_Mpr_two 268 = .ok (.bipush 124, 2) := by decide +kernel
theorem d_Mpr_two_270 : decode b_Mpr_two 270 = .ok (.if_icmp .ne 9, 3) := by decide +kernel
theorem d_Mpr_two_273 : decode b_Mpr_two 273 = .ok (.iload_n 2, 1) := by decide +kernel
theorem d_Mpr_two_274 : decode b_Mpr_two 274 = .ok (.iload_n 3, 1) := by decide +kernel
theorem d_Mpr_two_275 : decode b_Mpr_two 275 = .ok (.ior, 1) := by decide +kernel
theorem d_Mpr_two_276 : decode b_Mpr_two 276 = .ok (.goto 41, 3) := by decide +kernel
theorem d_Mpr_two_279 : decode b_Mpr_two 279 = .ok (.iload 5, 2) := by decide +kernel
theorem d_Mpr_two_281 : decode b_Mpr_two 281 = .ok (.bipush 94, 2) := by decide +kernel
theorem d_Mpr_two_283 : decode b_Mpr_two 283 = .ok (.if_icmp .ne 9, 3) := by decide +kernel
theorem d_Mpr_two_286 : decode b_Mpr_two 286 = .ok (.iload_n 2, 1) := by decide +kernel
theorem d_Mpr_two_287 : decode b_Mpr_two 287 = .ok (.iload_n 3, 1) := by decide +kernel
theorem d_Mpr_two_288 : decode b_Mpr_two 288 = .ok (.ixor, 1) := by decide +kernel
theorem d_Mpr_two_289 : decode b_Mpr_two 289 = .ok (.goto 28, 3) := by decide +kernel
theorem d_Mpr_two_292 : decode b_Mpr_two 292 = .ok (.iload 5, 2) := by decide +kernel
theorem d_Mpr_two_294 : decode b_Mpr_two 294 = .ok (.bipush 60, 2) := by decide +kernel
theorem d_Mpr_two_296 : decode b_Mpr_two 296 = .ok (.if_icmp .ne 11, 3) := by decide +kernel
theorem d_Mpr_two_299 : decode b_Mpr_two 299 = .ok (.iload_n 2, 1) := by decide +kernel
theorem d_Mpr_two_300 : decode b_Mpr_two 300 = .ok (.iload_n 3, 1) := by decide +kernel
theorem d_Mpr_two_301 : decode b_Mpr_two 301 = .ok (.if_icmp .ge 15, 3) := by decide +kernel
theorem d_Mpr_two_304 : decode b_Mpr_two 304 = .ok (.goto 8, 3) := by decide +kernel
theorem d_Mpr_two_307 : decode b_Mpr_two 307 = .ok (.iload_n 2, 1) := by decide +kernel
theorem d_Mpr_two_308 : decode b_Mpr_two 308 = .ok (.iload_n 3, 1) := by decide +kernel
theorem d_Mpr_two_309 : decode b_Mpr_two 309 = .ok (.if_icmp .le 7, 3) := by decide +kernel
theorem d_Mpr_two_312 : decode b_Mpr_two 312 = .ok (.iconst 1, 1) := by decide +kernel
theorem d_Mpr_two_313 : decode b_Mpr_two 313 = .ok (.goto 4, 3) := by decide +kernel
theorem d_Mpr_two_316 : decode b_Mpr_two 316 = .ok (.iconst 0, 1) := by decide +kernel
theorem d_Mpr_two_317 : decode b_Mpr_two 317 = .ok (.invokevirtual 105, 3) := by decide +kernel
theorem d_Mpr_two_320 : decode b_Mpr_two 320 = .ok (.return_, 1) := by decide +kernel
theorem q_Mpr_two : px_y y_Mpr_two 3 := by unfold px_y; decide +kernel
set_option maxHeartbeats 4000000 in
set_option maxRecDepth 100000 in
theorem c_mr_two (l : Launch) (D : va_G) (cs : Nat → ClassId) (nf : Int) (q : Nat) (qr : Nat → Nat) (qg : Nat → Nat → Option Nat) (qf : Nat → Int32) (qa : Nat → Nat → Int32) (h : Nat) (r : Nat → Nat) (g : Nat → Nat → Option Nat) (tf : Nat → Int32) (ta : Nat → Nat → Int32) (pf : Nat → Int32) (na : Nat → Nat → Int32) (ma : Nat → Nat → Int32) (wa : Nat → Nat → Int32) (cf : Nat → Int32) (ca : Nat → Nat → Int32) (ef : Nat → Int32) (ea : Nat → Nat → Int32) (xf : Nat → Int32) (xa : Nat → Nat → Int32) (p0 p1 p2 : Int32)  (g0 : 0 ≤ p0.toInt) (g1 : p0.toInt ≤ 42) (g2 : 0 ≤ (qf 10).toInt) (g3 : (qf 10).toInt < 62000) : MetV l y_Mpr_two b_Mpr_two 7 D cs 6 200 (0) (0) [.ref q, .int p0, .int p1, .int p2] [wd_Mpr cs q qr (fun k => if k = 0 then (some h) else none) qf qa qg, wdP cs h r g tf ta pf na ma wa cf ca ef ea xf xa] (oX (fun A U H => (oP A g U H) ∧ (oLW A U H)) [wd_Mpr cs q qr (fun k => if k = 0 then (some h) else none) qf qa qg, wdP cs h r g tf ta pf na ma wa cf ca ef ea xf xa]) (fun ps => ∃ (qf' : Nat → Int32) (qa' : Nat → Nat → Int32), (ps = [wd_Mpr cs q qr (fun k => if k = 0 then (some h) else none) qf' qa' qg, wdP cs h r g tf ta pf na ma wa cf ca ef ea xf xa]) ∧ (TwO (qf' 2).toInt (qf 2).toInt (qf' 10).toInt (qf 10).toInt) ∧ ((qf' 1).toInt = (qf 1).toInt) ∧ ((qf' 4).toInt = (qf 4).toInt) ∧ ((qf' 5).toInt = (qf 5).toInt) ∧ ((qf' 6).toInt = (qf 6).toInt) ∧ ((qf' 7).toInt = (qf 7).toInt) ∧ ((qf' 11).toInt = (qf 11).toInt) ∧ ((qf' 12).toInt = (qf 12).toInt) ∧ ((qf' 13).toInt = (qf 13).toInt) ∧ ((qf' 14).toInt = (qf 14).toInt) ∧ ((qf' 21).toInt = (qf 21).toInt) ∧ ((qf' 23).toInt = (qf 23).toInt) ∧ ((qf' 24).toInt = (qf 24).toInt) ∧ (WrU qa qa' (qf 10).toInt (-1))) := by
  refine px_enter (by decide) (Nat.le_of_ble_eq_true rfl) ?_
  intro p e s m below meth c A ls hAe S hr hlk hnm hA hT hX hw hl
  replace hl : lv_has ls 7 [(0, .ref q), (1, .int p0), (2, .int p1), (3, .int p2)] := hl
  have lp0 := Int32.le_toInt p0
  have up0 := Int32.toInt_lt p0
  have lp1 := Int32.le_toInt p1
  have up1 := Int32.toInt_lt p1
  have lp2 := Int32.le_toInt p2
  have up2 := Int32.toInt_lt p2
  have cst0 : (0 : Int32).toInt = 0 := rfl
  have cst1 : (1 : Int32).toInt = 1 := rfl
  have cst2 : (2 : Int32).toInt = 2 := rfl
  have cst3 : (3 : Int32).toInt = 3 := rfl
  have cst33 : (33 : Int32).toInt = 33 := rfl
  have cst37 : (37 : Int32).toInt = 37 := rfl
  have cst38 : (38 : Int32).toInt = 38 := rfl
  have cst42 : (42 : Int32).toInt = 42 := rfl
  have cst43 : (43 : Int32).toInt = 43 := rfl
  have cst45 : (45 : Int32).toInt = 45 := rfl
  have cst47 : (47 : Int32).toInt = 47 := rfl
  have cst60 : (60 : Int32).toInt = 60 := rfl
  have cst61 : (61 : Int32).toInt = 61 := rfl
  have cst94 : (94 : Int32).toInt = 94 := rfl
  have cst124 : (124 : Int32).toInt = 124 := rfl
  have hX : (fun A U H => (oP A g U H) ∧ (oLW A U H)) A s s.heap := by rw [hAe]; exact hX
  obtain ⟨hP, hSh⟩ := hX
  have hZ := hP.1
  have hF0 := hP.2.1
  have J187 : ∀  (x187_5 : Int32) (H : Heap) (locs : List Loc) (ls : Array Slot), (x187_5.toInt = 47 → p2.toInt ≠ 0) → (x187_5.toInt = 37 → p2.toInt ≠ 0) → pw D A s.heap H locs [wd_Mpr cs q qr (fun k => if k = 0 then (some h) else none) qf qa qg, wdP cs h r g tf ta pf na ma wa cf ca ef ea xf xa] → lv_has ls 7 [(0, .ref q), (1, .int p0), (2, .int p1), (3, .int p2), (5, .int x187_5)] → W p l e { frames := 6, cells := 0, slots := 0, locals := 200 } s m [.ref q, .int p0, .int p1, .int p2].toArray below meth c H locs 0 0 (MQ below (va_Qv (fun ps => ∃ (qf' : Nat → Int32) (qa' : Nat → Nat → Int32), (ps = [wd_Mpr cs q qr (fun k => if k = 0 then (some h) else none) qf' qa' qg, wdP cs h r g tf ta pf na ma wa cf ca ef ea xf xa]) ∧ (TwO (qf' 2).toInt (qf 2).toInt (qf' 10).toInt (qf 10).toInt) ∧ ((qf' 1).toInt = (qf 1).toInt) ∧ ((qf' 4).toInt = (qf 4).toInt) ∧ ((qf' 5).toInt = (qf 5).toInt) ∧ ((qf' 6).toInt = (qf 6).toInt) ∧ ((qf' 7).toInt = (qf 7).toInt) ∧ ((qf' 11).toInt = (qf 11).toInt) ∧ ((qf' 12).toInt = (qf 12).toInt) ∧ ((qf' 13).toInt = (qf 13).toInt) ∧ ((qf' 14).toInt = (qf 14).toInt) ∧ ((qf' 21).toInt = (qf 21).toInt) ∧ ((qf' 23).toInt = (qf 23).toInt) ∧ ((qf' 24).toInt = (qf 24).toInt) ∧ (WrU qa qa' (qf 10).toInt (-1))) (pc_B D (va_A ([wd_Mpr cs q qr (fun k => if k = 0 then (some h) else none) qf qa qg, wdP cs h r g tf ta pf na ma wa cf ca ef ea xf xa] : List va_W).flatten s.heap.size)) (va_A ([wd_Mpr cs q qr (fun k => if k = 0 then (some h) else none) qf qa qg, wdP cs h r g tf ta pf na ma wa cf ca ef ea xf xa] : List va_W).flatten s.heap.size)) [.ref q, .int p0, .int p1, .int p2].toArray s 0 0 A) (F0 m 187 ls []) := by
    intro x187_5 H locs ls k187_0 k187_1 hw hl
    have lx187_5 := Int32.le_toInt x187_5
    have ux187_5 := Int32.toInt_lt x187_5
    refine lv_aload_n S.x S.b d_Mpr_two_187 rfl (lv_at hl 0 rfl) ?_
    refine lv_iload S.x S.b d_Mpr_two_188 (lv_at hl 4 rfl) ?_
    refine lv_bipush (v := 43) S.x S.b d_Mpr_two_190 (by decide) ?_
    refine lv_icmp_ne (tgt := 201) S.x S.b d_Mpr_two_192 (by decide) (fun c1 => ?_) (fun c1 => ?_)
    · have nc1 : ¬ x187_5.toInt = (43 : Int) := mt (i_eq (x := x187_5) (y := 43)).mpr c1
      refine lv_iload S.x S.b d_Mpr_two_201 (lv_at hl 4 rfl) ?_
      refine lv_bipush (v := 45) S.x S.b d_Mpr_two_203 (by decide) ?_
      refine lv_icmp_ne (tgt := 214) S.x S.b d_Mpr_two_205 (by decide) (fun c2 => ?_) (fun c2 => ?_)
      · have nc2 : ¬ x187_5.toInt = (45 : Int) := mt (i_eq (x := x187_5) (y := 45)).mpr c2
        refine lv_iload S.x S.b d_Mpr_two_214 (lv_at hl 4 rfl) ?_
        refine lv_bipush (v := 42) S.x S.b d_Mpr_two_216 (by decide) ?_
        refine lv_icmp_ne (tgt := 227) S.x S.b d_Mpr_two_218 (by decide) (fun c3 => ?_) (fun c3 => ?_)
        · have nc3 : ¬ x187_5.toInt = (42 : Int) := mt (i_eq (x := x187_5) (y := 42)).mpr c3
          refine lv_iload S.x S.b d_Mpr_two_227 (lv_at hl 4 rfl) ?_
          refine lv_bipush (v := 47) S.x S.b d_Mpr_two_229 (by decide) ?_
          refine lv_icmp_ne (tgt := 240) S.x S.b d_Mpr_two_231 (by decide) (fun c4 => ?_) (fun c4 => ?_)
          · have nc4 : ¬ x187_5.toInt = (47 : Int) := mt (i_eq (x := x187_5) (y := 47)).mpr c4
            refine lv_iload S.x S.b d_Mpr_two_240 (lv_at hl 4 rfl) ?_
            refine lv_bipush (v := 37) S.x S.b d_Mpr_two_242 (by decide) ?_
            refine lv_icmp_ne (tgt := 253) S.x S.b d_Mpr_two_244 (by decide) (fun c5 => ?_) (fun c5 => ?_)
            · have nc5 : ¬ x187_5.toInt = (37 : Int) := mt (i_eq (x := x187_5) (y := 37)).mpr c5
              refine lv_iload S.x S.b d_Mpr_two_253 (lv_at hl 4 rfl) ?_
              refine lv_bipush (v := 38) S.x S.b d_Mpr_two_255 (by decide) ?_
              refine lv_icmp_ne (tgt := 266) S.x S.b d_Mpr_two_257 (by decide) (fun c6 => ?_) (fun c6 => ?_)
              · have nc6 : ¬ x187_5.toInt = (38 : Int) := mt (i_eq (x := x187_5) (y := 38)).mpr c6
                refine lv_iload S.x S.b d_Mpr_two_266 (lv_at hl 4 rfl) ?_
                refine lv_bipush (v := 124) S.x S.b d_Mpr_two_268 (by decide) ?_
                refine lv_icmp_ne (tgt := 279) S.x S.b d_Mpr_two_270 (by decide) (fun c7 => ?_) (fun c7 => ?_)
                · have nc7 : ¬ x187_5.toInt = (124 : Int) := mt (i_eq (x := x187_5) (y := 124)).mpr c7
                  refine lv_iload S.x S.b d_Mpr_two_279 (lv_at hl 4 rfl) ?_
                  refine lv_bipush (v := 94) S.x S.b d_Mpr_two_281 (by decide) ?_
                  refine lv_icmp_ne (tgt := 292) S.x S.b d_Mpr_two_283 (by decide) (fun c8 => ?_) (fun c8 => ?_)
                  · have nc8 : ¬ x187_5.toInt = (94 : Int) := mt (i_eq (x := x187_5) (y := 94)).mpr c8
                    refine lv_iload S.x S.b d_Mpr_two_292 (lv_at hl 4 rfl) ?_
                    refine lv_bipush (v := 60) S.x S.b d_Mpr_two_294 (by decide) ?_
                    refine lv_icmp_ne (tgt := 307) S.x S.b d_Mpr_two_296 (by decide) (fun c9 => ?_) (fun c9 => ?_)
                    · have nc9 : ¬ x187_5.toInt = (60 : Int) := mt (i_eq (x := x187_5) (y := 60)).mpr c9
                      refine lv_iload_n S.x S.b d_Mpr_two_307 rfl (lv_at hl 2 rfl) ?_
                      refine lv_iload_n S.x S.b d_Mpr_two_308 rfl (lv_at hl 3 rfl) ?_
                      refine lv_icmp_le (tgt := 316) S.x S.b d_Mpr_two_309 (by decide) (fun c10 => ?_) (fun c10 => ?_)
                      · have nc10 : p1.toInt ≤ p2.toInt := (i_le (x := p1) (y := p2)).mp c10
                        refine lv_iconst (v := 0) S.x S.b d_Mpr_two_316 (by decide) ?_
                        refine px_callv (pr := []) (px_runV (As := [.int 0]) (rest := []) S (c_mr_give l D cs nf q qr qg qf qa h r g tf ta pf na ma wa cf ca ef ea xf xa 0  (show 0 ≤ (qf 10).toInt from by first | exact g2 | omega) (show (qf 10).toInt < 62500 from by first | exact oz_7621ce4cd5 g3 | omega) _) hT (pr := []) (pcs := [wd_Mpr cs q qr (fun k => if k = 0 then (some h) else none) qf qa qg, wdP cs h r g tf ta pf na ma wa cf ca ef ea xf xa]) hw (oX_call (P := (fun A U H => (oP A g U H))) (pr := []) oG_P hw hA hP) (px_recv hT hw 0 0 rfl rfl rfl) m13_161 m13_158 m13_159 m13_160 m1_22 q_Mpr_give ⟨Nat.le_of_ble_eq_true rfl, Nat.le_of_ble_eq_true rfl⟩ hl.1 rfl (Nat.le_of_ble_eq_true rfl) d_Mpr_two_317 ⟨Nat.le_of_ble_eq_true rfl, Nat.le_of_ble_eq_true rfl⟩) hw hA (fun p15 H locs hp15 hw => ?_)
                        obtain ⟨qf13, qa14, rfl, e17, e18, e19, e20, e21, e22, e23, e24, e25, e26, e27, e28, e29, e30, e31, e32⟩ := hp15
                        replace e17 : (qf13 10).toInt = (qf 10).toInt + 1 := e17
                        replace e18 : (qf13 1).toInt = (qf 1).toInt := e18
                        replace e19 : (qf13 2).toInt = (qf 2).toInt := e19
                        replace e20 : (qf13 3).toInt = (qf 3).toInt := e20
                        replace e21 : (qf13 4).toInt = (qf 4).toInt := e21
                        replace e22 : (qf13 5).toInt = (qf 5).toInt := e22
                        replace e23 : (qf13 6).toInt = (qf 6).toInt := e23
                        replace e24 : (qf13 7).toInt = (qf 7).toInt := e24
                        replace e25 : (qf13 11).toInt = (qf 11).toInt := e25
                        replace e26 : (qf13 12).toInt = (qf 12).toInt := e26
                        replace e27 : (qf13 13).toInt = (qf 13).toInt := e27
                        replace e28 : (qf13 14).toInt = (qf 14).toInt := e28
                        replace e29 : (qf13 21).toInt = (qf 21).toInt := e29
                        replace e30 : (qf13 23).toInt = (qf 23).toInt := e30
                        replace e31 : (qf13 24).toInt = (qf 24).toInt := e31
                        replace e32 : NuU qa qa14 9 (qf 10).toInt (0 : Int32) := e32
                        skip
                        replace hw : pw D A s.heap H locs [wd_Mpr cs q qr (fun k => if k = 0 then (some h) else none) qf13 qa14 qg, wdP cs h r g tf ta pf na ma wa cf ca ef ea xf xa] := hw
                        exact px_vret S hr hlk hAe hw (Nat.le_of_ble_eq_true rfl) (Nat.le_of_ble_eq_true rfl) (⟨qf13, qa14, rfl, (show TwO (qf13 2).toInt (qf 2).toInt (qf13 10).toInt (qf 10).toInt from (Or.inl ⟨by omega, by omega⟩)), (show (qf13 1).toInt = (qf 1).toInt from by first | exact e18 | omega), (show (qf13 4).toInt = (qf 4).toInt from by first | exact e21 | omega), (show (qf13 5).toInt = (qf 5).toInt from by first | exact e22 | omega), (show (qf13 6).toInt = (qf 6).toInt from by first | exact e23 | omega), (show (qf13 7).toInt = (qf 7).toInt from by first | exact e24 | omega), (show (qf13 11).toInt = (qf 11).toInt from by first | exact e25 | omega), (show (qf13 12).toInt = (qf 12).toInt from by first | exact e26 | omega), (show (qf13 13).toInt = (qf 13).toInt from by first | exact e27 | omega), (show (qf13 14).toInt = (qf 14).toInt from by first | exact e28 | omega), (show (qf13 21).toInt = (qf 21).toInt from by first | exact e29 | omega), (show (qf13 23).toInt = (qf 23).toInt from by first | exact e30 | omega), (show (qf13 24).toInt = (qf 24).toInt from by first | exact e31 | omega), (show WrU qa qa14 (qf 10).toInt (-1) from e32.w)⟩) d_Mpr_two_320
                      · have nc10 : ¬ p1.toInt ≤ p2.toInt := mt (i_le (x := p1) (y := p2)).mpr c10
                        refine lv_iconst (v := 1) S.x S.b d_Mpr_two_312 (by decide) ?_
                        refine lv_goto (tgt := 317) S.x S.b d_Mpr_two_313 (by decide) ?_
                        refine px_callv (pr := []) (px_runV (As := [.int 1]) (rest := []) S (c_mr_give l D cs nf q qr qg qf qa h r g tf ta pf na ma wa cf ca ef ea xf xa 1  (show 0 ≤ (qf 10).toInt from by first | exact g2 | omega) (show (qf 10).toInt < 62500 from by first | exact oz_7621ce4cd5 g3 | omega) _) hT (pr := []) (pcs := [wd_Mpr cs q qr (fun k => if k = 0 then (some h) else none) qf qa qg, wdP cs h r g tf ta pf na ma wa cf ca ef ea xf xa]) hw (oX_call (P := (fun A U H => (oP A g U H))) (pr := []) oG_P hw hA hP) (px_recv hT hw 0 0 rfl rfl rfl) m13_161 m13_158 m13_159 m13_160 m1_22 q_Mpr_give ⟨Nat.le_of_ble_eq_true rfl, Nat.le_of_ble_eq_true rfl⟩ hl.1 rfl (Nat.le_of_ble_eq_true rfl) d_Mpr_two_317 ⟨Nat.le_of_ble_eq_true rfl, Nat.le_of_ble_eq_true rfl⟩) hw hA (fun p37 H locs hp37 hw => ?_)
                        obtain ⟨qf35, qa36, rfl, e39, e40, e41, e42, e43, e44, e45, e46, e47, e48, e49, e50, e51, e52, e53, e54⟩ := hp37
                        replace e39 : (qf35 10).toInt = (qf 10).toInt + 1 := e39
                        replace e40 : (qf35 1).toInt = (qf 1).toInt := e40
                        replace e41 : (qf35 2).toInt = (qf 2).toInt := e41
                        replace e42 : (qf35 3).toInt = (qf 3).toInt := e42
                        replace e43 : (qf35 4).toInt = (qf 4).toInt := e43
                        replace e44 : (qf35 5).toInt = (qf 5).toInt := e44
                        replace e45 : (qf35 6).toInt = (qf 6).toInt := e45
                        replace e46 : (qf35 7).toInt = (qf 7).toInt := e46
                        replace e47 : (qf35 11).toInt = (qf 11).toInt := e47
                        replace e48 : (qf35 12).toInt = (qf 12).toInt := e48
                        replace e49 : (qf35 13).toInt = (qf 13).toInt := e49
                        replace e50 : (qf35 14).toInt = (qf 14).toInt := e50
                        replace e51 : (qf35 21).toInt = (qf 21).toInt := e51
                        replace e52 : (qf35 23).toInt = (qf 23).toInt := e52
                        replace e53 : (qf35 24).toInt = (qf 24).toInt := e53
                        replace e54 : NuU qa qa36 9 (qf 10).toInt (1 : Int32) := e54
                        skip
                        replace hw : pw D A s.heap H locs [wd_Mpr cs q qr (fun k => if k = 0 then (some h) else none) qf35 qa36 qg, wdP cs h r g tf ta pf na ma wa cf ca ef ea xf xa] := hw
                        exact px_vret S hr hlk hAe hw (Nat.le_of_ble_eq_true rfl) (Nat.le_of_ble_eq_true rfl) (⟨qf35, qa36, rfl, (show TwO (qf35 2).toInt (qf 2).toInt (qf35 10).toInt (qf 10).toInt from (Or.inl ⟨by omega, by omega⟩)), (show (qf35 1).toInt = (qf 1).toInt from by first | exact e40 | omega), (show (qf35 4).toInt = (qf 4).toInt from by first | exact e43 | omega), (show (qf35 5).toInt = (qf 5).toInt from by first | exact e44 | omega), (show (qf35 6).toInt = (qf 6).toInt from by first | exact e45 | omega), (show (qf35 7).toInt = (qf 7).toInt from by first | exact e46 | omega), (show (qf35 11).toInt = (qf 11).toInt from by first | exact e47 | omega), (show (qf35 12).toInt = (qf 12).toInt from by first | exact e48 | omega), (show (qf35 13).toInt = (qf 13).toInt from by first | exact e49 | omega), (show (qf35 14).toInt = (qf 14).toInt from by first | exact e50 | omega), (show (qf35 21).toInt = (qf 21).toInt from by first | exact e51 | omega), (show (qf35 23).toInt = (qf 23).toInt from by first | exact e52 | omega), (show (qf35 24).toInt = (qf 24).toInt from by first | exact e53 | omega), (show WrU qa qa36 (qf 10).toInt (-1) from e54.w)⟩) d_Mpr_two_320
                    · have nc9 : x187_5.toInt = (60 : Int) := (i_eq (x := x187_5) (y := 60)).mp c9
                      refine lv_iload_n S.x S.b d_Mpr_two_299 rfl (lv_at hl 2 rfl) ?_
                      refine lv_iload_n S.x S.b d_Mpr_two_300 rfl (lv_at hl 3 rfl) ?_
                      refine lv_icmp_ge (tgt := 316) S.x S.b d_Mpr_two_301 (by decide) (fun c55 => ?_) (fun c55 => ?_)
                      · have nc55 : p2.toInt ≤ p1.toInt := (i_le (x := p2) (y := p1)).mp c55
                        refine lv_iconst (v := 0) S.x S.b d_Mpr_two_316 (by decide) ?_
                        refine px_callv (pr := []) (px_runV (As := [.int 0]) (rest := []) S (c_mr_give l D cs nf q qr qg qf qa h r g tf ta pf na ma wa cf ca ef ea xf xa 0  (show 0 ≤ (qf 10).toInt from by first | exact g2 | omega) (show (qf 10).toInt < 62500 from by first | exact oz_7621ce4cd5 g3 | omega) _) hT (pr := []) (pcs := [wd_Mpr cs q qr (fun k => if k = 0 then (some h) else none) qf qa qg, wdP cs h r g tf ta pf na ma wa cf ca ef ea xf xa]) hw (oX_call (P := (fun A U H => (oP A g U H))) (pr := []) oG_P hw hA hP) (px_recv hT hw 0 0 rfl rfl rfl) m13_161 m13_158 m13_159 m13_160 m1_22 q_Mpr_give ⟨Nat.le_of_ble_eq_true rfl, Nat.le_of_ble_eq_true rfl⟩ hl.1 rfl (Nat.le_of_ble_eq_true rfl) d_Mpr_two_317 ⟨Nat.le_of_ble_eq_true rfl, Nat.le_of_ble_eq_true rfl⟩) hw hA (fun p60 H locs hp60 hw => ?_)
                        obtain ⟨qf58, qa59, rfl, e62, e63, e64, e65, e66, e67, e68, e69, e70, e71, e72, e73, e74, e75, e76, e77⟩ := hp60
                        replace e62 : (qf58 10).toInt = (qf 10).toInt + 1 := e62
                        replace e63 : (qf58 1).toInt = (qf 1).toInt := e63
                        replace e64 : (qf58 2).toInt = (qf 2).toInt := e64
                        replace e65 : (qf58 3).toInt = (qf 3).toInt := e65
                        replace e66 : (qf58 4).toInt = (qf 4).toInt := e66
                        replace e67 : (qf58 5).toInt = (qf 5).toInt := e67
                        replace e68 : (qf58 6).toInt = (qf 6).toInt := e68
                        replace e69 : (qf58 7).toInt = (qf 7).toInt := e69
                        replace e70 : (qf58 11).toInt = (qf 11).toInt := e70
                        replace e71 : (qf58 12).toInt = (qf 12).toInt := e71
                        replace e72 : (qf58 13).toInt = (qf 13).toInt := e72
                        replace e73 : (qf58 14).toInt = (qf 14).toInt := e73
                        replace e74 : (qf58 21).toInt = (qf 21).toInt := e74
                        replace e75 : (qf58 23).toInt = (qf 23).toInt := e75
                        replace e76 : (qf58 24).toInt = (qf 24).toInt := e76
                        replace e77 : NuU qa qa59 9 (qf 10).toInt (0 : Int32) := e77
                        skip
                        replace hw : pw D A s.heap H locs [wd_Mpr cs q qr (fun k => if k = 0 then (some h) else none) qf58 qa59 qg, wdP cs h r g tf ta pf na ma wa cf ca ef ea xf xa] := hw
                        exact px_vret S hr hlk hAe hw (Nat.le_of_ble_eq_true rfl) (Nat.le_of_ble_eq_true rfl) (⟨qf58, qa59, rfl, (show TwO (qf58 2).toInt (qf 2).toInt (qf58 10).toInt (qf 10).toInt from (Or.inl ⟨by omega, by omega⟩)), (show (qf58 1).toInt = (qf 1).toInt from by first | exact e63 | omega), (show (qf58 4).toInt = (qf 4).toInt from by first | exact e66 | omega), (show (qf58 5).toInt = (qf 5).toInt from by first | exact e67 | omega), (show (qf58 6).toInt = (qf 6).toInt from by first | exact e68 | omega), (show (qf58 7).toInt = (qf 7).toInt from by first | exact e69 | omega), (show (qf58 11).toInt = (qf 11).toInt from by first | exact e70 | omega), (show (qf58 12).toInt = (qf 12).toInt from by first | exact e71 | omega), (show (qf58 13).toInt = (qf 13).toInt from by first | exact e72 | omega), (show (qf58 14).toInt = (qf 14).toInt from by first | exact e73 | omega), (show (qf58 21).toInt = (qf 21).toInt from by first | exact e74 | omega), (show (qf58 23).toInt = (qf 23).toInt from by first | exact e75 | omega), (show (qf58 24).toInt = (qf 24).toInt from by first | exact e76 | omega), (show WrU qa qa59 (qf 10).toInt (-1) from e77.w)⟩) d_Mpr_two_320
                      · have nc55 : ¬ p2.toInt ≤ p1.toInt := mt (i_le (x := p2) (y := p1)).mpr c55
                        refine lv_goto (tgt := 312) S.x S.b d_Mpr_two_304 (by decide) ?_
                        refine lv_iconst (v := 1) S.x S.b d_Mpr_two_312 (by decide) ?_
                        refine lv_goto (tgt := 317) S.x S.b d_Mpr_two_313 (by decide) ?_
                        refine px_callv (pr := []) (px_runV (As := [.int 1]) (rest := []) S (c_mr_give l D cs nf q qr qg qf qa h r g tf ta pf na ma wa cf ca ef ea xf xa 1  (show 0 ≤ (qf 10).toInt from by first | exact g2 | omega) (show (qf 10).toInt < 62500 from by first | exact oz_7621ce4cd5 g3 | omega) _) hT (pr := []) (pcs := [wd_Mpr cs q qr (fun k => if k = 0 then (some h) else none) qf qa qg, wdP cs h r g tf ta pf na ma wa cf ca ef ea xf xa]) hw (oX_call (P := (fun A U H => (oP A g U H))) (pr := []) oG_P hw hA hP) (px_recv hT hw 0 0 rfl rfl rfl) m13_161 m13_158 m13_159 m13_160 m1_22 q_Mpr_give ⟨Nat.le_of_ble_eq_true rfl, Nat.le_of_ble_eq_true rfl⟩ hl.1 rfl (Nat.le_of_ble_eq_true rfl) d_Mpr_two_317 ⟨Nat.le_of_ble_eq_true rfl, Nat.le_of_ble_eq_true rfl⟩) hw hA (fun p82 H locs hp82 hw => ?_)
                        obtain ⟨qf80, qa81, rfl, e84, e85, e86, e87, e88, e89, e90, e91, e92, e93, e94, e95, e96, e97, e98, e99⟩ := hp82
                        replace e84 : (qf80 10).toInt = (qf 10).toInt + 1 := e84
                        replace e85 : (qf80 1).toInt = (qf 1).toInt := e85
                        replace e86 : (qf80 2).toInt = (qf 2).toInt := e86
                        replace e87 : (qf80 3).toInt = (qf 3).toInt := e87
                        replace e88 : (qf80 4).toInt = (qf 4).toInt := e88
                        replace e89 : (qf80 5).toInt = (qf 5).toInt := e89
                        replace e90 : (qf80 6).toInt = (qf 6).toInt := e90
                        replace e91 : (qf80 7).toInt = (qf 7).toInt := e91
                        replace e92 : (qf80 11).toInt = (qf 11).toInt := e92
                        replace e93 : (qf80 12).toInt = (qf 12).toInt := e93
                        replace e94 : (qf80 13).toInt = (qf 13).toInt := e94
                        replace e95 : (qf80 14).toInt = (qf 14).toInt := e95
                        replace e96 : (qf80 21).toInt = (qf 21).toInt := e96
                        replace e97 : (qf80 23).toInt = (qf 23).toInt := e97
                        replace e98 : (qf80 24).toInt = (qf 24).toInt := e98
                        replace e99 : NuU qa qa81 9 (qf 10).toInt (1 : Int32) := e99
                        skip
                        replace hw : pw D A s.heap H locs [wd_Mpr cs q qr (fun k => if k = 0 then (some h) else none) qf80 qa81 qg, wdP cs h r g tf ta pf na ma wa cf ca ef ea xf xa] := hw
                        exact px_vret S hr hlk hAe hw (Nat.le_of_ble_eq_true rfl) (Nat.le_of_ble_eq_true rfl) (⟨qf80, qa81, rfl, (show TwO (qf80 2).toInt (qf 2).toInt (qf80 10).toInt (qf 10).toInt from (Or.inl ⟨by omega, by omega⟩)), (show (qf80 1).toInt = (qf 1).toInt from by first | exact e85 | omega), (show (qf80 4).toInt = (qf 4).toInt from by first | exact e88 | omega), (show (qf80 5).toInt = (qf 5).toInt from by first | exact e89 | omega), (show (qf80 6).toInt = (qf 6).toInt from by first | exact e90 | omega), (show (qf80 7).toInt = (qf 7).toInt from by first | exact e91 | omega), (show (qf80 11).toInt = (qf 11).toInt from by first | exact e92 | omega), (show (qf80 12).toInt = (qf 12).toInt from by first | exact e93 | omega), (show (qf80 13).toInt = (qf 13).toInt from by first | exact e94 | omega), (show (qf80 14).toInt = (qf 14).toInt from by first | exact e95 | omega), (show (qf80 21).toInt = (qf 21).toInt from by first | exact e96 | omega), (show (qf80 23).toInt = (qf 23).toInt from by first | exact e97 | omega), (show (qf80 24).toInt = (qf 24).toInt from by first | exact e98 | omega), (show WrU qa qa81 (qf 10).toInt (-1) from e99.w)⟩) d_Mpr_two_320
                  · have nc8 : x187_5.toInt = (94 : Int) := (i_eq (x := x187_5) (y := 94)).mp c8
                    refine lv_iload_n S.x S.b d_Mpr_two_286 rfl (lv_at hl 2 rfl) ?_
                    refine lv_iload_n S.x S.b d_Mpr_two_287 rfl (lv_at hl 3 rfl) ?_
                    refine lv_ixor S.x S.b d_Mpr_two_288 ?_
                    refine lv_topi (fun z100 ez100 => ?_)
                    have lz100 := Int32.le_toInt z100
                    have uz100 := Int32.toInt_lt z100
                    refine lv_goto (tgt := 317) S.x S.b d_Mpr_two_289 (by decide) ?_
                    refine px_callv (pr := []) (px_runV (As := [.int z100]) (rest := []) S (c_mr_give l D cs nf q qr qg qf qa h r g tf ta pf na ma wa cf ca ef ea xf xa z100  (show 0 ≤ (qf 10).toInt from by first | exact g2 | omega) (show (qf 10).toInt < 62500 from by first | exact oz_7621ce4cd5 g3 | omega) _) hT (pr := []) (pcs := [wd_Mpr cs q qr (fun k => if k = 0 then (some h) else none) qf qa qg, wdP cs h r g tf ta pf na ma wa cf ca ef ea xf xa]) hw (oX_call (P := (fun A U H => (oP A g U H))) (pr := []) oG_P hw hA hP) (px_recv hT hw 0 0 rfl rfl rfl) m13_161 m13_158 m13_159 m13_160 m1_22 q_Mpr_give ⟨Nat.le_of_ble_eq_true rfl, Nat.le_of_ble_eq_true rfl⟩ hl.1 rfl (Nat.le_of_ble_eq_true rfl) d_Mpr_two_317 ⟨Nat.le_of_ble_eq_true rfl, Nat.le_of_ble_eq_true rfl⟩) hw hA (fun p105 H locs hp105 hw => ?_)
                    obtain ⟨qf103, qa104, rfl, e107, e108, e109, e110, e111, e112, e113, e114, e115, e116, e117, e118, e119, e120, e121, e122⟩ := hp105
                    replace e107 : (qf103 10).toInt = (qf 10).toInt + 1 := e107
                    replace e108 : (qf103 1).toInt = (qf 1).toInt := e108
                    replace e109 : (qf103 2).toInt = (qf 2).toInt := e109
                    replace e110 : (qf103 3).toInt = (qf 3).toInt := e110
                    replace e111 : (qf103 4).toInt = (qf 4).toInt := e111
                    replace e112 : (qf103 5).toInt = (qf 5).toInt := e112
                    replace e113 : (qf103 6).toInt = (qf 6).toInt := e113
                    replace e114 : (qf103 7).toInt = (qf 7).toInt := e114
                    replace e115 : (qf103 11).toInt = (qf 11).toInt := e115
                    replace e116 : (qf103 12).toInt = (qf 12).toInt := e116
                    replace e117 : (qf103 13).toInt = (qf 13).toInt := e117
                    replace e118 : (qf103 14).toInt = (qf 14).toInt := e118
                    replace e119 : (qf103 21).toInt = (qf 21).toInt := e119
                    replace e120 : (qf103 23).toInt = (qf 23).toInt := e120
                    replace e121 : (qf103 24).toInt = (qf 24).toInt := e121
                    replace e122 : NuU qa qa104 9 (qf 10).toInt z100 := e122
                    skip
                    replace hw : pw D A s.heap H locs [wd_Mpr cs q qr (fun k => if k = 0 then (some h) else none) qf103 qa104 qg, wdP cs h r g tf ta pf na ma wa cf ca ef ea xf xa] := hw
                    exact px_vret S hr hlk hAe hw (Nat.le_of_ble_eq_true rfl) (Nat.le_of_ble_eq_true rfl) (⟨qf103, qa104, rfl, (show TwO (qf103 2).toInt (qf 2).toInt (qf103 10).toInt (qf 10).toInt from (Or.inl ⟨by omega, by omega⟩)), (show (qf103 1).toInt = (qf 1).toInt from by first | exact e108 | omega), (show (qf103 4).toInt = (qf 4).toInt from by first | exact e111 | omega), (show (qf103 5).toInt = (qf 5).toInt from by first | exact e112 | omega), (show (qf103 6).toInt = (qf 6).toInt from by first | exact e113 | omega), (show (qf103 7).toInt = (qf 7).toInt from by first | exact e114 | omega), (show (qf103 11).toInt = (qf 11).toInt from by first | exact e115 | omega), (show (qf103 12).toInt = (qf 12).toInt from by first | exact e116 | omega), (show (qf103 13).toInt = (qf 13).toInt from by first | exact e117 | omega), (show (qf103 14).toInt = (qf 14).toInt from by first | exact e118 | omega), (show (qf103 21).toInt = (qf 21).toInt from by first | exact e119 | omega), (show (qf103 23).toInt = (qf 23).toInt from by first | exact e120 | omega), (show (qf103 24).toInt = (qf 24).toInt from by first | exact e121 | omega), (show WrU qa qa104 (qf 10).toInt (-1) from e122.w)⟩) d_Mpr_two_320
                · have nc7 : x187_5.toInt = (124 : Int) := (i_eq (x := x187_5) (y := 124)).mp c7
                  refine lv_iload_n S.x S.b d_Mpr_two_273 rfl (lv_at hl 2 rfl) ?_
                  refine lv_iload_n S.x S.b d_Mpr_two_274 rfl (lv_at hl 3 rfl) ?_
                  refine lv_ior S.x S.b d_Mpr_two_275 ?_
                  refine lv_topi (fun z123 ez123 => ?_)
                  have lz123 := Int32.le_toInt z123
                  have uz123 := Int32.toInt_lt z123
                  refine lv_goto (tgt := 317) S.x S.b d_Mpr_two_276 (by decide) ?_
                  refine px_callv (pr := []) (px_runV (As := [.int z123]) (rest := []) S (c_mr_give l D cs nf q qr qg qf qa h r g tf ta pf na ma wa cf ca ef ea xf xa z123  (show 0 ≤ (qf 10).toInt from by first | exact g2 | omega) (show (qf 10).toInt < 62500 from by first | exact oz_7621ce4cd5 g3 | omega) _) hT (pr := []) (pcs := [wd_Mpr cs q qr (fun k => if k = 0 then (some h) else none) qf qa qg, wdP cs h r g tf ta pf na ma wa cf ca ef ea xf xa]) hw (oX_call (P := (fun A U H => (oP A g U H))) (pr := []) oG_P hw hA hP) (px_recv hT hw 0 0 rfl rfl rfl) m13_161 m13_158 m13_159 m13_160 m1_22 q_Mpr_give ⟨Nat.le_of_ble_eq_true rfl, Nat.le_of_ble_eq_true rfl⟩ hl.1 rfl (Nat.le_of_ble_eq_true rfl) d_Mpr_two_317 ⟨Nat.le_of_ble_eq_true rfl, Nat.le_of_ble_eq_true rfl⟩) hw hA (fun p128 H locs hp128 hw => ?_)
                  obtain ⟨qf126, qa127, rfl, e130, e131, e132, e133, e134, e135, e136, e137, e138, e139, e140, e141, e142, e143, e144, e145⟩ := hp128
                  replace e130 : (qf126 10).toInt = (qf 10).toInt + 1 := e130
                  replace e131 : (qf126 1).toInt = (qf 1).toInt := e131
                  replace e132 : (qf126 2).toInt = (qf 2).toInt := e132
                  replace e133 : (qf126 3).toInt = (qf 3).toInt := e133
                  replace e134 : (qf126 4).toInt = (qf 4).toInt := e134
                  replace e135 : (qf126 5).toInt = (qf 5).toInt := e135
                  replace e136 : (qf126 6).toInt = (qf 6).toInt := e136
                  replace e137 : (qf126 7).toInt = (qf 7).toInt := e137
                  replace e138 : (qf126 11).toInt = (qf 11).toInt := e138
                  replace e139 : (qf126 12).toInt = (qf 12).toInt := e139
                  replace e140 : (qf126 13).toInt = (qf 13).toInt := e140
                  replace e141 : (qf126 14).toInt = (qf 14).toInt := e141
                  replace e142 : (qf126 21).toInt = (qf 21).toInt := e142
                  replace e143 : (qf126 23).toInt = (qf 23).toInt := e143
                  replace e144 : (qf126 24).toInt = (qf 24).toInt := e144
                  replace e145 : NuU qa qa127 9 (qf 10).toInt z123 := e145
                  skip
                  replace hw : pw D A s.heap H locs [wd_Mpr cs q qr (fun k => if k = 0 then (some h) else none) qf126 qa127 qg, wdP cs h r g tf ta pf na ma wa cf ca ef ea xf xa] := hw
                  exact px_vret S hr hlk hAe hw (Nat.le_of_ble_eq_true rfl) (Nat.le_of_ble_eq_true rfl) (⟨qf126, qa127, rfl, (show TwO (qf126 2).toInt (qf 2).toInt (qf126 10).toInt (qf 10).toInt from (Or.inl ⟨by omega, by omega⟩)), (show (qf126 1).toInt = (qf 1).toInt from by first | exact e131 | omega), (show (qf126 4).toInt = (qf 4).toInt from by first | exact e134 | omega), (show (qf126 5).toInt = (qf 5).toInt from by first | exact e135 | omega), (show (qf126 6).toInt = (qf 6).toInt from by first | exact e136 | omega), (show (qf126 7).toInt = (qf 7).toInt from by first | exact e137 | omega), (show (qf126 11).toInt = (qf 11).toInt from by first | exact e138 | omega), (show (qf126 12).toInt = (qf 12).toInt from by first | exact e139 | omega), (show (qf126 13).toInt = (qf 13).toInt from by first | exact e140 | omega), (show (qf126 14).toInt = (qf 14).toInt from by first | exact e141 | omega), (show (qf126 21).toInt = (qf 21).toInt from by first | exact e142 | omega), (show (qf126 23).toInt = (qf 23).toInt from by first | exact e143 | omega), (show (qf126 24).toInt = (qf 24).toInt from by first | exact e144 | omega), (show WrU qa qa127 (qf 10).toInt (-1) from e145.w)⟩) d_Mpr_two_320
              · have nc6 : x187_5.toInt = (38 : Int) := (i_eq (x := x187_5) (y := 38)).mp c6
                refine lv_iload_n S.x S.b d_Mpr_two_260 rfl (lv_at hl 2 rfl) ?_
                refine lv_iload_n S.x S.b d_Mpr_two_261 rfl (lv_at hl 3 rfl) ?_
                refine lv_iand S.x S.b d_Mpr_two_262 ?_
                refine lv_topi (fun z146 ez146 => ?_)
                have lz146 := Int32.le_toInt z146
                have uz146 := Int32.toInt_lt z146
                refine lv_goto (tgt := 317) S.x S.b d_Mpr_two_263 (by decide) ?_
                refine px_callv (pr := []) (px_runV (As := [.int z146]) (rest := []) S (c_mr_give l D cs nf q qr qg qf qa h r g tf ta pf na ma wa cf ca ef ea xf xa z146  (show 0 ≤ (qf 10).toInt from by first | exact g2 | omega) (show (qf 10).toInt < 62500 from by first | exact oz_7621ce4cd5 g3 | omega) _) hT (pr := []) (pcs := [wd_Mpr cs q qr (fun k => if k = 0 then (some h) else none) qf qa qg, wdP cs h r g tf ta pf na ma wa cf ca ef ea xf xa]) hw (oX_call (P := (fun A U H => (oP A g U H))) (pr := []) oG_P hw hA hP) (px_recv hT hw 0 0 rfl rfl rfl) m13_161 m13_158 m13_159 m13_160 m1_22 q_Mpr_give ⟨Nat.le_of_ble_eq_true rfl, Nat.le_of_ble_eq_true rfl⟩ hl.1 rfl (Nat.le_of_ble_eq_true rfl) d_Mpr_two_317 ⟨Nat.le_of_ble_eq_true rfl, Nat.le_of_ble_eq_true rfl⟩) hw hA (fun p151 H locs hp151 hw => ?_)
                obtain ⟨qf149, qa150, rfl, e153, e154, e155, e156, e157, e158, e159, e160, e161, e162, e163, e164, e165, e166, e167, e168⟩ := hp151
                replace e153 : (qf149 10).toInt = (qf 10).toInt + 1 := e153
                replace e154 : (qf149 1).toInt = (qf 1).toInt := e154
                replace e155 : (qf149 2).toInt = (qf 2).toInt := e155
                replace e156 : (qf149 3).toInt = (qf 3).toInt := e156
                replace e157 : (qf149 4).toInt = (qf 4).toInt := e157
                replace e158 : (qf149 5).toInt = (qf 5).toInt := e158
                replace e159 : (qf149 6).toInt = (qf 6).toInt := e159
                replace e160 : (qf149 7).toInt = (qf 7).toInt := e160
                replace e161 : (qf149 11).toInt = (qf 11).toInt := e161
                replace e162 : (qf149 12).toInt = (qf 12).toInt := e162
                replace e163 : (qf149 13).toInt = (qf 13).toInt := e163
                replace e164 : (qf149 14).toInt = (qf 14).toInt := e164
                replace e165 : (qf149 21).toInt = (qf 21).toInt := e165
                replace e166 : (qf149 23).toInt = (qf 23).toInt := e166
                replace e167 : (qf149 24).toInt = (qf 24).toInt := e167
                replace e168 : NuU qa qa150 9 (qf 10).toInt z146 := e168
                skip
                replace hw : pw D A s.heap H locs [wd_Mpr cs q qr (fun k => if k = 0 then (some h) else none) qf149 qa150 qg, wdP cs h r g tf ta pf na ma wa cf ca ef ea xf xa] := hw
                exact px_vret S hr hlk hAe hw (Nat.le_of_ble_eq_true rfl) (Nat.le_of_ble_eq_true rfl) (⟨qf149, qa150, rfl, (show TwO (qf149 2).toInt (qf 2).toInt (qf149 10).toInt (qf 10).toInt from (Or.inl ⟨by omega, by omega⟩)), (show (qf149 1).toInt = (qf 1).toInt from by first | exact e154 | omega), (show (qf149 4).toInt = (qf 4).toInt from by first | exact e157 | omega), (show (qf149 5).toInt = (qf 5).toInt from by first | exact e158 | omega), (show (qf149 6).toInt = (qf 6).toInt from by first | exact e159 | omega), (show (qf149 7).toInt = (qf 7).toInt from by first | exact e160 | omega), (show (qf149 11).toInt = (qf 11).toInt from by first | exact e161 | omega), (show (qf149 12).toInt = (qf 12).toInt from by first | exact e162 | omega), (show (qf149 13).toInt = (qf 13).toInt from by first | exact e163 | omega), (show (qf149 14).toInt = (qf 14).toInt from by first | exact e164 | omega), (show (qf149 21).toInt = (qf 21).toInt from by first | exact e165 | omega), (show (qf149 23).toInt = (qf 23).toInt from by first | exact e166 | omega), (show (qf149 24).toInt = (qf 24).toInt from by first | exact e167 | omega), (show WrU qa qa150 (qf 10).toInt (-1) from e168.w)⟩) d_Mpr_two_320
            · have nc5 : x187_5.toInt = (37 : Int) := (i_eq (x := x187_5) (y := 37)).mp c5
              refine lv_iload_n S.x S.b d_Mpr_two_247 rfl (lv_at hl 2 rfl) ?_
              refine lv_iload_n S.x S.b d_Mpr_two_248 rfl (lv_at hl 3 rfl) ?_
              refine lv_irem S.x S.b d_Mpr_two_249 (fun hz0 => by have hz1 := i_eq.mp hz0; omega) ?_
              refine lv_topi (fun z169 ez169 => ?_)
              have lz169 := Int32.le_toInt z169
              have uz169 := Int32.toInt_lt z169
              refine lv_goto (tgt := 317) S.x S.b d_Mpr_two_250 (by decide) ?_
              refine px_callv (pr := []) (px_runV (As := [.int z169]) (rest := []) S (c_mr_give l D cs nf q qr qg qf qa h r g tf ta pf na ma wa cf ca ef ea xf xa z169  (show 0 ≤ (qf 10).toInt from by first | exact g2 | omega) (show (qf 10).toInt < 62500 from by first | exact oz_7621ce4cd5 g3 | omega) _) hT (pr := []) (pcs := [wd_Mpr cs q qr (fun k => if k = 0 then (some h) else none) qf qa qg, wdP cs h r g tf ta pf na ma wa cf ca ef ea xf xa]) hw (oX_call (P := (fun A U H => (oP A g U H))) (pr := []) oG_P hw hA hP) (px_recv hT hw 0 0 rfl rfl rfl) m13_161 m13_158 m13_159 m13_160 m1_22 q_Mpr_give ⟨Nat.le_of_ble_eq_true rfl, Nat.le_of_ble_eq_true rfl⟩ hl.1 rfl (Nat.le_of_ble_eq_true rfl) d_Mpr_two_317 ⟨Nat.le_of_ble_eq_true rfl, Nat.le_of_ble_eq_true rfl⟩) hw hA (fun p174 H locs hp174 hw => ?_)
              obtain ⟨qf172, qa173, rfl, e176, e177, e178, e179, e180, e181, e182, e183, e184, e185, e186, e187, e188, e189, e190, e191⟩ := hp174
              replace e176 : (qf172 10).toInt = (qf 10).toInt + 1 := e176
              replace e177 : (qf172 1).toInt = (qf 1).toInt := e177
              replace e178 : (qf172 2).toInt = (qf 2).toInt := e178
              replace e179 : (qf172 3).toInt = (qf 3).toInt := e179
              replace e180 : (qf172 4).toInt = (qf 4).toInt := e180
              replace e181 : (qf172 5).toInt = (qf 5).toInt := e181
              replace e182 : (qf172 6).toInt = (qf 6).toInt := e182
              replace e183 : (qf172 7).toInt = (qf 7).toInt := e183
              replace e184 : (qf172 11).toInt = (qf 11).toInt := e184
              replace e185 : (qf172 12).toInt = (qf 12).toInt := e185
              replace e186 : (qf172 13).toInt = (qf 13).toInt := e186
              replace e187 : (qf172 14).toInt = (qf 14).toInt := e187
              replace e188 : (qf172 21).toInt = (qf 21).toInt := e188
              replace e189 : (qf172 23).toInt = (qf 23).toInt := e189
              replace e190 : (qf172 24).toInt = (qf 24).toInt := e190
              replace e191 : NuU qa qa173 9 (qf 10).toInt z169 := e191
              skip
              replace hw : pw D A s.heap H locs [wd_Mpr cs q qr (fun k => if k = 0 then (some h) else none) qf172 qa173 qg, wdP cs h r g tf ta pf na ma wa cf ca ef ea xf xa] := hw
              exact px_vret S hr hlk hAe hw (Nat.le_of_ble_eq_true rfl) (Nat.le_of_ble_eq_true rfl) (⟨qf172, qa173, rfl, (show TwO (qf172 2).toInt (qf 2).toInt (qf172 10).toInt (qf 10).toInt from (Or.inl ⟨by omega, by omega⟩)), (show (qf172 1).toInt = (qf 1).toInt from by first | exact e177 | omega), (show (qf172 4).toInt = (qf 4).toInt from by first | exact e180 | omega), (show (qf172 5).toInt = (qf 5).toInt from by first | exact e181 | omega), (show (qf172 6).toInt = (qf 6).toInt from by first | exact e182 | omega), (show (qf172 7).toInt = (qf 7).toInt from by first | exact e183 | omega), (show (qf172 11).toInt = (qf 11).toInt from by first | exact e184 | omega), (show (qf172 12).toInt = (qf 12).toInt from by first | exact e185 | omega), (show (qf172 13).toInt = (qf 13).toInt from by first | exact e186 | omega), (show (qf172 14).toInt = (qf 14).toInt from by first | exact e187 | omega), (show (qf172 21).toInt = (qf 21).toInt from by first | exact e188 | omega), (show (qf172 23).toInt = (qf 23).toInt from by first | exact e189 | omega), (show (qf172 24).toInt = (qf 24).toInt from by first | exact e190 | omega), (show WrU qa qa173 (qf 10).toInt (-1) from e191.w)⟩) d_Mpr_two_320
          · have nc4 : x187_5.toInt = (47 : Int) := (i_eq (x := x187_5) (y := 47)).mp c4
            refine lv_iload_n S.x S.b d_Mpr_two_234 rfl (lv_at hl 2 rfl) ?_
            refine lv_iload_n S.x S.b d_Mpr_two_235 rfl (lv_at hl 3 rfl) ?_
            refine lv_idiv S.x S.b d_Mpr_two_236 (fun hz0 => by have hz1 := i_eq.mp hz0; omega) ?_
            refine lv_topi (fun z192 ez192 => ?_)
            have lz192 := Int32.le_toInt z192
            have uz192 := Int32.toInt_lt z192
            refine lv_goto (tgt := 317) S.x S.b d_Mpr_two_237 (by decide) ?_
            refine px_callv (pr := []) (px_runV (As := [.int z192]) (rest := []) S (c_mr_give l D cs nf q qr qg qf qa h r g tf ta pf na ma wa cf ca ef ea xf xa z192  (show 0 ≤ (qf 10).toInt from by first | exact g2 | omega) (show (qf 10).toInt < 62500 from by first | exact oz_7621ce4cd5 g3 | omega) _) hT (pr := []) (pcs := [wd_Mpr cs q qr (fun k => if k = 0 then (some h) else none) qf qa qg, wdP cs h r g tf ta pf na ma wa cf ca ef ea xf xa]) hw (oX_call (P := (fun A U H => (oP A g U H))) (pr := []) oG_P hw hA hP) (px_recv hT hw 0 0 rfl rfl rfl) m13_161 m13_158 m13_159 m13_160 m1_22 q_Mpr_give ⟨Nat.le_of_ble_eq_true rfl, Nat.le_of_ble_eq_true rfl⟩ hl.1 rfl (Nat.le_of_ble_eq_true rfl) d_Mpr_two_317 ⟨Nat.le_of_ble_eq_true rfl, Nat.le_of_ble_eq_true rfl⟩) hw hA (fun p197 H locs hp197 hw => ?_)
            obtain ⟨qf195, qa196, rfl, e199, e200, e201, e202, e203, e204, e205, e206, e207, e208, e209, e210, e211, e212, e213, e214⟩ := hp197
            replace e199 : (qf195 10).toInt = (qf 10).toInt + 1 := e199
            replace e200 : (qf195 1).toInt = (qf 1).toInt := e200
            replace e201 : (qf195 2).toInt = (qf 2).toInt := e201
            replace e202 : (qf195 3).toInt = (qf 3).toInt := e202
            replace e203 : (qf195 4).toInt = (qf 4).toInt := e203
            replace e204 : (qf195 5).toInt = (qf 5).toInt := e204
            replace e205 : (qf195 6).toInt = (qf 6).toInt := e205
            replace e206 : (qf195 7).toInt = (qf 7).toInt := e206
            replace e207 : (qf195 11).toInt = (qf 11).toInt := e207
            replace e208 : (qf195 12).toInt = (qf 12).toInt := e208
            replace e209 : (qf195 13).toInt = (qf 13).toInt := e209
            replace e210 : (qf195 14).toInt = (qf 14).toInt := e210
            replace e211 : (qf195 21).toInt = (qf 21).toInt := e211
            replace e212 : (qf195 23).toInt = (qf 23).toInt := e212
            replace e213 : (qf195 24).toInt = (qf 24).toInt := e213
            replace e214 : NuU qa qa196 9 (qf 10).toInt z192 := e214
            skip
            replace hw : pw D A s.heap H locs [wd_Mpr cs q qr (fun k => if k = 0 then (some h) else none) qf195 qa196 qg, wdP cs h r g tf ta pf na ma wa cf ca ef ea xf xa] := hw
            exact px_vret S hr hlk hAe hw (Nat.le_of_ble_eq_true rfl) (Nat.le_of_ble_eq_true rfl) (⟨qf195, qa196, rfl, (show TwO (qf195 2).toInt (qf 2).toInt (qf195 10).toInt (qf 10).toInt from (Or.inl ⟨by omega, by omega⟩)), (show (qf195 1).toInt = (qf 1).toInt from by first | exact e200 | omega), (show (qf195 4).toInt = (qf 4).toInt from by first | exact e203 | omega), (show (qf195 5).toInt = (qf 5).toInt from by first | exact e204 | omega), (show (qf195 6).toInt = (qf 6).toInt from by first | exact e205 | omega), (show (qf195 7).toInt = (qf 7).toInt from by first | exact e206 | omega), (show (qf195 11).toInt = (qf 11).toInt from by first | exact e207 | omega), (show (qf195 12).toInt = (qf 12).toInt from by first | exact e208 | omega), (show (qf195 13).toInt = (qf 13).toInt from by first | exact e209 | omega), (show (qf195 14).toInt = (qf 14).toInt from by first | exact e210 | omega), (show (qf195 21).toInt = (qf 21).toInt from by first | exact e211 | omega), (show (qf195 23).toInt = (qf 23).toInt from by first | exact e212 | omega), (show (qf195 24).toInt = (qf 24).toInt from by first | exact e213 | omega), (show WrU qa qa196 (qf 10).toInt (-1) from e214.w)⟩) d_Mpr_two_320
        · have nc3 : x187_5.toInt = (42 : Int) := (i_eq (x := x187_5) (y := 42)).mp c3
          refine lv_iload_n S.x S.b d_Mpr_two_221 rfl (lv_at hl 2 rfl) ?_
          refine lv_iload_n S.x S.b d_Mpr_two_222 rfl (lv_at hl 3 rfl) ?_
          refine lv_imul S.x S.b d_Mpr_two_223 ?_
          refine lv_topi (fun z215 ez215 => ?_)
          have lz215 := Int32.le_toInt z215
          have uz215 := Int32.toInt_lt z215
          refine lv_goto (tgt := 317) S.x S.b d_Mpr_two_224 (by decide) ?_
          refine px_callv (pr := []) (px_runV (As := [.int z215]) (rest := []) S (c_mr_give l D cs nf q qr qg qf qa h r g tf ta pf na ma wa cf ca ef ea xf xa z215  (show 0 ≤ (qf 10).toInt from by first | exact g2 | omega) (show (qf 10).toInt < 62500 from by first | exact oz_7621ce4cd5 g3 | omega) _) hT (pr := []) (pcs := [wd_Mpr cs q qr (fun k => if k = 0 then (some h) else none) qf qa qg, wdP cs h r g tf ta pf na ma wa cf ca ef ea xf xa]) hw (oX_call (P := (fun A U H => (oP A g U H))) (pr := []) oG_P hw hA hP) (px_recv hT hw 0 0 rfl rfl rfl) m13_161 m13_158 m13_159 m13_160 m1_22 q_Mpr_give ⟨Nat.le_of_ble_eq_true rfl, Nat.le_of_ble_eq_true rfl⟩ hl.1 rfl (Nat.le_of_ble_eq_true rfl) d_Mpr_two_317 ⟨Nat.le_of_ble_eq_true rfl, Nat.le_of_ble_eq_true rfl⟩) hw hA (fun p220 H locs hp220 hw => ?_)
          obtain ⟨qf218, qa219, rfl, e222, e223, e224, e225, e226, e227, e228, e229, e230, e231, e232, e233, e234, e235, e236, e237⟩ := hp220
          replace e222 : (qf218 10).toInt = (qf 10).toInt + 1 := e222
          replace e223 : (qf218 1).toInt = (qf 1).toInt := e223
          replace e224 : (qf218 2).toInt = (qf 2).toInt := e224
          replace e225 : (qf218 3).toInt = (qf 3).toInt := e225
          replace e226 : (qf218 4).toInt = (qf 4).toInt := e226
          replace e227 : (qf218 5).toInt = (qf 5).toInt := e227
          replace e228 : (qf218 6).toInt = (qf 6).toInt := e228
          replace e229 : (qf218 7).toInt = (qf 7).toInt := e229
          replace e230 : (qf218 11).toInt = (qf 11).toInt := e230
          replace e231 : (qf218 12).toInt = (qf 12).toInt := e231
          replace e232 : (qf218 13).toInt = (qf 13).toInt := e232
          replace e233 : (qf218 14).toInt = (qf 14).toInt := e233
          replace e234 : (qf218 21).toInt = (qf 21).toInt := e234
          replace e235 : (qf218 23).toInt = (qf 23).toInt := e235
          replace e236 : (qf218 24).toInt = (qf 24).toInt := e236
          replace e237 : NuU qa qa219 9 (qf 10).toInt z215 := e237
          skip
          replace hw : pw D A s.heap H locs [wd_Mpr cs q qr (fun k => if k = 0 then (some h) else none) qf218 qa219 qg, wdP cs h r g tf ta pf na ma wa cf ca ef ea xf xa] := hw
          exact px_vret S hr hlk hAe hw (Nat.le_of_ble_eq_true rfl) (Nat.le_of_ble_eq_true rfl) (⟨qf218, qa219, rfl, (show TwO (qf218 2).toInt (qf 2).toInt (qf218 10).toInt (qf 10).toInt from (Or.inl ⟨by omega, by omega⟩)), (show (qf218 1).toInt = (qf 1).toInt from by first | exact e223 | omega), (show (qf218 4).toInt = (qf 4).toInt from by first | exact e226 | omega), (show (qf218 5).toInt = (qf 5).toInt from by first | exact e227 | omega), (show (qf218 6).toInt = (qf 6).toInt from by first | exact e228 | omega), (show (qf218 7).toInt = (qf 7).toInt from by first | exact e229 | omega), (show (qf218 11).toInt = (qf 11).toInt from by first | exact e230 | omega), (show (qf218 12).toInt = (qf 12).toInt from by first | exact e231 | omega), (show (qf218 13).toInt = (qf 13).toInt from by first | exact e232 | omega), (show (qf218 14).toInt = (qf 14).toInt from by first | exact e233 | omega), (show (qf218 21).toInt = (qf 21).toInt from by first | exact e234 | omega), (show (qf218 23).toInt = (qf 23).toInt from by first | exact e235 | omega), (show (qf218 24).toInt = (qf 24).toInt from by first | exact e236 | omega), (show WrU qa qa219 (qf 10).toInt (-1) from e237.w)⟩) d_Mpr_two_320
      · have nc2 : x187_5.toInt = (45 : Int) := (i_eq (x := x187_5) (y := 45)).mp c2
        refine lv_iload_n S.x S.b d_Mpr_two_208 rfl (lv_at hl 2 rfl) ?_
        refine lv_iload_n S.x S.b d_Mpr_two_209 rfl (lv_at hl 3 rfl) ?_
        refine lv_isub S.x S.b d_Mpr_two_210 ?_
        refine lv_topi (fun z238 ez238 => ?_)
        have tz238 : z238.toInt = (p1.toInt - p2.toInt + 2147483648) % 4294967296 - 2147483648 := by rw [ez238]; exact i_sub p1 p2
        have lz238 := Int32.le_toInt z238
        have uz238 := Int32.toInt_lt z238
        try replace tz238 : z238.toInt = p1.toInt - p2.toInt := by omega
        refine lv_goto (tgt := 317) S.x S.b d_Mpr_two_211 (by decide) ?_
        refine px_callv (pr := []) (px_runV (As := [.int z238]) (rest := []) S (c_mr_give l D cs nf q qr qg qf qa h r g tf ta pf na ma wa cf ca ef ea xf xa z238  (show 0 ≤ (qf 10).toInt from by first | exact g2 | omega) (show (qf 10).toInt < 62500 from by first | exact oz_7621ce4cd5 g3 | omega) _) hT (pr := []) (pcs := [wd_Mpr cs q qr (fun k => if k = 0 then (some h) else none) qf qa qg, wdP cs h r g tf ta pf na ma wa cf ca ef ea xf xa]) hw (oX_call (P := (fun A U H => (oP A g U H))) (pr := []) oG_P hw hA hP) (px_recv hT hw 0 0 rfl rfl rfl) m13_161 m13_158 m13_159 m13_160 m1_22 q_Mpr_give ⟨Nat.le_of_ble_eq_true rfl, Nat.le_of_ble_eq_true rfl⟩ hl.1 rfl (Nat.le_of_ble_eq_true rfl) d_Mpr_two_317 ⟨Nat.le_of_ble_eq_true rfl, Nat.le_of_ble_eq_true rfl⟩) hw hA (fun p243 H locs hp243 hw => ?_)
        obtain ⟨qf241, qa242, rfl, e245, e246, e247, e248, e249, e250, e251, e252, e253, e254, e255, e256, e257, e258, e259, e260⟩ := hp243
        replace e245 : (qf241 10).toInt = (qf 10).toInt + 1 := e245
        replace e246 : (qf241 1).toInt = (qf 1).toInt := e246
        replace e247 : (qf241 2).toInt = (qf 2).toInt := e247
        replace e248 : (qf241 3).toInt = (qf 3).toInt := e248
        replace e249 : (qf241 4).toInt = (qf 4).toInt := e249
        replace e250 : (qf241 5).toInt = (qf 5).toInt := e250
        replace e251 : (qf241 6).toInt = (qf 6).toInt := e251
        replace e252 : (qf241 7).toInt = (qf 7).toInt := e252
        replace e253 : (qf241 11).toInt = (qf 11).toInt := e253
        replace e254 : (qf241 12).toInt = (qf 12).toInt := e254
        replace e255 : (qf241 13).toInt = (qf 13).toInt := e255
        replace e256 : (qf241 14).toInt = (qf 14).toInt := e256
        replace e257 : (qf241 21).toInt = (qf 21).toInt := e257
        replace e258 : (qf241 23).toInt = (qf 23).toInt := e258
        replace e259 : (qf241 24).toInt = (qf 24).toInt := e259
        replace e260 : NuU qa qa242 9 (qf 10).toInt z238 := e260
        skip
        replace hw : pw D A s.heap H locs [wd_Mpr cs q qr (fun k => if k = 0 then (some h) else none) qf241 qa242 qg, wdP cs h r g tf ta pf na ma wa cf ca ef ea xf xa] := hw
        exact px_vret S hr hlk hAe hw (Nat.le_of_ble_eq_true rfl) (Nat.le_of_ble_eq_true rfl) (⟨qf241, qa242, rfl, (show TwO (qf241 2).toInt (qf 2).toInt (qf241 10).toInt (qf 10).toInt from (Or.inl ⟨by omega, by omega⟩)), (show (qf241 1).toInt = (qf 1).toInt from by first | exact e246 | omega), (show (qf241 4).toInt = (qf 4).toInt from by first | exact e249 | omega), (show (qf241 5).toInt = (qf 5).toInt from by first | exact e250 | omega), (show (qf241 6).toInt = (qf 6).toInt from by first | exact e251 | omega), (show (qf241 7).toInt = (qf 7).toInt from by first | exact e252 | omega), (show (qf241 11).toInt = (qf 11).toInt from by first | exact e253 | omega), (show (qf241 12).toInt = (qf 12).toInt from by first | exact e254 | omega), (show (qf241 13).toInt = (qf 13).toInt from by first | exact e255 | omega), (show (qf241 14).toInt = (qf 14).toInt from by first | exact e256 | omega), (show (qf241 21).toInt = (qf 21).toInt from by first | exact e257 | omega), (show (qf241 23).toInt = (qf 23).toInt from by first | exact e258 | omega), (show (qf241 24).toInt = (qf 24).toInt from by first | exact e259 | omega), (show WrU qa qa242 (qf 10).toInt (-1) from e260.w)⟩) d_Mpr_two_320
    · have nc1 : x187_5.toInt = (43 : Int) := (i_eq (x := x187_5) (y := 43)).mp c1
      refine lv_iload_n S.x S.b d_Mpr_two_195 rfl (lv_at hl 2 rfl) ?_
      refine lv_iload_n S.x S.b d_Mpr_two_196 rfl (lv_at hl 3 rfl) ?_
      refine lv_iadd S.x S.b d_Mpr_two_197 ?_
      refine lv_topi (fun z261 ez261 => ?_)
      have tz261 : z261.toInt = (p1.toInt + p2.toInt + 2147483648) % 4294967296 - 2147483648 := by rw [ez261]; exact i_add p1 p2
      have lz261 := Int32.le_toInt z261
      have uz261 := Int32.toInt_lt z261
      try replace tz261 : z261.toInt = p1.toInt + p2.toInt := by omega
      refine lv_goto (tgt := 317) S.x S.b d_Mpr_two_198 (by decide) ?_
      refine px_callv (pr := []) (px_runV (As := [.int z261]) (rest := []) S (c_mr_give l D cs nf q qr qg qf qa h r g tf ta pf na ma wa cf ca ef ea xf xa z261  (show 0 ≤ (qf 10).toInt from by first | exact g2 | omega) (show (qf 10).toInt < 62500 from by first | exact oz_7621ce4cd5 g3 | omega) _) hT (pr := []) (pcs := [wd_Mpr cs q qr (fun k => if k = 0 then (some h) else none) qf qa qg, wdP cs h r g tf ta pf na ma wa cf ca ef ea xf xa]) hw (oX_call (P := (fun A U H => (oP A g U H))) (pr := []) oG_P hw hA hP) (px_recv hT hw 0 0 rfl rfl rfl) m13_161 m13_158 m13_159 m13_160 m1_22 q_Mpr_give ⟨Nat.le_of_ble_eq_true rfl, Nat.le_of_ble_eq_true rfl⟩ hl.1 rfl (Nat.le_of_ble_eq_true rfl) d_Mpr_two_317 ⟨Nat.le_of_ble_eq_true rfl, Nat.le_of_ble_eq_true rfl⟩) hw hA (fun p266 H locs hp266 hw => ?_)
      obtain ⟨qf264, qa265, rfl, e268, e269, e270, e271, e272, e273, e274, e275, e276, e277, e278, e279, e280, e281, e282, e283⟩ := hp266
      replace e268 : (qf264 10).toInt = (qf 10).toInt + 1 := e268
      replace e269 : (qf264 1).toInt = (qf 1).toInt := e269
      replace e270 : (qf264 2).toInt = (qf 2).toInt := e270
      replace e271 : (qf264 3).toInt = (qf 3).toInt := e271
      replace e272 : (qf264 4).toInt = (qf 4).toInt := e272
      replace e273 : (qf264 5).toInt = (qf 5).toInt := e273
      replace e274 : (qf264 6).toInt = (qf 6).toInt := e274
      replace e275 : (qf264 7).toInt = (qf 7).toInt := e275
      replace e276 : (qf264 11).toInt = (qf 11).toInt := e276
      replace e277 : (qf264 12).toInt = (qf 12).toInt := e277
      replace e278 : (qf264 13).toInt = (qf 13).toInt := e278
      replace e279 : (qf264 14).toInt = (qf 14).toInt := e279
      replace e280 : (qf264 21).toInt = (qf 21).toInt := e280
      replace e281 : (qf264 23).toInt = (qf 23).toInt := e281
      replace e282 : (qf264 24).toInt = (qf 24).toInt := e282
      replace e283 : NuU qa qa265 9 (qf 10).toInt z261 := e283
      skip
      replace hw : pw D A s.heap H locs [wd_Mpr cs q qr (fun k => if k = 0 then (some h) else none) qf264 qa265 qg, wdP cs h r g tf ta pf na ma wa cf ca ef ea xf xa] := hw
      exact px_vret S hr hlk hAe hw (Nat.le_of_ble_eq_true rfl) (Nat.le_of_ble_eq_true rfl) (⟨qf264, qa265, rfl, (show TwO (qf264 2).toInt (qf 2).toInt (qf264 10).toInt (qf 10).toInt from (Or.inl ⟨by omega, by omega⟩)), (show (qf264 1).toInt = (qf 1).toInt from by first | exact e269 | omega), (show (qf264 4).toInt = (qf 4).toInt from by first | exact e272 | omega), (show (qf264 5).toInt = (qf 5).toInt from by first | exact e273 | omega), (show (qf264 6).toInt = (qf 6).toInt from by first | exact e274 | omega), (show (qf264 7).toInt = (qf 7).toInt from by first | exact e275 | omega), (show (qf264 11).toInt = (qf 11).toInt from by first | exact e276 | omega), (show (qf264 12).toInt = (qf 12).toInt from by first | exact e277 | omega), (show (qf264 13).toInt = (qf 13).toInt from by first | exact e278 | omega), (show (qf264 14).toInt = (qf 14).toInt from by first | exact e279 | omega), (show (qf264 21).toInt = (qf 21).toInt from by first | exact e280 | omega), (show (qf264 23).toInt = (qf 23).toInt from by first | exact e281 | omega), (show (qf264 24).toInt = (qf 24).toInt from by first | exact e282 | omega), (show WrU qa qa265 (qf 10).toInt (-1) from e283.w)⟩) d_Mpr_two_320
  refine lv_aload_n S.x S.b d_Mpr_two_0 rfl (lv_at hl 0 rfl) ?_
  refine px_get S k_Mpr hT hw 0 0 0 (v := .ref h) rfl rfl rfl (by decide) m10_221 d_Mpr_two_1 ?_
  refine px_getN S k_Mpg hT hw 1 0 1 (v := .ref (r 1)) rfl rfl rfl (by decide) m9_225n d_Mpr_two_4 ?_
  refine lv_iload_n S.x S.b d_Mpr_two_7 rfl (lv_at hl 1 rfl) ?_
  have hclsk284 := cl_nat (x := p0) (by first | exact g0 | omega)
  obtain ⟨sk284, hgsk284, st285, sb286, hSsk284⟩ := oP_1 hP (i := p0.toNatClampNeg) (by omega)
  have hmsk284 := len_1 (i := p0.toNatClampNeg) (by omega)
  refine px_aaldS S hT hw 1 2 11 (n := 43) (f := (g 1)) rfl rfl rfl (x := p0) (vp_in_iff.mpr (by first | exact oz_fc62deb105 hclsk284 g1 | (constructor <;> omega))) hgsk284 d_Mpr_two_8 ?_
  refine lv_astore (lv' := [(4, .ref sk284), (0, .ref q), (1, .int p0), (2, .int p1), (3, .int p2)]) S.x S.b d_Mpr_two_9 hl (by decide) rfl (fun ls hl => ?_)
  refine lv_aload S.x S.b d_Mpr_two_11 (lv_at hl 0 rfl) ?_
  refine lv_iconst (v := 0) S.x S.b d_Mpr_two_13 (by decide) ?_
  refine px_calli (pr := [wd_Mpr cs q qr (fun k => if k = 0 then (some h) else none) qf qa qg, wdP cs h r g tf ta pf na ma wa cf ca ef ea xf xa]) (px_runV (As := [.int 0]) (rest := []) S (c_String_charAt l D cs sk284 st285 (mlen p0.toNatClampNeg) sb286 0  (show (mlen p0.toNatClampNeg) ≤ 1000000 from by first | with_reducible rfl | with_reducible assumption | omega) (show 0 ≤ (0 : Int) from by first | decide | omega) (show (0 : Int) < ((mlen p0.toNatClampNeg) : Int) from by first | with_reducible rfl | with_reducible assumption | omega) _) hT (pr := [wd_Mpr cs q qr (fun k => if k = 0 then (some h) else none) qf qa qg, wdP cs h r g tf ta pf na ma wa cf ca ef ea xf xa]) (pcs := []) hw (oX_call (P := (fun A U H => (oF A U H) ∧ (oZ A U H) ∧ (oS A sk284 st285 (mlen p0.toNatClampNeg) sb286 U H))) (pr := [wd_Mpr cs q qr (fun k => if k = 0 then (some h) else none) qf qa qg, wdP cs h r g tf ta pf na ma wa cf ca ef ea xf xa]) (oG_and oG_F (oG_and oG_Z oG_S)) hw hA ⟨hF0, hZ, hSsk284⟩) (oS_recv hw hSsk284) m1_68 m14_152 m1_66 m1_67 m1_3 q_String_charAt ⟨Nat.le_of_ble_eq_true rfl, Nat.le_of_ble_eq_true rfl⟩ hl.1 rfl (Nat.le_of_ble_eq_true rfl) d_Mpr_two_14 ⟨Nat.le_of_ble_eq_true rfl, Nat.le_of_ble_eq_true rfl⟩) hw hA (fun v288 p287 H locs hp287 hw => ?_)
  obtain ⟨rfl, e289⟩ := hp287
  replace e289 : narrow .char (.int v288) = .int v288 := e289
  replace hw : pw D A s.heap H locs [wd_Mpr cs q qr (fun k => if k = 0 then (some h) else none) qf qa qg, wdP cs h r g tf ta pf na ma wa cf ca ef ea xf xa] := hw
  have lv288 := Int32.le_toInt v288
  have uv288 := Int32.toInt_lt v288
  refine lv_istore (lv' := [(5, .int v288), (4, .ref sk284), (0, .ref q), (1, .int p0), (2, .int p1), (3, .int p2)]) S.x S.b d_Mpr_two_17 hl (by decide) rfl (fun ls hl => ?_)
  refine lv_aload S.x S.b d_Mpr_two_19 (lv_at hl 1 rfl) ?_
  refine px_calli (pr := [wd_Mpr cs q qr (fun k => if k = 0 then (some h) else none) qf qa qg, wdP cs h r g tf ta pf na ma wa cf ca ef ea xf xa]) (px_runV (As := []) (rest := []) S (c_String_length l D cs sk284 st285 (mlen p0.toNatClampNeg) sb286   (show (mlen p0.toNatClampNeg) ≤ 1000000 from by first | with_reducible rfl | with_reducible assumption | omega) _) hT (pr := [wd_Mpr cs q qr (fun k => if k = 0 then (some h) else none) qf qa qg, wdP cs h r g tf ta pf na ma wa cf ca ef ea xf xa]) (pcs := []) hw (oX_call (P := (fun A U H => (oZ A U H) ∧ (oS A sk284 st285 (mlen p0.toNatClampNeg) sb286 U H))) (pr := [wd_Mpr cs q qr (fun k => if k = 0 then (some h) else none) qf qa qg, wdP cs h r g tf ta pf na ma wa cf ca ef ea xf xa]) (oG_and oG_Z oG_S) hw hA ⟨hZ, hSsk284⟩) (oS_recv hw hSsk284) m1_58 m14_153 m1_56 m1_57 m1_3 q_String_length ⟨Nat.le_of_ble_eq_true rfl, Nat.le_of_ble_eq_true rfl⟩ hl.1 rfl (Nat.le_of_ble_eq_true rfl) d_Mpr_two_21 ⟨Nat.le_of_ble_eq_true rfl, Nat.le_of_ble_eq_true rfl⟩) hw hA (fun v291 p290 H locs hp290 hw => ?_)
  obtain ⟨rfl, e292⟩ := hp290
  replace e292 : v291.toInt = ((mlen p0.toNatClampNeg) : Int) := e292
  replace hw : pw D A s.heap H locs [wd_Mpr cs q qr (fun k => if k = 0 then (some h) else none) qf qa qg, wdP cs h r g tf ta pf na ma wa cf ca ef ea xf xa] := hw
  have lv291 := Int32.le_toInt v291
  have uv291 := Int32.toInt_lt v291
  refine lv_iconst (v := 2) S.x S.b d_Mpr_two_24 (by decide) ?_
  refine lv_icmp_ne (tgt := 162) S.x S.b d_Mpr_two_25 (by decide) (fun c293 => ?_) (fun c293 => ?_)
  · have nc293 : ¬ v291.toInt = (2 : Int) := mt (i_eq (x := v291) (y := 2)).mpr c293
    refine lv_iload S.x S.b d_Mpr_two_162 (lv_at hl 0 rfl) ?_
    refine lv_bipush (v := 47) S.x S.b d_Mpr_two_164 (by decide) ?_
    refine lv_icmp_eq (tgt := 176) S.x S.b d_Mpr_two_166 (by decide) (fun c294 => ?_) (fun c294 => ?_)
    · have nc294 : v288.toInt = (47 : Int) := (i_eq (x := v288) (y := 47)).mp c294
      refine lv_iload_n S.x S.b d_Mpr_two_176 rfl (lv_at hl 5 rfl) ?_
      refine lv_if_ne (tgt := 187) S.x S.b d_Mpr_two_177 (by decide) (fun c295 => ?_) (fun c295 => ?_)
      · have nc295 : ¬ p2.toInt = (0 : Int) := mt (i_eq (x := p2) (y := 0)).mpr c295
        exact J187 v288 _ _ ls (show v288.toInt = 47 → p2.toInt ≠ 0 from by first | with_reducible rfl | with_reducible assumption | omega) (show v288.toInt = 37 → p2.toInt ≠ 0 from by first | with_reducible rfl | with_reducible assumption | omega) hw (lv_sub hl [2, 3, 4, 5, 0] rfl)
      · have nc295 : p2.toInt = (0 : Int) := (i_eq (x := p2) (y := 0)).mp c295
        refine lv_aload_n S.x S.b d_Mpr_two_180 rfl (lv_at hl 2 rfl) ?_
        refine lv_iconst (v := 3) S.x S.b d_Mpr_two_181 (by decide) ?_
        refine lv_iconst (v := 0) S.x S.b d_Mpr_two_182 (by decide) ?_
        refine px_callv (pr := []) (px_runV (As := [.int 3, .int 0]) (rest := []) S (c_mr_end l D cs nf q qr qg qa qf h r g tf ta pf na ma wa cf ca ef ea xf xa 3 0   _) hT (pr := []) (pcs := [wd_Mpr cs q qr (fun k => if k = 0 then (some h) else none) qf qa qg, wdP cs h r g tf ta pf na ma wa cf ca ef ea xf xa]) hw (oX_call (P := (fun A U H => (oP A g U H))) (pr := []) oG_P hw hA hP) (px_recv hT hw 0 0 rfl rfl rfl) m13_177 m13_174 m13_175 m13_176 m1_22 q_Mpr_end ⟨Nat.le_of_ble_eq_true rfl, Nat.le_of_ble_eq_true rfl⟩ hl.1 rfl (Nat.le_of_ble_eq_true rfl) d_Mpr_two_183 ⟨Nat.le_of_ble_eq_true rfl, Nat.le_of_ble_eq_true rfl⟩) hw hA (fun p298 H locs hp298 hw => ?_)
        obtain ⟨qf297, rfl, e300, e301, e302, e303, e304, e305, e306, e307, e308, e309, e310, e311, e312, e313, e314⟩ := hp298
        replace e300 : (qf297 2).toInt = (3 : Int) := e300
        replace e301 : (qf297 3).toInt = (0 : Int) := e301
        replace e302 : (qf297 1).toInt = (qf 1).toInt := e302
        replace e303 : (qf297 4).toInt = (qf 4).toInt := e303
        replace e304 : (qf297 5).toInt = (qf 5).toInt := e304
        replace e305 : (qf297 6).toInt = (qf 6).toInt := e305
        replace e306 : (qf297 7).toInt = (qf 7).toInt := e306
        replace e307 : (qf297 10).toInt = (qf 10).toInt := e307
        replace e308 : (qf297 11).toInt = (qf 11).toInt := e308
        replace e309 : (qf297 12).toInt = (qf 12).toInt := e309
        replace e310 : (qf297 13).toInt = (qf 13).toInt := e310
        replace e311 : (qf297 14).toInt = (qf 14).toInt := e311
        replace e312 : (qf297 21).toInt = (qf 21).toInt := e312
        replace e313 : (qf297 23).toInt = (qf 23).toInt := e313
        replace e314 : (qf297 24).toInt = (qf 24).toInt := e314
        replace hw : pw D A s.heap H locs [wd_Mpr cs q qr (fun k => if k = 0 then (some h) else none) qf297 qa qg, wdP cs h r g tf ta pf na ma wa cf ca ef ea xf xa] := hw
        exact px_vret S hr hlk hAe hw (Nat.le_of_ble_eq_true rfl) (Nat.le_of_ble_eq_true rfl) (⟨qf297, qa, rfl, (show TwO (qf297 2).toInt (qf 2).toInt (qf297 10).toInt (qf 10).toInt from (Or.inr ⟨by omega, by omega⟩)), (show (qf297 1).toInt = (qf 1).toInt from by first | exact e302 | omega), (show (qf297 4).toInt = (qf 4).toInt from by first | exact e303 | omega), (show (qf297 5).toInt = (qf 5).toInt from by first | exact e304 | omega), (show (qf297 6).toInt = (qf 6).toInt from by first | exact e305 | omega), (show (qf297 7).toInt = (qf 7).toInt from by first | exact e306 | omega), (show (qf297 11).toInt = (qf 11).toInt from by first | exact e308 | omega), (show (qf297 12).toInt = (qf 12).toInt from by first | exact e309 | omega), (show (qf297 13).toInt = (qf 13).toInt from by first | exact e310 | omega), (show (qf297 14).toInt = (qf 14).toInt from by first | exact e311 | omega), (show (qf297 21).toInt = (qf 21).toInt from by first | exact e312 | omega), (show (qf297 23).toInt = (qf 23).toInt from by first | exact e313 | omega), (show (qf297 24).toInt = (qf 24).toInt from by first | exact e314 | omega), (show WrU qa qa (qf 10).toInt (-1) from WrU.rf)⟩) d_Mpr_two_186
    · have nc294 : ¬ v288.toInt = (47 : Int) := mt (i_eq (x := v288) (y := 47)).mpr c294
      refine lv_iload S.x S.b d_Mpr_two_169 (lv_at hl 0 rfl) ?_
      refine lv_bipush (v := 37) S.x S.b d_Mpr_two_171 (by decide) ?_
      refine lv_icmp_ne (tgt := 187) S.x S.b d_Mpr_two_173 (by decide) (fun c315 => ?_) (fun c315 => ?_)
      · have nc315 : ¬ v288.toInt = (37 : Int) := mt (i_eq (x := v288) (y := 37)).mpr c315
        exact J187 v288 _ _ ls (show v288.toInt = 47 → p2.toInt ≠ 0 from by first | with_reducible rfl | with_reducible assumption | omega) (show v288.toInt = 37 → p2.toInt ≠ 0 from by first | with_reducible rfl | with_reducible assumption | omega) hw (lv_sub hl [2, 3, 4, 5, 0] rfl)
      · have nc315 : v288.toInt = (37 : Int) := (i_eq (x := v288) (y := 37)).mp c315
        refine lv_iload_n S.x S.b d_Mpr_two_176 rfl (lv_at hl 5 rfl) ?_
        refine lv_if_ne (tgt := 187) S.x S.b d_Mpr_two_177 (by decide) (fun c316 => ?_) (fun c316 => ?_)
        · have nc316 : ¬ p2.toInt = (0 : Int) := mt (i_eq (x := p2) (y := 0)).mpr c316
          exact J187 v288 _ _ ls (show v288.toInt = 47 → p2.toInt ≠ 0 from by first | with_reducible rfl | with_reducible assumption | omega) (show v288.toInt = 37 → p2.toInt ≠ 0 from by first | with_reducible rfl | with_reducible assumption | omega) hw (lv_sub hl [2, 3, 4, 5, 0] rfl)
        · have nc316 : p2.toInt = (0 : Int) := (i_eq (x := p2) (y := 0)).mp c316
          refine lv_aload_n S.x S.b d_Mpr_two_180 rfl (lv_at hl 2 rfl) ?_
          refine lv_iconst (v := 3) S.x S.b d_Mpr_two_181 (by decide) ?_
          refine lv_iconst (v := 0) S.x S.b d_Mpr_two_182 (by decide) ?_
          refine px_callv (pr := []) (px_runV (As := [.int 3, .int 0]) (rest := []) S (c_mr_end l D cs nf q qr qg qa qf h r g tf ta pf na ma wa cf ca ef ea xf xa 3 0   _) hT (pr := []) (pcs := [wd_Mpr cs q qr (fun k => if k = 0 then (some h) else none) qf qa qg, wdP cs h r g tf ta pf na ma wa cf ca ef ea xf xa]) hw (oX_call (P := (fun A U H => (oP A g U H))) (pr := []) oG_P hw hA hP) (px_recv hT hw 0 0 rfl rfl rfl) m13_177 m13_174 m13_175 m13_176 m1_22 q_Mpr_end ⟨Nat.le_of_ble_eq_true rfl, Nat.le_of_ble_eq_true rfl⟩ hl.1 rfl (Nat.le_of_ble_eq_true rfl) d_Mpr_two_183 ⟨Nat.le_of_ble_eq_true rfl, Nat.le_of_ble_eq_true rfl⟩) hw hA (fun p319 H locs hp319 hw => ?_)
          obtain ⟨qf318, rfl, e321, e322, e323, e324, e325, e326, e327, e328, e329, e330, e331, e332, e333, e334, e335⟩ := hp319
          replace e321 : (qf318 2).toInt = (3 : Int) := e321
          replace e322 : (qf318 3).toInt = (0 : Int) := e322
          replace e323 : (qf318 1).toInt = (qf 1).toInt := e323
          replace e324 : (qf318 4).toInt = (qf 4).toInt := e324
          replace e325 : (qf318 5).toInt = (qf 5).toInt := e325
          replace e326 : (qf318 6).toInt = (qf 6).toInt := e326
          replace e327 : (qf318 7).toInt = (qf 7).toInt := e327
          replace e328 : (qf318 10).toInt = (qf 10).toInt := e328
          replace e329 : (qf318 11).toInt = (qf 11).toInt := e329
          replace e330 : (qf318 12).toInt = (qf 12).toInt := e330
          replace e331 : (qf318 13).toInt = (qf 13).toInt := e331
          replace e332 : (qf318 14).toInt = (qf 14).toInt := e332
          replace e333 : (qf318 21).toInt = (qf 21).toInt := e333
          replace e334 : (qf318 23).toInt = (qf 23).toInt := e334
          replace e335 : (qf318 24).toInt = (qf 24).toInt := e335
          replace hw : pw D A s.heap H locs [wd_Mpr cs q qr (fun k => if k = 0 then (some h) else none) qf318 qa qg, wdP cs h r g tf ta pf na ma wa cf ca ef ea xf xa] := hw
          exact px_vret S hr hlk hAe hw (Nat.le_of_ble_eq_true rfl) (Nat.le_of_ble_eq_true rfl) (⟨qf318, qa, rfl, (show TwO (qf318 2).toInt (qf 2).toInt (qf318 10).toInt (qf 10).toInt from (Or.inr ⟨by omega, by omega⟩)), (show (qf318 1).toInt = (qf 1).toInt from by first | exact e323 | omega), (show (qf318 4).toInt = (qf 4).toInt from by first | exact e324 | omega), (show (qf318 5).toInt = (qf 5).toInt from by first | exact e325 | omega), (show (qf318 6).toInt = (qf 6).toInt from by first | exact e326 | omega), (show (qf318 7).toInt = (qf 7).toInt from by first | exact e327 | omega), (show (qf318 11).toInt = (qf 11).toInt from by first | exact e329 | omega), (show (qf318 12).toInt = (qf 12).toInt from by first | exact e330 | omega), (show (qf318 13).toInt = (qf 13).toInt from by first | exact e331 | omega), (show (qf318 14).toInt = (qf 14).toInt from by first | exact e332 | omega), (show (qf318 21).toInt = (qf 21).toInt from by first | exact e333 | omega), (show (qf318 23).toInt = (qf 23).toInt from by first | exact e334 | omega), (show (qf318 24).toInt = (qf 24).toInt from by first | exact e335 | omega), (show WrU qa qa (qf 10).toInt (-1) from WrU.rf)⟩) d_Mpr_two_186
  · have nc293 : v291.toInt = (2 : Int) := (i_eq (x := v291) (y := 2)).mp c293
    refine lv_iload S.x S.b d_Mpr_two_28 (lv_at hl 0 rfl) ?_
    refine lv_bipush (v := 61) S.x S.b d_Mpr_two_30 (by decide) ?_
    refine lv_icmp_ne (tgt := 48) S.x S.b d_Mpr_two_32 (by decide) (fun c336 => ?_) (fun c336 => ?_)
    · have nc336 : ¬ v288.toInt = (61 : Int) := mt (i_eq (x := v288) (y := 61)).mpr c336
      refine lv_iload S.x S.b d_Mpr_two_48 (lv_at hl 0 rfl) ?_
      refine lv_bipush (v := 33) S.x S.b d_Mpr_two_50 (by decide) ?_
      refine lv_icmp_ne (tgt := 68) S.x S.b d_Mpr_two_52 (by decide) (fun c337 => ?_) (fun c337 => ?_)
      · have nc337 : ¬ v288.toInt = (33 : Int) := mt (i_eq (x := v288) (y := 33)).mpr c337
        refine lv_aload S.x S.b d_Mpr_two_68 (lv_at hl 1 rfl) ?_
        refine lv_iconst (v := 1) S.x S.b d_Mpr_two_70 (by decide) ?_
        refine px_calli (pr := [wd_Mpr cs q qr (fun k => if k = 0 then (some h) else none) qf qa qg, wdP cs h r g tf ta pf na ma wa cf ca ef ea xf xa]) (px_runV (As := [.int 1]) (rest := []) S (c_String_charAt l D cs sk284 st285 (mlen p0.toNatClampNeg) sb286 1  (show (mlen p0.toNatClampNeg) ≤ 1000000 from by first | exact oz_f8a16524ad e292 nc293 | omega) (show 0 ≤ (1 : Int) from by first | decide | omega) (show (1 : Int) < ((mlen p0.toNatClampNeg) : Int) from by first | exact oz_a1e339bdbc e292 nc293 | omega) _) hT (pr := [wd_Mpr cs q qr (fun k => if k = 0 then (some h) else none) qf qa qg, wdP cs h r g tf ta pf na ma wa cf ca ef ea xf xa]) (pcs := []) hw (oX_call (P := (fun A U H => (oF A U H) ∧ (oZ A U H) ∧ (oS A sk284 st285 (mlen p0.toNatClampNeg) sb286 U H))) (pr := [wd_Mpr cs q qr (fun k => if k = 0 then (some h) else none) qf qa qg, wdP cs h r g tf ta pf na ma wa cf ca ef ea xf xa]) (oG_and oG_F (oG_and oG_Z oG_S)) hw hA ⟨hF0, hZ, hSsk284⟩) (oS_recv hw hSsk284) m1_68 m14_152 m1_66 m1_67 m1_3 q_String_charAt ⟨Nat.le_of_ble_eq_true rfl, Nat.le_of_ble_eq_true rfl⟩ hl.1 rfl (Nat.le_of_ble_eq_true rfl) d_Mpr_two_71 ⟨Nat.le_of_ble_eq_true rfl, Nat.le_of_ble_eq_true rfl⟩) hw hA (fun v339 p338 H locs hp338 hw => ?_)
        obtain ⟨rfl, e340⟩ := hp338
        replace e340 : narrow .char (.int v339) = .int v339 := e340
        replace hw : pw D A s.heap H locs [wd_Mpr cs q qr (fun k => if k = 0 then (some h) else none) qf qa qg, wdP cs h r g tf ta pf na ma wa cf ca ef ea xf xa] := hw
        have lv339 := Int32.le_toInt v339
        have uv339 := Int32.toInt_lt v339
        refine lv_bipush (v := 61) S.x S.b d_Mpr_two_74 (by decide) ?_
        refine lv_icmp_eq (tgt := 83) S.x S.b d_Mpr_two_76 (by decide) (fun c341 => ?_) (fun c341 => ?_)
        · have nc341 : v339.toInt = (61 : Int) := (i_eq (x := v339) (y := 61)).mp c341
          refine lv_iload S.x S.b d_Mpr_two_83 (lv_at hl 0 rfl) ?_
          refine lv_bipush (v := 60) S.x S.b d_Mpr_two_85 (by decide) ?_
          refine lv_icmp_ne (tgt := 103) S.x S.b d_Mpr_two_87 (by decide) (fun c342 => ?_) (fun c342 => ?_)
          · have nc342 : ¬ v288.toInt = (60 : Int) := mt (i_eq (x := v288) (y := 60)).mpr c342
            refine lv_iload_n S.x S.b d_Mpr_two_103 rfl (lv_at hl 4 rfl) ?_
            refine lv_iload_n S.x S.b d_Mpr_two_104 rfl (lv_at hl 5 rfl) ?_
            refine lv_icmp_lt (tgt := 112) S.x S.b d_Mpr_two_105 (by decide) (fun c343 => ?_) (fun c343 => ?_)
            · have nc343 : p1.toInt < p2.toInt := (i_lt (x := p1) (y := p2)).mp c343
              refine lv_iconst (v := 0) S.x S.b d_Mpr_two_112 (by decide) ?_
              refine lv_istore (lv' := [(6, .int 0), (5, .int v288), (4, .ref sk284), (0, .ref q), (1, .int p0), (2, .int p1), (3, .int p2)]) S.x S.b d_Mpr_two_113 hl (by decide) rfl (fun ls hl => ?_)
              refine lv_aload_n S.x S.b d_Mpr_two_115 rfl (lv_at hl 3 rfl) ?_
              refine lv_aload S.x S.b d_Mpr_two_116 (lv_at hl 2 rfl) ?_
              obtain ⟨sk344, hRsk344, st345, sb346, hSsk344⟩ := oLW_lit hSh (k := 186) (tx := "<<") (n := 2) (by decide)
              refine va_ldcS S.x S.b S.own hRsk344 d_Mpr_two_118 ?_
              refine px_calli (pr := [wd_Mpr cs q qr (fun k => if k = 0 then (some h) else none) qf qa qg, wdP cs h r g tf ta pf na ma wa cf ca ef ea xf xa]) (px_runV (As := [.ref sk344]) (rest := [.ref q]) S (c_sg_equals l D cs sk284 st285 (mlen p0.toNatClampNeg) sb286 sk344 st345 2 sb346   (show (mlen p0.toNatClampNeg) ≤ 1000000 from by first | exact oz_f8a16524ad e292 nc293 | omega) (show 2 ≤ 1000000 from by first | decide | omega) _) hT (pr := [wd_Mpr cs q qr (fun k => if k = 0 then (some h) else none) qf qa qg, wdP cs h r g tf ta pf na ma wa cf ca ef ea xf xa]) (pcs := []) hw (oX_call (P := (fun A U H => (oZ A U H) ∧ (oS A sk284 st285 (mlen p0.toNatClampNeg) sb286 U H) ∧ (oS A sk344 st345 2 sb346 U H))) (pr := [wd_Mpr cs q qr (fun k => if k = 0 then (some h) else none) qf qa qg, wdP cs h r g tf ta pf na ma wa cf ca ef ea xf xa]) (oG_and oG_Z (oG_and oG_S oG_S)) hw hA ⟨hZ, hSsk284, hSsk344⟩) (oS_recv hw hSsk284) m11_225 m14_155 m11_223 m11_224 m1_3 q_String_equals ⟨Nat.le_of_ble_eq_true rfl, Nat.le_of_ble_eq_true rfl⟩ hl.1 rfl (Nat.le_of_ble_eq_true rfl) d_Mpr_two_120 ⟨Nat.le_of_ble_eq_true rfl, Nat.le_of_ble_eq_true rfl⟩) hw hA (fun v348 p347 H locs hp347 hw => ?_)
              obtain ⟨rfl, e349⟩ := hp347
              have e349 := z_rng e349
              replace hw : pw D A s.heap H locs [wd_Mpr cs q qr (fun k => if k = 0 then (some h) else none) qf qa qg, wdP cs h r g tf ta pf na ma wa cf ca ef ea xf xa] := hw
              have lv348 := Int32.le_toInt v348
              have uv348 := Int32.toInt_lt v348
              refine lv_if_eq (tgt := 132) S.x S.b d_Mpr_two_123 (by decide) (fun c350 => ?_) (fun c350 => ?_)
              · have nc350 : v348.toInt = (0 : Int) := (i_eq (x := v348) (y := 0)).mp c350
                refine lv_aload S.x S.b d_Mpr_two_132 (lv_at hl 2 rfl) ?_
                obtain ⟨sk351, hRsk351, st352, sb353, hSsk351⟩ := oLW_lit hSh (k := 192) (tx := ">>") (n := 2) (by decide)
                refine va_ldcS S.x S.b S.own hRsk351 d_Mpr_two_134 ?_
                refine px_calli (pr := [wd_Mpr cs q qr (fun k => if k = 0 then (some h) else none) qf qa qg, wdP cs h r g tf ta pf na ma wa cf ca ef ea xf xa]) (px_runV (As := [.ref sk351]) (rest := [.ref q]) S (c_sg_equals l D cs sk284 st285 (mlen p0.toNatClampNeg) sb286 sk351 st352 2 sb353   (show (mlen p0.toNatClampNeg) ≤ 1000000 from by first | exact oz_f8a16524ad e292 nc293 | omega) (show 2 ≤ 1000000 from by first | decide | omega) _) hT (pr := [wd_Mpr cs q qr (fun k => if k = 0 then (some h) else none) qf qa qg, wdP cs h r g tf ta pf na ma wa cf ca ef ea xf xa]) (pcs := []) hw (oX_call (P := (fun A U H => (oZ A U H) ∧ (oS A sk284 st285 (mlen p0.toNatClampNeg) sb286 U H) ∧ (oS A sk351 st352 2 sb353 U H))) (pr := [wd_Mpr cs q qr (fun k => if k = 0 then (some h) else none) qf qa qg, wdP cs h r g tf ta pf na ma wa cf ca ef ea xf xa]) (oG_and oG_Z (oG_and oG_S oG_S)) hw hA ⟨hZ, hSsk284, hSsk351⟩) (oS_recv hw hSsk284) m11_225 m14_155 m11_223 m11_224 m1_3 q_String_equals ⟨Nat.le_of_ble_eq_true rfl, Nat.le_of_ble_eq_true rfl⟩ hl.1 rfl (Nat.le_of_ble_eq_true rfl) d_Mpr_two_136 ⟨Nat.le_of_ble_eq_true rfl, Nat.le_of_ble_eq_true rfl⟩) hw hA (fun v355 p354 H locs hp354 hw => ?_)
                obtain ⟨rfl, e356⟩ := hp354
                have e356 := z_rng e356
                replace hw : pw D A s.heap H locs [wd_Mpr cs q qr (fun k => if k = 0 then (some h) else none) qf qa qg, wdP cs h r g tf ta pf na ma wa cf ca ef ea xf xa] := hw
                have lv355 := Int32.le_toInt v355
                have uv355 := Int32.toInt_lt v355
                refine lv_if_eq (tgt := 148) S.x S.b d_Mpr_two_139 (by decide) (fun c357 => ?_) (fun c357 => ?_)
                · have nc357 : v355.toInt = (0 : Int) := (i_eq (x := v355) (y := 0)).mp c357
                  refine lv_iload S.x S.b d_Mpr_two_148 (lv_at hl 0 rfl) ?_
                  refine lv_if_eq (tgt := 157) S.x S.b d_Mpr_two_150 (by decide) (fun c358 => ?_) (fun c358 => ?_)
                  ·
                    refine lv_iconst (v := 0) S.x S.b d_Mpr_two_157 (by decide) ?_
                    refine px_callv (pr := []) (px_runV (As := [.int 0]) (rest := []) S (c_mr_give l D cs nf q qr qg qf qa h r g tf ta pf na ma wa cf ca ef ea xf xa 0  (show 0 ≤ (qf 10).toInt from by first | exact g2 | omega) (show (qf 10).toInt < 62500 from by first | exact oz_7621ce4cd5 g3 | omega) _) hT (pr := []) (pcs := [wd_Mpr cs q qr (fun k => if k = 0 then (some h) else none) qf qa qg, wdP cs h r g tf ta pf na ma wa cf ca ef ea xf xa]) hw (oX_call (P := (fun A U H => (oP A g U H))) (pr := []) oG_P hw hA hP) (px_recv hT hw 0 0 rfl rfl rfl) m13_161 m13_158 m13_159 m13_160 m1_22 q_Mpr_give ⟨Nat.le_of_ble_eq_true rfl, Nat.le_of_ble_eq_true rfl⟩ hl.1 rfl (Nat.le_of_ble_eq_true rfl) d_Mpr_two_158 ⟨Nat.le_of_ble_eq_true rfl, Nat.le_of_ble_eq_true rfl⟩) hw hA (fun p363 H locs hp363 hw => ?_)
                    obtain ⟨qf361, qa362, rfl, e365, e366, e367, e368, e369, e370, e371, e372, e373, e374, e375, e376, e377, e378, e379, e380⟩ := hp363
                    replace e365 : (qf361 10).toInt = (qf 10).toInt + 1 := e365
                    replace e366 : (qf361 1).toInt = (qf 1).toInt := e366
                    replace e367 : (qf361 2).toInt = (qf 2).toInt := e367
                    replace e368 : (qf361 3).toInt = (qf 3).toInt := e368
                    replace e369 : (qf361 4).toInt = (qf 4).toInt := e369
                    replace e370 : (qf361 5).toInt = (qf 5).toInt := e370
                    replace e371 : (qf361 6).toInt = (qf 6).toInt := e371
                    replace e372 : (qf361 7).toInt = (qf 7).toInt := e372
                    replace e373 : (qf361 11).toInt = (qf 11).toInt := e373
                    replace e374 : (qf361 12).toInt = (qf 12).toInt := e374
                    replace e375 : (qf361 13).toInt = (qf 13).toInt := e375
                    replace e376 : (qf361 14).toInt = (qf 14).toInt := e376
                    replace e377 : (qf361 21).toInt = (qf 21).toInt := e377
                    replace e378 : (qf361 23).toInt = (qf 23).toInt := e378
                    replace e379 : (qf361 24).toInt = (qf 24).toInt := e379
                    replace e380 : NuU qa qa362 9 (qf 10).toInt (0 : Int32) := e380
                    skip
                    replace hw : pw D A s.heap H locs [wd_Mpr cs q qr (fun k => if k = 0 then (some h) else none) qf361 qa362 qg, wdP cs h r g tf ta pf na ma wa cf ca ef ea xf xa] := hw
                    exact px_vret S hr hlk hAe hw (Nat.le_of_ble_eq_true rfl) (Nat.le_of_ble_eq_true rfl) (⟨qf361, qa362, rfl, (show TwO (qf361 2).toInt (qf 2).toInt (qf361 10).toInt (qf 10).toInt from (Or.inl ⟨by omega, by omega⟩)), (show (qf361 1).toInt = (qf 1).toInt from by first | exact e366 | omega), (show (qf361 4).toInt = (qf 4).toInt from by first | exact e369 | omega), (show (qf361 5).toInt = (qf 5).toInt from by first | exact e370 | omega), (show (qf361 6).toInt = (qf 6).toInt from by first | exact e371 | omega), (show (qf361 7).toInt = (qf 7).toInt from by first | exact e372 | omega), (show (qf361 11).toInt = (qf 11).toInt from by first | exact e373 | omega), (show (qf361 12).toInt = (qf 12).toInt from by first | exact e374 | omega), (show (qf361 13).toInt = (qf 13).toInt from by first | exact e375 | omega), (show (qf361 14).toInt = (qf 14).toInt from by first | exact e376 | omega), (show (qf361 21).toInt = (qf 21).toInt from by first | exact e377 | omega), (show (qf361 23).toInt = (qf 23).toInt from by first | exact e378 | omega), (show (qf361 24).toInt = (qf 24).toInt from by first | exact e379 | omega), (show WrU qa qa362 (qf 10).toInt (-1) from e380.w)⟩) d_Mpr_two_161
                  · exact absurd c358 (by decide)
                · have nc357 : ¬ v355.toInt = (0 : Int) := mt (i_eq (x := v355) (y := 0)).mpr c357
                  refine lv_iload_n S.x S.b d_Mpr_two_142 rfl (lv_at hl 5 rfl) ?_
                  refine lv_iload_n S.x S.b d_Mpr_two_143 rfl (lv_at hl 6 rfl) ?_
                  refine lv_ishr S.x S.b d_Mpr_two_144 ?_
                  refine lv_topi (fun z381 ez381 => ?_)
                  have lz381 := Int32.le_toInt z381
                  have uz381 := Int32.toInt_lt z381
                  refine lv_goto (tgt := 158) S.x S.b d_Mpr_two_145 (by decide) ?_
                  refine px_callv (pr := []) (px_runV (As := [.int z381]) (rest := []) S (c_mr_give l D cs nf q qr qg qf qa h r g tf ta pf na ma wa cf ca ef ea xf xa z381  (show 0 ≤ (qf 10).toInt from by first | exact g2 | omega) (show (qf 10).toInt < 62500 from by first | exact oz_7621ce4cd5 g3 | omega) _) hT (pr := []) (pcs := [wd_Mpr cs q qr (fun k => if k = 0 then (some h) else none) qf qa qg, wdP cs h r g tf ta pf na ma wa cf ca ef ea xf xa]) hw (oX_call (P := (fun A U H => (oP A g U H))) (pr := []) oG_P hw hA hP) (px_recv hT hw 0 0 rfl rfl rfl) m13_161 m13_158 m13_159 m13_160 m1_22 q_Mpr_give ⟨Nat.le_of_ble_eq_true rfl, Nat.le_of_ble_eq_true rfl⟩ hl.1 rfl (Nat.le_of_ble_eq_true rfl) d_Mpr_two_158 ⟨Nat.le_of_ble_eq_true rfl, Nat.le_of_ble_eq_true rfl⟩) hw hA (fun p386 H locs hp386 hw => ?_)
                  obtain ⟨qf384, qa385, rfl, e388, e389, e390, e391, e392, e393, e394, e395, e396, e397, e398, e399, e400, e401, e402, e403⟩ := hp386
                  replace e388 : (qf384 10).toInt = (qf 10).toInt + 1 := e388
                  replace e389 : (qf384 1).toInt = (qf 1).toInt := e389
                  replace e390 : (qf384 2).toInt = (qf 2).toInt := e390
                  replace e391 : (qf384 3).toInt = (qf 3).toInt := e391
                  replace e392 : (qf384 4).toInt = (qf 4).toInt := e392
                  replace e393 : (qf384 5).toInt = (qf 5).toInt := e393
                  replace e394 : (qf384 6).toInt = (qf 6).toInt := e394
                  replace e395 : (qf384 7).toInt = (qf 7).toInt := e395
                  replace e396 : (qf384 11).toInt = (qf 11).toInt := e396
                  replace e397 : (qf384 12).toInt = (qf 12).toInt := e397
                  replace e398 : (qf384 13).toInt = (qf 13).toInt := e398
                  replace e399 : (qf384 14).toInt = (qf 14).toInt := e399
                  replace e400 : (qf384 21).toInt = (qf 21).toInt := e400
                  replace e401 : (qf384 23).toInt = (qf 23).toInt := e401
                  replace e402 : (qf384 24).toInt = (qf 24).toInt := e402
                  replace e403 : NuU qa qa385 9 (qf 10).toInt z381 := e403
                  skip
                  replace hw : pw D A s.heap H locs [wd_Mpr cs q qr (fun k => if k = 0 then (some h) else none) qf384 qa385 qg, wdP cs h r g tf ta pf na ma wa cf ca ef ea xf xa] := hw
                  exact px_vret S hr hlk hAe hw (Nat.le_of_ble_eq_true rfl) (Nat.le_of_ble_eq_true rfl) (⟨qf384, qa385, rfl, (show TwO (qf384 2).toInt (qf 2).toInt (qf384 10).toInt (qf 10).toInt from (Or.inl ⟨by omega, by omega⟩)), (show (qf384 1).toInt = (qf 1).toInt from by first | exact e389 | omega), (show (qf384 4).toInt = (qf 4).toInt from by first | exact e392 | omega), (show (qf384 5).toInt = (qf 5).toInt from by first | exact e393 | omega), (show (qf384 6).toInt = (qf 6).toInt from by first | exact e394 | omega), (show (qf384 7).toInt = (qf 7).toInt from by first | exact e395 | omega), (show (qf384 11).toInt = (qf 11).toInt from by first | exact e396 | omega), (show (qf384 12).toInt = (qf 12).toInt from by first | exact e397 | omega), (show (qf384 13).toInt = (qf 13).toInt from by first | exact e398 | omega), (show (qf384 14).toInt = (qf 14).toInt from by first | exact e399 | omega), (show (qf384 21).toInt = (qf 21).toInt from by first | exact e400 | omega), (show (qf384 23).toInt = (qf 23).toInt from by first | exact e401 | omega), (show (qf384 24).toInt = (qf 24).toInt from by first | exact e402 | omega), (show WrU qa qa385 (qf 10).toInt (-1) from e403.w)⟩) d_Mpr_two_161
              · have nc350 : ¬ v348.toInt = (0 : Int) := mt (i_eq (x := v348) (y := 0)).mpr c350
                refine lv_iload_n S.x S.b d_Mpr_two_126 rfl (lv_at hl 5 rfl) ?_
                refine lv_iload_n S.x S.b d_Mpr_two_127 rfl (lv_at hl 6 rfl) ?_
                refine lv_ishl S.x S.b d_Mpr_two_128 ?_
                refine lv_topi (fun z404 ez404 => ?_)
                have lz404 := Int32.le_toInt z404
                have uz404 := Int32.toInt_lt z404
                refine lv_goto (tgt := 158) S.x S.b d_Mpr_two_129 (by decide) ?_
                refine px_callv (pr := []) (px_runV (As := [.int z404]) (rest := []) S (c_mr_give l D cs nf q qr qg qf qa h r g tf ta pf na ma wa cf ca ef ea xf xa z404  (show 0 ≤ (qf 10).toInt from by first | exact g2 | omega) (show (qf 10).toInt < 62500 from by first | exact oz_7621ce4cd5 g3 | omega) _) hT (pr := []) (pcs := [wd_Mpr cs q qr (fun k => if k = 0 then (some h) else none) qf qa qg, wdP cs h r g tf ta pf na ma wa cf ca ef ea xf xa]) hw (oX_call (P := (fun A U H => (oP A g U H))) (pr := []) oG_P hw hA hP) (px_recv hT hw 0 0 rfl rfl rfl) m13_161 m13_158 m13_159 m13_160 m1_22 q_Mpr_give ⟨Nat.le_of_ble_eq_true rfl, Nat.le_of_ble_eq_true rfl⟩ hl.1 rfl (Nat.le_of_ble_eq_true rfl) d_Mpr_two_158 ⟨Nat.le_of_ble_eq_true rfl, Nat.le_of_ble_eq_true rfl⟩) hw hA (fun p409 H locs hp409 hw => ?_)
                obtain ⟨qf407, qa408, rfl, e411, e412, e413, e414, e415, e416, e417, e418, e419, e420, e421, e422, e423, e424, e425, e426⟩ := hp409
                replace e411 : (qf407 10).toInt = (qf 10).toInt + 1 := e411
                replace e412 : (qf407 1).toInt = (qf 1).toInt := e412
                replace e413 : (qf407 2).toInt = (qf 2).toInt := e413
                replace e414 : (qf407 3).toInt = (qf 3).toInt := e414
                replace e415 : (qf407 4).toInt = (qf 4).toInt := e415
                replace e416 : (qf407 5).toInt = (qf 5).toInt := e416
                replace e417 : (qf407 6).toInt = (qf 6).toInt := e417
                replace e418 : (qf407 7).toInt = (qf 7).toInt := e418
                replace e419 : (qf407 11).toInt = (qf 11).toInt := e419
                replace e420 : (qf407 12).toInt = (qf 12).toInt := e420
                replace e421 : (qf407 13).toInt = (qf 13).toInt := e421
                replace e422 : (qf407 14).toInt = (qf 14).toInt := e422
                replace e423 : (qf407 21).toInt = (qf 21).toInt := e423
                replace e424 : (qf407 23).toInt = (qf 23).toInt := e424
                replace e425 : (qf407 24).toInt = (qf 24).toInt := e425
                replace e426 : NuU qa qa408 9 (qf 10).toInt z404 := e426
                skip
                replace hw : pw D A s.heap H locs [wd_Mpr cs q qr (fun k => if k = 0 then (some h) else none) qf407 qa408 qg, wdP cs h r g tf ta pf na ma wa cf ca ef ea xf xa] := hw
                exact px_vret S hr hlk hAe hw (Nat.le_of_ble_eq_true rfl) (Nat.le_of_ble_eq_true rfl) (⟨qf407, qa408, rfl, (show TwO (qf407 2).toInt (qf 2).toInt (qf407 10).toInt (qf 10).toInt from (Or.inl ⟨by omega, by omega⟩)), (show (qf407 1).toInt = (qf 1).toInt from by first | exact e412 | omega), (show (qf407 4).toInt = (qf 4).toInt from by first | exact e415 | omega), (show (qf407 5).toInt = (qf 5).toInt from by first | exact e416 | omega), (show (qf407 6).toInt = (qf 6).toInt from by first | exact e417 | omega), (show (qf407 7).toInt = (qf 7).toInt from by first | exact e418 | omega), (show (qf407 11).toInt = (qf 11).toInt from by first | exact e419 | omega), (show (qf407 12).toInt = (qf 12).toInt from by first | exact e420 | omega), (show (qf407 13).toInt = (qf 13).toInt from by first | exact e421 | omega), (show (qf407 14).toInt = (qf 14).toInt from by first | exact e422 | omega), (show (qf407 21).toInt = (qf 21).toInt from by first | exact e423 | omega), (show (qf407 23).toInt = (qf 23).toInt from by first | exact e424 | omega), (show (qf407 24).toInt = (qf 24).toInt from by first | exact e425 | omega), (show WrU qa qa408 (qf 10).toInt (-1) from e426.w)⟩) d_Mpr_two_161
            · have nc343 : ¬ p1.toInt < p2.toInt := mt (i_lt (x := p1) (y := p2)).mpr c343
              refine lv_iconst (v := 1) S.x S.b d_Mpr_two_108 (by decide) ?_
              refine lv_goto (tgt := 113) S.x S.b d_Mpr_two_109 (by decide) ?_
              refine lv_istore (lv' := [(6, .int 1), (5, .int v288), (4, .ref sk284), (0, .ref q), (1, .int p0), (2, .int p1), (3, .int p2)]) S.x S.b d_Mpr_two_113 hl (by decide) rfl (fun ls hl => ?_)
              refine lv_aload_n S.x S.b d_Mpr_two_115 rfl (lv_at hl 3 rfl) ?_
              refine lv_aload S.x S.b d_Mpr_two_116 (lv_at hl 2 rfl) ?_
              obtain ⟨sk427, hRsk427, st428, sb429, hSsk427⟩ := oLW_lit hSh (k := 186) (tx := "<<") (n := 2) (by decide)
              refine va_ldcS S.x S.b S.own hRsk427 d_Mpr_two_118 ?_
              refine px_calli (pr := [wd_Mpr cs q qr (fun k => if k = 0 then (some h) else none) qf qa qg, wdP cs h r g tf ta pf na ma wa cf ca ef ea xf xa]) (px_runV (As := [.ref sk427]) (rest := [.ref q]) S (c_sg_equals l D cs sk284 st285 (mlen p0.toNatClampNeg) sb286 sk427 st428 2 sb429   (show (mlen p0.toNatClampNeg) ≤ 1000000 from by first | exact oz_f8a16524ad e292 nc293 | omega) (show 2 ≤ 1000000 from by first | decide | omega) _) hT (pr := [wd_Mpr cs q qr (fun k => if k = 0 then (some h) else none) qf qa qg, wdP cs h r g tf ta pf na ma wa cf ca ef ea xf xa]) (pcs := []) hw (oX_call (P := (fun A U H => (oZ A U H) ∧ (oS A sk284 st285 (mlen p0.toNatClampNeg) sb286 U H) ∧ (oS A sk427 st428 2 sb429 U H))) (pr := [wd_Mpr cs q qr (fun k => if k = 0 then (some h) else none) qf qa qg, wdP cs h r g tf ta pf na ma wa cf ca ef ea xf xa]) (oG_and oG_Z (oG_and oG_S oG_S)) hw hA ⟨hZ, hSsk284, hSsk427⟩) (oS_recv hw hSsk284) m11_225 m14_155 m11_223 m11_224 m1_3 q_String_equals ⟨Nat.le_of_ble_eq_true rfl, Nat.le_of_ble_eq_true rfl⟩ hl.1 rfl (Nat.le_of_ble_eq_true rfl) d_Mpr_two_120 ⟨Nat.le_of_ble_eq_true rfl, Nat.le_of_ble_eq_true rfl⟩) hw hA (fun v431 p430 H locs hp430 hw => ?_)
              obtain ⟨rfl, e432⟩ := hp430
              have e432 := z_rng e432
              replace hw : pw D A s.heap H locs [wd_Mpr cs q qr (fun k => if k = 0 then (some h) else none) qf qa qg, wdP cs h r g tf ta pf na ma wa cf ca ef ea xf xa] := hw
              have lv431 := Int32.le_toInt v431
              have uv431 := Int32.toInt_lt v431
              refine lv_if_eq (tgt := 132) S.x S.b d_Mpr_two_123 (by decide) (fun c433 => ?_) (fun c433 => ?_)
              · have nc433 : v431.toInt = (0 : Int) := (i_eq (x := v431) (y := 0)).mp c433
                refine lv_aload S.x S.b d_Mpr_two_132 (lv_at hl 2 rfl) ?_
                obtain ⟨sk434, hRsk434, st435, sb436, hSsk434⟩ := oLW_lit hSh (k := 192) (tx := ">>") (n := 2) (by decide)
                refine va_ldcS S.x S.b S.own hRsk434 d_Mpr_two_134 ?_
                refine px_calli (pr := [wd_Mpr cs q qr (fun k => if k = 0 then (some h) else none) qf qa qg, wdP cs h r g tf ta pf na ma wa cf ca ef ea xf xa]) (px_runV (As := [.ref sk434]) (rest := [.ref q]) S (c_sg_equals l D cs sk284 st285 (mlen p0.toNatClampNeg) sb286 sk434 st435 2 sb436   (show (mlen p0.toNatClampNeg) ≤ 1000000 from by first | exact oz_f8a16524ad e292 nc293 | omega) (show 2 ≤ 1000000 from by first | decide | omega) _) hT (pr := [wd_Mpr cs q qr (fun k => if k = 0 then (some h) else none) qf qa qg, wdP cs h r g tf ta pf na ma wa cf ca ef ea xf xa]) (pcs := []) hw (oX_call (P := (fun A U H => (oZ A U H) ∧ (oS A sk284 st285 (mlen p0.toNatClampNeg) sb286 U H) ∧ (oS A sk434 st435 2 sb436 U H))) (pr := [wd_Mpr cs q qr (fun k => if k = 0 then (some h) else none) qf qa qg, wdP cs h r g tf ta pf na ma wa cf ca ef ea xf xa]) (oG_and oG_Z (oG_and oG_S oG_S)) hw hA ⟨hZ, hSsk284, hSsk434⟩) (oS_recv hw hSsk284) m11_225 m14_155 m11_223 m11_224 m1_3 q_String_equals ⟨Nat.le_of_ble_eq_true rfl, Nat.le_of_ble_eq_true rfl⟩ hl.1 rfl (Nat.le_of_ble_eq_true rfl) d_Mpr_two_136 ⟨Nat.le_of_ble_eq_true rfl, Nat.le_of_ble_eq_true rfl⟩) hw hA (fun v438 p437 H locs hp437 hw => ?_)
                obtain ⟨rfl, e439⟩ := hp437
                have e439 := z_rng e439
                replace hw : pw D A s.heap H locs [wd_Mpr cs q qr (fun k => if k = 0 then (some h) else none) qf qa qg, wdP cs h r g tf ta pf na ma wa cf ca ef ea xf xa] := hw
                have lv438 := Int32.le_toInt v438
                have uv438 := Int32.toInt_lt v438
                refine lv_if_eq (tgt := 148) S.x S.b d_Mpr_two_139 (by decide) (fun c440 => ?_) (fun c440 => ?_)
                · have nc440 : v438.toInt = (0 : Int) := (i_eq (x := v438) (y := 0)).mp c440
                  refine lv_iload S.x S.b d_Mpr_two_148 (lv_at hl 0 rfl) ?_
                  refine lv_if_eq (tgt := 157) S.x S.b d_Mpr_two_150 (by decide) (fun c441 => ?_) (fun c441 => ?_)
                  · exact absurd c441 (by decide)
                  ·
                    refine lv_iconst (v := 1) S.x S.b d_Mpr_two_153 (by decide) ?_
                    refine lv_goto (tgt := 158) S.x S.b d_Mpr_two_154 (by decide) ?_
                    refine px_callv (pr := []) (px_runV (As := [.int 1]) (rest := []) S (c_mr_give l D cs nf q qr qg qf qa h r g tf ta pf na ma wa cf ca ef ea xf xa 1  (show 0 ≤ (qf 10).toInt from by first | exact g2 | omega) (show (qf 10).toInt < 62500 from by first | exact oz_7621ce4cd5 g3 | omega) _) hT (pr := []) (pcs := [wd_Mpr cs q qr (fun k => if k = 0 then (some h) else none) qf qa qg, wdP cs h r g tf ta pf na ma wa cf ca ef ea xf xa]) hw (oX_call (P := (fun A U H => (oP A g U H))) (pr := []) oG_P hw hA hP) (px_recv hT hw 0 0 rfl rfl rfl) m13_161 m13_158 m13_159 m13_160 m1_22 q_Mpr_give ⟨Nat.le_of_ble_eq_true rfl, Nat.le_of_ble_eq_true rfl⟩ hl.1 rfl (Nat.le_of_ble_eq_true rfl) d_Mpr_two_158 ⟨Nat.le_of_ble_eq_true rfl, Nat.le_of_ble_eq_true rfl⟩) hw hA (fun p446 H locs hp446 hw => ?_)
                    obtain ⟨qf444, qa445, rfl, e448, e449, e450, e451, e452, e453, e454, e455, e456, e457, e458, e459, e460, e461, e462, e463⟩ := hp446
                    replace e448 : (qf444 10).toInt = (qf 10).toInt + 1 := e448
                    replace e449 : (qf444 1).toInt = (qf 1).toInt := e449
                    replace e450 : (qf444 2).toInt = (qf 2).toInt := e450
                    replace e451 : (qf444 3).toInt = (qf 3).toInt := e451
                    replace e452 : (qf444 4).toInt = (qf 4).toInt := e452
                    replace e453 : (qf444 5).toInt = (qf 5).toInt := e453
                    replace e454 : (qf444 6).toInt = (qf 6).toInt := e454
                    replace e455 : (qf444 7).toInt = (qf 7).toInt := e455
                    replace e456 : (qf444 11).toInt = (qf 11).toInt := e456
                    replace e457 : (qf444 12).toInt = (qf 12).toInt := e457
                    replace e458 : (qf444 13).toInt = (qf 13).toInt := e458
                    replace e459 : (qf444 14).toInt = (qf 14).toInt := e459
                    replace e460 : (qf444 21).toInt = (qf 21).toInt := e460
                    replace e461 : (qf444 23).toInt = (qf 23).toInt := e461
                    replace e462 : (qf444 24).toInt = (qf 24).toInt := e462
                    replace e463 : NuU qa qa445 9 (qf 10).toInt (1 : Int32) := e463
                    skip
                    replace hw : pw D A s.heap H locs [wd_Mpr cs q qr (fun k => if k = 0 then (some h) else none) qf444 qa445 qg, wdP cs h r g tf ta pf na ma wa cf ca ef ea xf xa] := hw
                    exact px_vret S hr hlk hAe hw (Nat.le_of_ble_eq_true rfl) (Nat.le_of_ble_eq_true rfl) (⟨qf444, qa445, rfl, (show TwO (qf444 2).toInt (qf 2).toInt (qf444 10).toInt (qf 10).toInt from (Or.inl ⟨by omega, by omega⟩)), (show (qf444 1).toInt = (qf 1).toInt from by first | exact e449 | omega), (show (qf444 4).toInt = (qf 4).toInt from by first | exact e452 | omega), (show (qf444 5).toInt = (qf 5).toInt from by first | exact e453 | omega), (show (qf444 6).toInt = (qf 6).toInt from by first | exact e454 | omega), (show (qf444 7).toInt = (qf 7).toInt from by first | exact e455 | omega), (show (qf444 11).toInt = (qf 11).toInt from by first | exact e456 | omega), (show (qf444 12).toInt = (qf 12).toInt from by first | exact e457 | omega), (show (qf444 13).toInt = (qf 13).toInt from by first | exact e458 | omega), (show (qf444 14).toInt = (qf 14).toInt from by first | exact e459 | omega), (show (qf444 21).toInt = (qf 21).toInt from by first | exact e460 | omega), (show (qf444 23).toInt = (qf 23).toInt from by first | exact e461 | omega), (show (qf444 24).toInt = (qf 24).toInt from by first | exact e462 | omega), (show WrU qa qa445 (qf 10).toInt (-1) from e463.w)⟩) d_Mpr_two_161
                · have nc440 : ¬ v438.toInt = (0 : Int) := mt (i_eq (x := v438) (y := 0)).mpr c440
                  refine lv_iload_n S.x S.b d_Mpr_two_142 rfl (lv_at hl 5 rfl) ?_
                  refine lv_iload_n S.x S.b d_Mpr_two_143 rfl (lv_at hl 6 rfl) ?_
                  refine lv_ishr S.x S.b d_Mpr_two_144 ?_
                  refine lv_topi (fun z464 ez464 => ?_)
                  have lz464 := Int32.le_toInt z464
                  have uz464 := Int32.toInt_lt z464
                  refine lv_goto (tgt := 158) S.x S.b d_Mpr_two_145 (by decide) ?_
                  refine px_callv (pr := []) (px_runV (As := [.int z464]) (rest := []) S (c_mr_give l D cs nf q qr qg qf qa h r g tf ta pf na ma wa cf ca ef ea xf xa z464  (show 0 ≤ (qf 10).toInt from by first | exact g2 | omega) (show (qf 10).toInt < 62500 from by first | exact oz_7621ce4cd5 g3 | omega) _) hT (pr := []) (pcs := [wd_Mpr cs q qr (fun k => if k = 0 then (some h) else none) qf qa qg, wdP cs h r g tf ta pf na ma wa cf ca ef ea xf xa]) hw (oX_call (P := (fun A U H => (oP A g U H))) (pr := []) oG_P hw hA hP) (px_recv hT hw 0 0 rfl rfl rfl) m13_161 m13_158 m13_159 m13_160 m1_22 q_Mpr_give ⟨Nat.le_of_ble_eq_true rfl, Nat.le_of_ble_eq_true rfl⟩ hl.1 rfl (Nat.le_of_ble_eq_true rfl) d_Mpr_two_158 ⟨Nat.le_of_ble_eq_true rfl, Nat.le_of_ble_eq_true rfl⟩) hw hA (fun p469 H locs hp469 hw => ?_)
                  obtain ⟨qf467, qa468, rfl, e471, e472, e473, e474, e475, e476, e477, e478, e479, e480, e481, e482, e483, e484, e485, e486⟩ := hp469
                  replace e471 : (qf467 10).toInt = (qf 10).toInt + 1 := e471
                  replace e472 : (qf467 1).toInt = (qf 1).toInt := e472
                  replace e473 : (qf467 2).toInt = (qf 2).toInt := e473
                  replace e474 : (qf467 3).toInt = (qf 3).toInt := e474
                  replace e475 : (qf467 4).toInt = (qf 4).toInt := e475
                  replace e476 : (qf467 5).toInt = (qf 5).toInt := e476
                  replace e477 : (qf467 6).toInt = (qf 6).toInt := e477
                  replace e478 : (qf467 7).toInt = (qf 7).toInt := e478
                  replace e479 : (qf467 11).toInt = (qf 11).toInt := e479
                  replace e480 : (qf467 12).toInt = (qf 12).toInt := e480
                  replace e481 : (qf467 13).toInt = (qf 13).toInt := e481
                  replace e482 : (qf467 14).toInt = (qf 14).toInt := e482
                  replace e483 : (qf467 21).toInt = (qf 21).toInt := e483
                  replace e484 : (qf467 23).toInt = (qf 23).toInt := e484
                  replace e485 : (qf467 24).toInt = (qf 24).toInt := e485
                  replace e486 : NuU qa qa468 9 (qf 10).toInt z464 := e486
                  skip
                  replace hw : pw D A s.heap H locs [wd_Mpr cs q qr (fun k => if k = 0 then (some h) else none) qf467 qa468 qg, wdP cs h r g tf ta pf na ma wa cf ca ef ea xf xa] := hw
                  exact px_vret S hr hlk hAe hw (Nat.le_of_ble_eq_true rfl) (Nat.le_of_ble_eq_true rfl) (⟨qf467, qa468, rfl, (show TwO (qf467 2).toInt (qf 2).toInt (qf467 10).toInt (qf 10).toInt from (Or.inl ⟨by omega, by omega⟩)), (show (qf467 1).toInt = (qf 1).toInt from by first | exact e472 | omega), (show (qf467 4).toInt = (qf 4).toInt from by first | exact e475 | omega), (show (qf467 5).toInt = (qf 5).toInt from by first | exact e476 | omega), (show (qf467 6).toInt = (qf 6).toInt from by first | exact e477 | omega), (show (qf467 7).toInt = (qf 7).toInt from by first | exact e478 | omega), (show (qf467 11).toInt = (qf 11).toInt from by first | exact e479 | omega), (show (qf467 12).toInt = (qf 12).toInt from by first | exact e480 | omega), (show (qf467 13).toInt = (qf 13).toInt from by first | exact e481 | omega), (show (qf467 14).toInt = (qf 14).toInt from by first | exact e482 | omega), (show (qf467 21).toInt = (qf 21).toInt from by first | exact e483 | omega), (show (qf467 23).toInt = (qf 23).toInt from by first | exact e484 | omega), (show (qf467 24).toInt = (qf 24).toInt from by first | exact e485 | omega), (show WrU qa qa468 (qf 10).toInt (-1) from e486.w)⟩) d_Mpr_two_161
              · have nc433 : ¬ v431.toInt = (0 : Int) := mt (i_eq (x := v431) (y := 0)).mpr c433
                refine lv_iload_n S.x S.b d_Mpr_two_126 rfl (lv_at hl 5 rfl) ?_
                refine lv_iload_n S.x S.b d_Mpr_two_127 rfl (lv_at hl 6 rfl) ?_
                refine lv_ishl S.x S.b d_Mpr_two_128 ?_
                refine lv_topi (fun z487 ez487 => ?_)
                have lz487 := Int32.le_toInt z487
                have uz487 := Int32.toInt_lt z487
                refine lv_goto (tgt := 158) S.x S.b d_Mpr_two_129 (by decide) ?_
                refine px_callv (pr := []) (px_runV (As := [.int z487]) (rest := []) S (c_mr_give l D cs nf q qr qg qf qa h r g tf ta pf na ma wa cf ca ef ea xf xa z487  (show 0 ≤ (qf 10).toInt from by first | exact g2 | omega) (show (qf 10).toInt < 62500 from by first | exact oz_7621ce4cd5 g3 | omega) _) hT (pr := []) (pcs := [wd_Mpr cs q qr (fun k => if k = 0 then (some h) else none) qf qa qg, wdP cs h r g tf ta pf na ma wa cf ca ef ea xf xa]) hw (oX_call (P := (fun A U H => (oP A g U H))) (pr := []) oG_P hw hA hP) (px_recv hT hw 0 0 rfl rfl rfl) m13_161 m13_158 m13_159 m13_160 m1_22 q_Mpr_give ⟨Nat.le_of_ble_eq_true rfl, Nat.le_of_ble_eq_true rfl⟩ hl.1 rfl (Nat.le_of_ble_eq_true rfl) d_Mpr_two_158 ⟨Nat.le_of_ble_eq_true rfl, Nat.le_of_ble_eq_true rfl⟩) hw hA (fun p492 H locs hp492 hw => ?_)
                obtain ⟨qf490, qa491, rfl, e494, e495, e496, e497, e498, e499, e500, e501, e502, e503, e504, e505, e506, e507, e508, e509⟩ := hp492
                replace e494 : (qf490 10).toInt = (qf 10).toInt + 1 := e494
                replace e495 : (qf490 1).toInt = (qf 1).toInt := e495
                replace e496 : (qf490 2).toInt = (qf 2).toInt := e496
                replace e497 : (qf490 3).toInt = (qf 3).toInt := e497
                replace e498 : (qf490 4).toInt = (qf 4).toInt := e498
                replace e499 : (qf490 5).toInt = (qf 5).toInt := e499
                replace e500 : (qf490 6).toInt = (qf 6).toInt := e500
                replace e501 : (qf490 7).toInt = (qf 7).toInt := e501
                replace e502 : (qf490 11).toInt = (qf 11).toInt := e502
                replace e503 : (qf490 12).toInt = (qf 12).toInt := e503
                replace e504 : (qf490 13).toInt = (qf 13).toInt := e504
                replace e505 : (qf490 14).toInt = (qf 14).toInt := e505
                replace e506 : (qf490 21).toInt = (qf 21).toInt := e506
                replace e507 : (qf490 23).toInt = (qf 23).toInt := e507
                replace e508 : (qf490 24).toInt = (qf 24).toInt := e508
                replace e509 : NuU qa qa491 9 (qf 10).toInt z487 := e509
                skip
                replace hw : pw D A s.heap H locs [wd_Mpr cs q qr (fun k => if k = 0 then (some h) else none) qf490 qa491 qg, wdP cs h r g tf ta pf na ma wa cf ca ef ea xf xa] := hw
                exact px_vret S hr hlk hAe hw (Nat.le_of_ble_eq_true rfl) (Nat.le_of_ble_eq_true rfl) (⟨qf490, qa491, rfl, (show TwO (qf490 2).toInt (qf 2).toInt (qf490 10).toInt (qf 10).toInt from (Or.inl ⟨by omega, by omega⟩)), (show (qf490 1).toInt = (qf 1).toInt from by first | exact e495 | omega), (show (qf490 4).toInt = (qf 4).toInt from by first | exact e498 | omega), (show (qf490 5).toInt = (qf 5).toInt from by first | exact e499 | omega), (show (qf490 6).toInt = (qf 6).toInt from by first | exact e500 | omega), (show (qf490 7).toInt = (qf 7).toInt from by first | exact e501 | omega), (show (qf490 11).toInt = (qf 11).toInt from by first | exact e502 | omega), (show (qf490 12).toInt = (qf 12).toInt from by first | exact e503 | omega), (show (qf490 13).toInt = (qf 13).toInt from by first | exact e504 | omega), (show (qf490 14).toInt = (qf 14).toInt from by first | exact e505 | omega), (show (qf490 21).toInt = (qf 21).toInt from by first | exact e506 | omega), (show (qf490 23).toInt = (qf 23).toInt from by first | exact e507 | omega), (show (qf490 24).toInt = (qf 24).toInt from by first | exact e508 | omega), (show WrU qa qa491 (qf 10).toInt (-1) from e509.w)⟩) d_Mpr_two_161
          · have nc342 : v288.toInt = (60 : Int) := (i_eq (x := v288) (y := 60)).mp c342
            refine lv_iload_n S.x S.b d_Mpr_two_90 rfl (lv_at hl 4 rfl) ?_
            refine lv_iload_n S.x S.b d_Mpr_two_91 rfl (lv_at hl 5 rfl) ?_
            refine lv_icmp_gt (tgt := 99) S.x S.b d_Mpr_two_92 (by decide) (fun c510 => ?_) (fun c510 => ?_)
            · have nc510 : p2.toInt < p1.toInt := (i_lt (x := p2) (y := p1)).mp c510
              refine lv_iconst (v := 0) S.x S.b d_Mpr_two_99 (by decide) ?_
              refine lv_goto (tgt := 113) S.x S.b d_Mpr_two_100 (by decide) ?_
              refine lv_istore (lv' := [(6, .int 0), (5, .int v288), (4, .ref sk284), (0, .ref q), (1, .int p0), (2, .int p1), (3, .int p2)]) S.x S.b d_Mpr_two_113 hl (by decide) rfl (fun ls hl => ?_)
              refine lv_aload_n S.x S.b d_Mpr_two_115 rfl (lv_at hl 3 rfl) ?_
              refine lv_aload S.x S.b d_Mpr_two_116 (lv_at hl 2 rfl) ?_
              obtain ⟨sk511, hRsk511, st512, sb513, hSsk511⟩ := oLW_lit hSh (k := 186) (tx := "<<") (n := 2) (by decide)
              refine va_ldcS S.x S.b S.own hRsk511 d_Mpr_two_118 ?_
              refine px_calli (pr := [wd_Mpr cs q qr (fun k => if k = 0 then (some h) else none) qf qa qg, wdP cs h r g tf ta pf na ma wa cf ca ef ea xf xa]) (px_runV (As := [.ref sk511]) (rest := [.ref q]) S (c_sg_equals l D cs sk284 st285 (mlen p0.toNatClampNeg) sb286 sk511 st512 2 sb513   (show (mlen p0.toNatClampNeg) ≤ 1000000 from by first | exact oz_f8a16524ad e292 nc293 | omega) (show 2 ≤ 1000000 from by first | decide | omega) _) hT (pr := [wd_Mpr cs q qr (fun k => if k = 0 then (some h) else none) qf qa qg, wdP cs h r g tf ta pf na ma wa cf ca ef ea xf xa]) (pcs := []) hw (oX_call (P := (fun A U H => (oZ A U H) ∧ (oS A sk284 st285 (mlen p0.toNatClampNeg) sb286 U H) ∧ (oS A sk511 st512 2 sb513 U H))) (pr := [wd_Mpr cs q qr (fun k => if k = 0 then (some h) else none) qf qa qg, wdP cs h r g tf ta pf na ma wa cf ca ef ea xf xa]) (oG_and oG_Z (oG_and oG_S oG_S)) hw hA ⟨hZ, hSsk284, hSsk511⟩) (oS_recv hw hSsk284) m11_225 m14_155 m11_223 m11_224 m1_3 q_String_equals ⟨Nat.le_of_ble_eq_true rfl, Nat.le_of_ble_eq_true rfl⟩ hl.1 rfl (Nat.le_of_ble_eq_true rfl) d_Mpr_two_120 ⟨Nat.le_of_ble_eq_true rfl, Nat.le_of_ble_eq_true rfl⟩) hw hA (fun v515 p514 H locs hp514 hw => ?_)
              obtain ⟨rfl, e516⟩ := hp514
              have e516 := z_rng e516
              replace hw : pw D A s.heap H locs [wd_Mpr cs q qr (fun k => if k = 0 then (some h) else none) qf qa qg, wdP cs h r g tf ta pf na ma wa cf ca ef ea xf xa] := hw
              have lv515 := Int32.le_toInt v515
              have uv515 := Int32.toInt_lt v515
              refine lv_if_eq (tgt := 132) S.x S.b d_Mpr_two_123 (by decide) (fun c517 => ?_) (fun c517 => ?_)
              · have nc517 : v515.toInt = (0 : Int) := (i_eq (x := v515) (y := 0)).mp c517
                refine lv_aload S.x S.b d_Mpr_two_132 (lv_at hl 2 rfl) ?_
                obtain ⟨sk518, hRsk518, st519, sb520, hSsk518⟩ := oLW_lit hSh (k := 192) (tx := ">>") (n := 2) (by decide)
                refine va_ldcS S.x S.b S.own hRsk518 d_Mpr_two_134 ?_
                refine px_calli (pr := [wd_Mpr cs q qr (fun k => if k = 0 then (some h) else none) qf qa qg, wdP cs h r g tf ta pf na ma wa cf ca ef ea xf xa]) (px_runV (As := [.ref sk518]) (rest := [.ref q]) S (c_sg_equals l D cs sk284 st285 (mlen p0.toNatClampNeg) sb286 sk518 st519 2 sb520   (show (mlen p0.toNatClampNeg) ≤ 1000000 from by first | exact oz_f8a16524ad e292 nc293 | omega) (show 2 ≤ 1000000 from by first | decide | omega) _) hT (pr := [wd_Mpr cs q qr (fun k => if k = 0 then (some h) else none) qf qa qg, wdP cs h r g tf ta pf na ma wa cf ca ef ea xf xa]) (pcs := []) hw (oX_call (P := (fun A U H => (oZ A U H) ∧ (oS A sk284 st285 (mlen p0.toNatClampNeg) sb286 U H) ∧ (oS A sk518 st519 2 sb520 U H))) (pr := [wd_Mpr cs q qr (fun k => if k = 0 then (some h) else none) qf qa qg, wdP cs h r g tf ta pf na ma wa cf ca ef ea xf xa]) (oG_and oG_Z (oG_and oG_S oG_S)) hw hA ⟨hZ, hSsk284, hSsk518⟩) (oS_recv hw hSsk284) m11_225 m14_155 m11_223 m11_224 m1_3 q_String_equals ⟨Nat.le_of_ble_eq_true rfl, Nat.le_of_ble_eq_true rfl⟩ hl.1 rfl (Nat.le_of_ble_eq_true rfl) d_Mpr_two_136 ⟨Nat.le_of_ble_eq_true rfl, Nat.le_of_ble_eq_true rfl⟩) hw hA (fun v522 p521 H locs hp521 hw => ?_)
                obtain ⟨rfl, e523⟩ := hp521
                have e523 := z_rng e523
                replace hw : pw D A s.heap H locs [wd_Mpr cs q qr (fun k => if k = 0 then (some h) else none) qf qa qg, wdP cs h r g tf ta pf na ma wa cf ca ef ea xf xa] := hw
                have lv522 := Int32.le_toInt v522
                have uv522 := Int32.toInt_lt v522
                refine lv_if_eq (tgt := 148) S.x S.b d_Mpr_two_139 (by decide) (fun c524 => ?_) (fun c524 => ?_)
                · have nc524 : v522.toInt = (0 : Int) := (i_eq (x := v522) (y := 0)).mp c524
                  refine lv_iload S.x S.b d_Mpr_two_148 (lv_at hl 0 rfl) ?_
                  refine lv_if_eq (tgt := 157) S.x S.b d_Mpr_two_150 (by decide) (fun c525 => ?_) (fun c525 => ?_)
                  ·
                    refine lv_iconst (v := 0) S.x S.b d_Mpr_two_157 (by decide) ?_
                    refine px_callv (pr := []) (px_runV (As := [.int 0]) (rest := []) S (c_mr_give l D cs nf q qr qg qf qa h r g tf ta pf na ma wa cf ca ef ea xf xa 0  (show 0 ≤ (qf 10).toInt from by first | exact g2 | omega) (show (qf 10).toInt < 62500 from by first | exact oz_7621ce4cd5 g3 | omega) _) hT (pr := []) (pcs := [wd_Mpr cs q qr (fun k => if k = 0 then (some h) else none) qf qa qg, wdP cs h r g tf ta pf na ma wa cf ca ef ea xf xa]) hw (oX_call (P := (fun A U H => (oP A g U H))) (pr := []) oG_P hw hA hP) (px_recv hT hw 0 0 rfl rfl rfl) m13_161 m13_158 m13_159 m13_160 m1_22 q_Mpr_give ⟨Nat.le_of_ble_eq_true rfl, Nat.le_of_ble_eq_true rfl⟩ hl.1 rfl (Nat.le_of_ble_eq_true rfl) d_Mpr_two_158 ⟨Nat.le_of_ble_eq_true rfl, Nat.le_of_ble_eq_true rfl⟩) hw hA (fun p530 H locs hp530 hw => ?_)
                    obtain ⟨qf528, qa529, rfl, e532, e533, e534, e535, e536, e537, e538, e539, e540, e541, e542, e543, e544, e545, e546, e547⟩ := hp530
                    replace e532 : (qf528 10).toInt = (qf 10).toInt + 1 := e532
                    replace e533 : (qf528 1).toInt = (qf 1).toInt := e533
                    replace e534 : (qf528 2).toInt = (qf 2).toInt := e534
                    replace e535 : (qf528 3).toInt = (qf 3).toInt := e535
                    replace e536 : (qf528 4).toInt = (qf 4).toInt := e536
                    replace e537 : (qf528 5).toInt = (qf 5).toInt := e537
                    replace e538 : (qf528 6).toInt = (qf 6).toInt := e538
                    replace e539 : (qf528 7).toInt = (qf 7).toInt := e539
                    replace e540 : (qf528 11).toInt = (qf 11).toInt := e540
                    replace e541 : (qf528 12).toInt = (qf 12).toInt := e541
                    replace e542 : (qf528 13).toInt = (qf 13).toInt := e542
                    replace e543 : (qf528 14).toInt = (qf 14).toInt := e543
                    replace e544 : (qf528 21).toInt = (qf 21).toInt := e544
                    replace e545 : (qf528 23).toInt = (qf 23).toInt := e545
                    replace e546 : (qf528 24).toInt = (qf 24).toInt := e546
                    replace e547 : NuU qa qa529 9 (qf 10).toInt (0 : Int32) := e547
                    skip
                    replace hw : pw D A s.heap H locs [wd_Mpr cs q qr (fun k => if k = 0 then (some h) else none) qf528 qa529 qg, wdP cs h r g tf ta pf na ma wa cf ca ef ea xf xa] := hw
                    exact px_vret S hr hlk hAe hw (Nat.le_of_ble_eq_true rfl) (Nat.le_of_ble_eq_true rfl) (⟨qf528, qa529, rfl, (show TwO (qf528 2).toInt (qf 2).toInt (qf528 10).toInt (qf 10).toInt from (Or.inl ⟨by omega, by omega⟩)), (show (qf528 1).toInt = (qf 1).toInt from by first | exact e533 | omega), (show (qf528 4).toInt = (qf 4).toInt from by first | exact e536 | omega), (show (qf528 5).toInt = (qf 5).toInt from by first | exact e537 | omega), (show (qf528 6).toInt = (qf 6).toInt from by first | exact e538 | omega), (show (qf528 7).toInt = (qf 7).toInt from by first | exact e539 | omega), (show (qf528 11).toInt = (qf 11).toInt from by first | exact e540 | omega), (show (qf528 12).toInt = (qf 12).toInt from by first | exact e541 | omega), (show (qf528 13).toInt = (qf 13).toInt from by first | exact e542 | omega), (show (qf528 14).toInt = (qf 14).toInt from by first | exact e543 | omega), (show (qf528 21).toInt = (qf 21).toInt from by first | exact e544 | omega), (show (qf528 23).toInt = (qf 23).toInt from by first | exact e545 | omega), (show (qf528 24).toInt = (qf 24).toInt from by first | exact e546 | omega), (show WrU qa qa529 (qf 10).toInt (-1) from e547.w)⟩) d_Mpr_two_161
                  · exact absurd c525 (by decide)
                · have nc524 : ¬ v522.toInt = (0 : Int) := mt (i_eq (x := v522) (y := 0)).mpr c524
                  refine lv_iload_n S.x S.b d_Mpr_two_142 rfl (lv_at hl 5 rfl) ?_
                  refine lv_iload_n S.x S.b d_Mpr_two_143 rfl (lv_at hl 6 rfl) ?_
                  refine lv_ishr S.x S.b d_Mpr_two_144 ?_
                  refine lv_topi (fun z548 ez548 => ?_)
                  have lz548 := Int32.le_toInt z548
                  have uz548 := Int32.toInt_lt z548
                  refine lv_goto (tgt := 158) S.x S.b d_Mpr_two_145 (by decide) ?_
                  refine px_callv (pr := []) (px_runV (As := [.int z548]) (rest := []) S (c_mr_give l D cs nf q qr qg qf qa h r g tf ta pf na ma wa cf ca ef ea xf xa z548  (show 0 ≤ (qf 10).toInt from by first | exact g2 | omega) (show (qf 10).toInt < 62500 from by first | exact oz_7621ce4cd5 g3 | omega) _) hT (pr := []) (pcs := [wd_Mpr cs q qr (fun k => if k = 0 then (some h) else none) qf qa qg, wdP cs h r g tf ta pf na ma wa cf ca ef ea xf xa]) hw (oX_call (P := (fun A U H => (oP A g U H))) (pr := []) oG_P hw hA hP) (px_recv hT hw 0 0 rfl rfl rfl) m13_161 m13_158 m13_159 m13_160 m1_22 q_Mpr_give ⟨Nat.le_of_ble_eq_true rfl, Nat.le_of_ble_eq_true rfl⟩ hl.1 rfl (Nat.le_of_ble_eq_true rfl) d_Mpr_two_158 ⟨Nat.le_of_ble_eq_true rfl, Nat.le_of_ble_eq_true rfl⟩) hw hA (fun p553 H locs hp553 hw => ?_)
                  obtain ⟨qf551, qa552, rfl, e555, e556, e557, e558, e559, e560, e561, e562, e563, e564, e565, e566, e567, e568, e569, e570⟩ := hp553
                  replace e555 : (qf551 10).toInt = (qf 10).toInt + 1 := e555
                  replace e556 : (qf551 1).toInt = (qf 1).toInt := e556
                  replace e557 : (qf551 2).toInt = (qf 2).toInt := e557
                  replace e558 : (qf551 3).toInt = (qf 3).toInt := e558
                  replace e559 : (qf551 4).toInt = (qf 4).toInt := e559
                  replace e560 : (qf551 5).toInt = (qf 5).toInt := e560
                  replace e561 : (qf551 6).toInt = (qf 6).toInt := e561
                  replace e562 : (qf551 7).toInt = (qf 7).toInt := e562
                  replace e563 : (qf551 11).toInt = (qf 11).toInt := e563
                  replace e564 : (qf551 12).toInt = (qf 12).toInt := e564
                  replace e565 : (qf551 13).toInt = (qf 13).toInt := e565
                  replace e566 : (qf551 14).toInt = (qf 14).toInt := e566
                  replace e567 : (qf551 21).toInt = (qf 21).toInt := e567
                  replace e568 : (qf551 23).toInt = (qf 23).toInt := e568
                  replace e569 : (qf551 24).toInt = (qf 24).toInt := e569
                  replace e570 : NuU qa qa552 9 (qf 10).toInt z548 := e570
                  skip
                  replace hw : pw D A s.heap H locs [wd_Mpr cs q qr (fun k => if k = 0 then (some h) else none) qf551 qa552 qg, wdP cs h r g tf ta pf na ma wa cf ca ef ea xf xa] := hw
                  exact px_vret S hr hlk hAe hw (Nat.le_of_ble_eq_true rfl) (Nat.le_of_ble_eq_true rfl) (⟨qf551, qa552, rfl, (show TwO (qf551 2).toInt (qf 2).toInt (qf551 10).toInt (qf 10).toInt from (Or.inl ⟨by omega, by omega⟩)), (show (qf551 1).toInt = (qf 1).toInt from by first | exact e556 | omega), (show (qf551 4).toInt = (qf 4).toInt from by first | exact e559 | omega), (show (qf551 5).toInt = (qf 5).toInt from by first | exact e560 | omega), (show (qf551 6).toInt = (qf 6).toInt from by first | exact e561 | omega), (show (qf551 7).toInt = (qf 7).toInt from by first | exact e562 | omega), (show (qf551 11).toInt = (qf 11).toInt from by first | exact e563 | omega), (show (qf551 12).toInt = (qf 12).toInt from by first | exact e564 | omega), (show (qf551 13).toInt = (qf 13).toInt from by first | exact e565 | omega), (show (qf551 14).toInt = (qf 14).toInt from by first | exact e566 | omega), (show (qf551 21).toInt = (qf 21).toInt from by first | exact e567 | omega), (show (qf551 23).toInt = (qf 23).toInt from by first | exact e568 | omega), (show (qf551 24).toInt = (qf 24).toInt from by first | exact e569 | omega), (show WrU qa qa552 (qf 10).toInt (-1) from e570.w)⟩) d_Mpr_two_161
              · have nc517 : ¬ v515.toInt = (0 : Int) := mt (i_eq (x := v515) (y := 0)).mpr c517
                refine lv_iload_n S.x S.b d_Mpr_two_126 rfl (lv_at hl 5 rfl) ?_
                refine lv_iload_n S.x S.b d_Mpr_two_127 rfl (lv_at hl 6 rfl) ?_
                refine lv_ishl S.x S.b d_Mpr_two_128 ?_
                refine lv_topi (fun z571 ez571 => ?_)
                have lz571 := Int32.le_toInt z571
                have uz571 := Int32.toInt_lt z571
                refine lv_goto (tgt := 158) S.x S.b d_Mpr_two_129 (by decide) ?_
                refine px_callv (pr := []) (px_runV (As := [.int z571]) (rest := []) S (c_mr_give l D cs nf q qr qg qf qa h r g tf ta pf na ma wa cf ca ef ea xf xa z571  (show 0 ≤ (qf 10).toInt from by first | exact g2 | omega) (show (qf 10).toInt < 62500 from by first | exact oz_7621ce4cd5 g3 | omega) _) hT (pr := []) (pcs := [wd_Mpr cs q qr (fun k => if k = 0 then (some h) else none) qf qa qg, wdP cs h r g tf ta pf na ma wa cf ca ef ea xf xa]) hw (oX_call (P := (fun A U H => (oP A g U H))) (pr := []) oG_P hw hA hP) (px_recv hT hw 0 0 rfl rfl rfl) m13_161 m13_158 m13_159 m13_160 m1_22 q_Mpr_give ⟨Nat.le_of_ble_eq_true rfl, Nat.le_of_ble_eq_true rfl⟩ hl.1 rfl (Nat.le_of_ble_eq_true rfl) d_Mpr_two_158 ⟨Nat.le_of_ble_eq_true rfl, Nat.le_of_ble_eq_true rfl⟩) hw hA (fun p576 H locs hp576 hw => ?_)
                obtain ⟨qf574, qa575, rfl, e578, e579, e580, e581, e582, e583, e584, e585, e586, e587, e588, e589, e590, e591, e592, e593⟩ := hp576
                replace e578 : (qf574 10).toInt = (qf 10).toInt + 1 := e578
                replace e579 : (qf574 1).toInt = (qf 1).toInt := e579
                replace e580 : (qf574 2).toInt = (qf 2).toInt := e580
                replace e581 : (qf574 3).toInt = (qf 3).toInt := e581
                replace e582 : (qf574 4).toInt = (qf 4).toInt := e582
                replace e583 : (qf574 5).toInt = (qf 5).toInt := e583
                replace e584 : (qf574 6).toInt = (qf 6).toInt := e584
                replace e585 : (qf574 7).toInt = (qf 7).toInt := e585
                replace e586 : (qf574 11).toInt = (qf 11).toInt := e586
                replace e587 : (qf574 12).toInt = (qf 12).toInt := e587
                replace e588 : (qf574 13).toInt = (qf 13).toInt := e588
                replace e589 : (qf574 14).toInt = (qf 14).toInt := e589
                replace e590 : (qf574 21).toInt = (qf 21).toInt := e590
                replace e591 : (qf574 23).toInt = (qf 23).toInt := e591
                replace e592 : (qf574 24).toInt = (qf 24).toInt := e592
                replace e593 : NuU qa qa575 9 (qf 10).toInt z571 := e593
                skip
                replace hw : pw D A s.heap H locs [wd_Mpr cs q qr (fun k => if k = 0 then (some h) else none) qf574 qa575 qg, wdP cs h r g tf ta pf na ma wa cf ca ef ea xf xa] := hw
                exact px_vret S hr hlk hAe hw (Nat.le_of_ble_eq_true rfl) (Nat.le_of_ble_eq_true rfl) (⟨qf574, qa575, rfl, (show TwO (qf574 2).toInt (qf 2).toInt (qf574 10).toInt (qf 10).toInt from (Or.inl ⟨by omega, by omega⟩)), (show (qf574 1).toInt = (qf 1).toInt from by first | exact e579 | omega), (show (qf574 4).toInt = (qf 4).toInt from by first | exact e582 | omega), (show (qf574 5).toInt = (qf 5).toInt from by first | exact e583 | omega), (show (qf574 6).toInt = (qf 6).toInt from by first | exact e584 | omega), (show (qf574 7).toInt = (qf 7).toInt from by first | exact e585 | omega), (show (qf574 11).toInt = (qf 11).toInt from by first | exact e586 | omega), (show (qf574 12).toInt = (qf 12).toInt from by first | exact e587 | omega), (show (qf574 13).toInt = (qf 13).toInt from by first | exact e588 | omega), (show (qf574 14).toInt = (qf 14).toInt from by first | exact e589 | omega), (show (qf574 21).toInt = (qf 21).toInt from by first | exact e590 | omega), (show (qf574 23).toInt = (qf 23).toInt from by first | exact e591 | omega), (show (qf574 24).toInt = (qf 24).toInt from by first | exact e592 | omega), (show WrU qa qa575 (qf 10).toInt (-1) from e593.w)⟩) d_Mpr_two_161
            · have nc510 : ¬ p2.toInt < p1.toInt := mt (i_lt (x := p2) (y := p1)).mpr c510
              refine lv_iconst (v := 1) S.x S.b d_Mpr_two_95 (by decide) ?_
              refine lv_goto (tgt := 113) S.x S.b d_Mpr_two_96 (by decide) ?_
              refine lv_istore (lv' := [(6, .int 1), (5, .int v288), (4, .ref sk284), (0, .ref q), (1, .int p0), (2, .int p1), (3, .int p2)]) S.x S.b d_Mpr_two_113 hl (by decide) rfl (fun ls hl => ?_)
              refine lv_aload_n S.x S.b d_Mpr_two_115 rfl (lv_at hl 3 rfl) ?_
              refine lv_aload S.x S.b d_Mpr_two_116 (lv_at hl 2 rfl) ?_
              obtain ⟨sk594, hRsk594, st595, sb596, hSsk594⟩ := oLW_lit hSh (k := 186) (tx := "<<") (n := 2) (by decide)
              refine va_ldcS S.x S.b S.own hRsk594 d_Mpr_two_118 ?_
              refine px_calli (pr := [wd_Mpr cs q qr (fun k => if k = 0 then (some h) else none) qf qa qg, wdP cs h r g tf ta pf na ma wa cf ca ef ea xf xa]) (px_runV (As := [.ref sk594]) (rest := [.ref q]) S (c_sg_equals l D cs sk284 st285 (mlen p0.toNatClampNeg) sb286 sk594 st595 2 sb596   (show (mlen p0.toNatClampNeg) ≤ 1000000 from by first | exact oz_f8a16524ad e292 nc293 | omega) (show 2 ≤ 1000000 from by first | decide | omega) _) hT (pr := [wd_Mpr cs q qr (fun k => if k = 0 then (some h) else none) qf qa qg, wdP cs h r g tf ta pf na ma wa cf ca ef ea xf xa]) (pcs := []) hw (oX_call (P := (fun A U H => (oZ A U H) ∧ (oS A sk284 st285 (mlen p0.toNatClampNeg) sb286 U H) ∧ (oS A sk594 st595 2 sb596 U H))) (pr := [wd_Mpr cs q qr (fun k => if k = 0 then (some h) else none) qf qa qg, wdP cs h r g tf ta pf na ma wa cf ca ef ea xf xa]) (oG_and oG_Z (oG_and oG_S oG_S)) hw hA ⟨hZ, hSsk284, hSsk594⟩) (oS_recv hw hSsk284) m11_225 m14_155 m11_223 m11_224 m1_3 q_String_equals ⟨Nat.le_of_ble_eq_true rfl, Nat.le_of_ble_eq_true rfl⟩ hl.1 rfl (Nat.le_of_ble_eq_true rfl) d_Mpr_two_120 ⟨Nat.le_of_ble_eq_true rfl, Nat.le_of_ble_eq_true rfl⟩) hw hA (fun v598 p597 H locs hp597 hw => ?_)
              obtain ⟨rfl, e599⟩ := hp597
              have e599 := z_rng e599
              replace hw : pw D A s.heap H locs [wd_Mpr cs q qr (fun k => if k = 0 then (some h) else none) qf qa qg, wdP cs h r g tf ta pf na ma wa cf ca ef ea xf xa] := hw
              have lv598 := Int32.le_toInt v598
              have uv598 := Int32.toInt_lt v598
              refine lv_if_eq (tgt := 132) S.x S.b d_Mpr_two_123 (by decide) (fun c600 => ?_) (fun c600 => ?_)
              · have nc600 : v598.toInt = (0 : Int) := (i_eq (x := v598) (y := 0)).mp c600
                refine lv_aload S.x S.b d_Mpr_two_132 (lv_at hl 2 rfl) ?_
                obtain ⟨sk601, hRsk601, st602, sb603, hSsk601⟩ := oLW_lit hSh (k := 192) (tx := ">>") (n := 2) (by decide)
                refine va_ldcS S.x S.b S.own hRsk601 d_Mpr_two_134 ?_
                refine px_calli (pr := [wd_Mpr cs q qr (fun k => if k = 0 then (some h) else none) qf qa qg, wdP cs h r g tf ta pf na ma wa cf ca ef ea xf xa]) (px_runV (As := [.ref sk601]) (rest := [.ref q]) S (c_sg_equals l D cs sk284 st285 (mlen p0.toNatClampNeg) sb286 sk601 st602 2 sb603   (show (mlen p0.toNatClampNeg) ≤ 1000000 from by first | exact oz_f8a16524ad e292 nc293 | omega) (show 2 ≤ 1000000 from by first | decide | omega) _) hT (pr := [wd_Mpr cs q qr (fun k => if k = 0 then (some h) else none) qf qa qg, wdP cs h r g tf ta pf na ma wa cf ca ef ea xf xa]) (pcs := []) hw (oX_call (P := (fun A U H => (oZ A U H) ∧ (oS A sk284 st285 (mlen p0.toNatClampNeg) sb286 U H) ∧ (oS A sk601 st602 2 sb603 U H))) (pr := [wd_Mpr cs q qr (fun k => if k = 0 then (some h) else none) qf qa qg, wdP cs h r g tf ta pf na ma wa cf ca ef ea xf xa]) (oG_and oG_Z (oG_and oG_S oG_S)) hw hA ⟨hZ, hSsk284, hSsk601⟩) (oS_recv hw hSsk284) m11_225 m14_155 m11_223 m11_224 m1_3 q_String_equals ⟨Nat.le_of_ble_eq_true rfl, Nat.le_of_ble_eq_true rfl⟩ hl.1 rfl (Nat.le_of_ble_eq_true rfl) d_Mpr_two_136 ⟨Nat.le_of_ble_eq_true rfl, Nat.le_of_ble_eq_true rfl⟩) hw hA (fun v605 p604 H locs hp604 hw => ?_)
                obtain ⟨rfl, e606⟩ := hp604
                have e606 := z_rng e606
                replace hw : pw D A s.heap H locs [wd_Mpr cs q qr (fun k => if k = 0 then (some h) else none) qf qa qg, wdP cs h r g tf ta pf na ma wa cf ca ef ea xf xa] := hw
                have lv605 := Int32.le_toInt v605
                have uv605 := Int32.toInt_lt v605
                refine lv_if_eq (tgt := 148) S.x S.b d_Mpr_two_139 (by decide) (fun c607 => ?_) (fun c607 => ?_)
                · have nc607 : v605.toInt = (0 : Int) := (i_eq (x := v605) (y := 0)).mp c607
                  refine lv_iload S.x S.b d_Mpr_two_148 (lv_at hl 0 rfl) ?_
                  refine lv_if_eq (tgt := 157) S.x S.b d_Mpr_two_150 (by decide) (fun c608 => ?_) (fun c608 => ?_)
                  · exact absurd c608 (by decide)
                  ·
                    refine lv_iconst (v := 1) S.x S.b d_Mpr_two_153 (by decide) ?_
                    refine lv_goto (tgt := 158) S.x S.b d_Mpr_two_154 (by decide) ?_
                    refine px_callv (pr := []) (px_runV (As := [.int 1]) (rest := []) S (c_mr_give l D cs nf q qr qg qf qa h r g tf ta pf na ma wa cf ca ef ea xf xa 1  (show 0 ≤ (qf 10).toInt from by first | exact g2 | omega) (show (qf 10).toInt < 62500 from by first | exact oz_7621ce4cd5 g3 | omega) _) hT (pr := []) (pcs := [wd_Mpr cs q qr (fun k => if k = 0 then (some h) else none) qf qa qg, wdP cs h r g tf ta pf na ma wa cf ca ef ea xf xa]) hw (oX_call (P := (fun A U H => (oP A g U H))) (pr := []) oG_P hw hA hP) (px_recv hT hw 0 0 rfl rfl rfl) m13_161 m13_158 m13_159 m13_160 m1_22 q_Mpr_give ⟨Nat.le_of_ble_eq_true rfl, Nat.le_of_ble_eq_true rfl⟩ hl.1 rfl (Nat.le_of_ble_eq_true rfl) d_Mpr_two_158 ⟨Nat.le_of_ble_eq_true rfl, Nat.le_of_ble_eq_true rfl⟩) hw hA (fun p613 H locs hp613 hw => ?_)
                    obtain ⟨qf611, qa612, rfl, e615, e616, e617, e618, e619, e620, e621, e622, e623, e624, e625, e626, e627, e628, e629, e630⟩ := hp613
                    replace e615 : (qf611 10).toInt = (qf 10).toInt + 1 := e615
                    replace e616 : (qf611 1).toInt = (qf 1).toInt := e616
                    replace e617 : (qf611 2).toInt = (qf 2).toInt := e617
                    replace e618 : (qf611 3).toInt = (qf 3).toInt := e618
                    replace e619 : (qf611 4).toInt = (qf 4).toInt := e619
                    replace e620 : (qf611 5).toInt = (qf 5).toInt := e620
                    replace e621 : (qf611 6).toInt = (qf 6).toInt := e621
                    replace e622 : (qf611 7).toInt = (qf 7).toInt := e622
                    replace e623 : (qf611 11).toInt = (qf 11).toInt := e623
                    replace e624 : (qf611 12).toInt = (qf 12).toInt := e624
                    replace e625 : (qf611 13).toInt = (qf 13).toInt := e625
                    replace e626 : (qf611 14).toInt = (qf 14).toInt := e626
                    replace e627 : (qf611 21).toInt = (qf 21).toInt := e627
                    replace e628 : (qf611 23).toInt = (qf 23).toInt := e628
                    replace e629 : (qf611 24).toInt = (qf 24).toInt := e629
                    replace e630 : NuU qa qa612 9 (qf 10).toInt (1 : Int32) := e630
                    skip
                    replace hw : pw D A s.heap H locs [wd_Mpr cs q qr (fun k => if k = 0 then (some h) else none) qf611 qa612 qg, wdP cs h r g tf ta pf na ma wa cf ca ef ea xf xa] := hw
                    exact px_vret S hr hlk hAe hw (Nat.le_of_ble_eq_true rfl) (Nat.le_of_ble_eq_true rfl) (⟨qf611, qa612, rfl, (show TwO (qf611 2).toInt (qf 2).toInt (qf611 10).toInt (qf 10).toInt from (Or.inl ⟨by omega, by omega⟩)), (show (qf611 1).toInt = (qf 1).toInt from by first | exact e616 | omega), (show (qf611 4).toInt = (qf 4).toInt from by first | exact e619 | omega), (show (qf611 5).toInt = (qf 5).toInt from by first | exact e620 | omega), (show (qf611 6).toInt = (qf 6).toInt from by first | exact e621 | omega), (show (qf611 7).toInt = (qf 7).toInt from by first | exact e622 | omega), (show (qf611 11).toInt = (qf 11).toInt from by first | exact e623 | omega), (show (qf611 12).toInt = (qf 12).toInt from by first | exact e624 | omega), (show (qf611 13).toInt = (qf 13).toInt from by first | exact e625 | omega), (show (qf611 14).toInt = (qf 14).toInt from by first | exact e626 | omega), (show (qf611 21).toInt = (qf 21).toInt from by first | exact e627 | omega), (show (qf611 23).toInt = (qf 23).toInt from by first | exact e628 | omega), (show (qf611 24).toInt = (qf 24).toInt from by first | exact e629 | omega), (show WrU qa qa612 (qf 10).toInt (-1) from e630.w)⟩) d_Mpr_two_161
                · have nc607 : ¬ v605.toInt = (0 : Int) := mt (i_eq (x := v605) (y := 0)).mpr c607
                  refine lv_iload_n S.x S.b d_Mpr_two_142 rfl (lv_at hl 5 rfl) ?_
                  refine lv_iload_n S.x S.b d_Mpr_two_143 rfl (lv_at hl 6 rfl) ?_
                  refine lv_ishr S.x S.b d_Mpr_two_144 ?_
                  refine lv_topi (fun z631 ez631 => ?_)
                  have lz631 := Int32.le_toInt z631
                  have uz631 := Int32.toInt_lt z631
                  refine lv_goto (tgt := 158) S.x S.b d_Mpr_two_145 (by decide) ?_
                  refine px_callv (pr := []) (px_runV (As := [.int z631]) (rest := []) S (c_mr_give l D cs nf q qr qg qf qa h r g tf ta pf na ma wa cf ca ef ea xf xa z631  (show 0 ≤ (qf 10).toInt from by first | exact g2 | omega) (show (qf 10).toInt < 62500 from by first | exact oz_7621ce4cd5 g3 | omega) _) hT (pr := []) (pcs := [wd_Mpr cs q qr (fun k => if k = 0 then (some h) else none) qf qa qg, wdP cs h r g tf ta pf na ma wa cf ca ef ea xf xa]) hw (oX_call (P := (fun A U H => (oP A g U H))) (pr := []) oG_P hw hA hP) (px_recv hT hw 0 0 rfl rfl rfl) m13_161 m13_158 m13_159 m13_160 m1_22 q_Mpr_give ⟨Nat.le_of_ble_eq_true rfl, Nat.le_of_ble_eq_true rfl⟩ hl.1 rfl (Nat.le_of_ble_eq_true rfl) d_Mpr_two_158 ⟨Nat.le_of_ble_eq_true rfl, Nat.le_of_ble_eq_true rfl⟩) hw hA (fun p636 H locs hp636 hw => ?_)
                  obtain ⟨qf634, qa635, rfl, e638, e639, e640, e641, e642, e643, e644, e645, e646, e647, e648, e649, e650, e651, e652, e653⟩ := hp636
                  replace e638 : (qf634 10).toInt = (qf 10).toInt + 1 := e638
                  replace e639 : (qf634 1).toInt = (qf 1).toInt := e639
                  replace e640 : (qf634 2).toInt = (qf 2).toInt := e640
                  replace e641 : (qf634 3).toInt = (qf 3).toInt := e641
                  replace e642 : (qf634 4).toInt = (qf 4).toInt := e642
                  replace e643 : (qf634 5).toInt = (qf 5).toInt := e643
                  replace e644 : (qf634 6).toInt = (qf 6).toInt := e644
                  replace e645 : (qf634 7).toInt = (qf 7).toInt := e645
                  replace e646 : (qf634 11).toInt = (qf 11).toInt := e646
                  replace e647 : (qf634 12).toInt = (qf 12).toInt := e647
                  replace e648 : (qf634 13).toInt = (qf 13).toInt := e648
                  replace e649 : (qf634 14).toInt = (qf 14).toInt := e649
                  replace e650 : (qf634 21).toInt = (qf 21).toInt := e650
                  replace e651 : (qf634 23).toInt = (qf 23).toInt := e651
                  replace e652 : (qf634 24).toInt = (qf 24).toInt := e652
                  replace e653 : NuU qa qa635 9 (qf 10).toInt z631 := e653
                  skip
                  replace hw : pw D A s.heap H locs [wd_Mpr cs q qr (fun k => if k = 0 then (some h) else none) qf634 qa635 qg, wdP cs h r g tf ta pf na ma wa cf ca ef ea xf xa] := hw
                  exact px_vret S hr hlk hAe hw (Nat.le_of_ble_eq_true rfl) (Nat.le_of_ble_eq_true rfl) (⟨qf634, qa635, rfl, (show TwO (qf634 2).toInt (qf 2).toInt (qf634 10).toInt (qf 10).toInt from (Or.inl ⟨by omega, by omega⟩)), (show (qf634 1).toInt = (qf 1).toInt from by first | exact e639 | omega), (show (qf634 4).toInt = (qf 4).toInt from by first | exact e642 | omega), (show (qf634 5).toInt = (qf 5).toInt from by first | exact e643 | omega), (show (qf634 6).toInt = (qf 6).toInt from by first | exact e644 | omega), (show (qf634 7).toInt = (qf 7).toInt from by first | exact e645 | omega), (show (qf634 11).toInt = (qf 11).toInt from by first | exact e646 | omega), (show (qf634 12).toInt = (qf 12).toInt from by first | exact e647 | omega), (show (qf634 13).toInt = (qf 13).toInt from by first | exact e648 | omega), (show (qf634 14).toInt = (qf 14).toInt from by first | exact e649 | omega), (show (qf634 21).toInt = (qf 21).toInt from by first | exact e650 | omega), (show (qf634 23).toInt = (qf 23).toInt from by first | exact e651 | omega), (show (qf634 24).toInt = (qf 24).toInt from by first | exact e652 | omega), (show WrU qa qa635 (qf 10).toInt (-1) from e653.w)⟩) d_Mpr_two_161
              · have nc600 : ¬ v598.toInt = (0 : Int) := mt (i_eq (x := v598) (y := 0)).mpr c600
                refine lv_iload_n S.x S.b d_Mpr_two_126 rfl (lv_at hl 5 rfl) ?_
                refine lv_iload_n S.x S.b d_Mpr_two_127 rfl (lv_at hl 6 rfl) ?_
                refine lv_ishl S.x S.b d_Mpr_two_128 ?_
                refine lv_topi (fun z654 ez654 => ?_)
                have lz654 := Int32.le_toInt z654
                have uz654 := Int32.toInt_lt z654
                refine lv_goto (tgt := 158) S.x S.b d_Mpr_two_129 (by decide) ?_
                refine px_callv (pr := []) (px_runV (As := [.int z654]) (rest := []) S (c_mr_give l D cs nf q qr qg qf qa h r g tf ta pf na ma wa cf ca ef ea xf xa z654  (show 0 ≤ (qf 10).toInt from by first | exact g2 | omega) (show (qf 10).toInt < 62500 from by first | exact oz_7621ce4cd5 g3 | omega) _) hT (pr := []) (pcs := [wd_Mpr cs q qr (fun k => if k = 0 then (some h) else none) qf qa qg, wdP cs h r g tf ta pf na ma wa cf ca ef ea xf xa]) hw (oX_call (P := (fun A U H => (oP A g U H))) (pr := []) oG_P hw hA hP) (px_recv hT hw 0 0 rfl rfl rfl) m13_161 m13_158 m13_159 m13_160 m1_22 q_Mpr_give ⟨Nat.le_of_ble_eq_true rfl, Nat.le_of_ble_eq_true rfl⟩ hl.1 rfl (Nat.le_of_ble_eq_true rfl) d_Mpr_two_158 ⟨Nat.le_of_ble_eq_true rfl, Nat.le_of_ble_eq_true rfl⟩) hw hA (fun p659 H locs hp659 hw => ?_)
                obtain ⟨qf657, qa658, rfl, e661, e662, e663, e664, e665, e666, e667, e668, e669, e670, e671, e672, e673, e674, e675, e676⟩ := hp659
                replace e661 : (qf657 10).toInt = (qf 10).toInt + 1 := e661
                replace e662 : (qf657 1).toInt = (qf 1).toInt := e662
                replace e663 : (qf657 2).toInt = (qf 2).toInt := e663
                replace e664 : (qf657 3).toInt = (qf 3).toInt := e664
                replace e665 : (qf657 4).toInt = (qf 4).toInt := e665
                replace e666 : (qf657 5).toInt = (qf 5).toInt := e666
                replace e667 : (qf657 6).toInt = (qf 6).toInt := e667
                replace e668 : (qf657 7).toInt = (qf 7).toInt := e668
                replace e669 : (qf657 11).toInt = (qf 11).toInt := e669
                replace e670 : (qf657 12).toInt = (qf 12).toInt := e670
                replace e671 : (qf657 13).toInt = (qf 13).toInt := e671
                replace e672 : (qf657 14).toInt = (qf 14).toInt := e672
                replace e673 : (qf657 21).toInt = (qf 21).toInt := e673
                replace e674 : (qf657 23).toInt = (qf 23).toInt := e674
                replace e675 : (qf657 24).toInt = (qf 24).toInt := e675
                replace e676 : NuU qa qa658 9 (qf 10).toInt z654 := e676
                skip
                replace hw : pw D A s.heap H locs [wd_Mpr cs q qr (fun k => if k = 0 then (some h) else none) qf657 qa658 qg, wdP cs h r g tf ta pf na ma wa cf ca ef ea xf xa] := hw
                exact px_vret S hr hlk hAe hw (Nat.le_of_ble_eq_true rfl) (Nat.le_of_ble_eq_true rfl) (⟨qf657, qa658, rfl, (show TwO (qf657 2).toInt (qf 2).toInt (qf657 10).toInt (qf 10).toInt from (Or.inl ⟨by omega, by omega⟩)), (show (qf657 1).toInt = (qf 1).toInt from by first | exact e662 | omega), (show (qf657 4).toInt = (qf 4).toInt from by first | exact e665 | omega), (show (qf657 5).toInt = (qf 5).toInt from by first | exact e666 | omega), (show (qf657 6).toInt = (qf 6).toInt from by first | exact e667 | omega), (show (qf657 7).toInt = (qf 7).toInt from by first | exact e668 | omega), (show (qf657 11).toInt = (qf 11).toInt from by first | exact e669 | omega), (show (qf657 12).toInt = (qf 12).toInt from by first | exact e670 | omega), (show (qf657 13).toInt = (qf 13).toInt from by first | exact e671 | omega), (show (qf657 14).toInt = (qf 14).toInt from by first | exact e672 | omega), (show (qf657 21).toInt = (qf 21).toInt from by first | exact e673 | omega), (show (qf657 23).toInt = (qf 23).toInt from by first | exact e674 | omega), (show (qf657 24).toInt = (qf 24).toInt from by first | exact e675 | omega), (show WrU qa qa658 (qf 10).toInt (-1) from e676.w)⟩) d_Mpr_two_161
        · have nc341 : ¬ v339.toInt = (61 : Int) := mt (i_eq (x := v339) (y := 61)).mpr c341
          refine lv_iconst (v := 0) S.x S.b d_Mpr_two_79 (by decide) ?_
          refine lv_goto (tgt := 113) S.x S.b d_Mpr_two_80 (by decide) ?_
          refine lv_istore (lv' := [(6, .int 0), (5, .int v288), (4, .ref sk284), (0, .ref q), (1, .int p0), (2, .int p1), (3, .int p2)]) S.x S.b d_Mpr_two_113 hl (by decide) rfl (fun ls hl => ?_)
          refine lv_aload_n S.x S.b d_Mpr_two_115 rfl (lv_at hl 3 rfl) ?_
          refine lv_aload S.x S.b d_Mpr_two_116 (lv_at hl 2 rfl) ?_
          obtain ⟨sk677, hRsk677, st678, sb679, hSsk677⟩ := oLW_lit hSh (k := 186) (tx := "<<") (n := 2) (by decide)
          refine va_ldcS S.x S.b S.own hRsk677 d_Mpr_two_118 ?_
          refine px_calli (pr := [wd_Mpr cs q qr (fun k => if k = 0 then (some h) else none) qf qa qg, wdP cs h r g tf ta pf na ma wa cf ca ef ea xf xa]) (px_runV (As := [.ref sk677]) (rest := [.ref q]) S (c_sg_equals l D cs sk284 st285 (mlen p0.toNatClampNeg) sb286 sk677 st678 2 sb679   (show (mlen p0.toNatClampNeg) ≤ 1000000 from by first | exact oz_f8a16524ad e292 nc293 | omega) (show 2 ≤ 1000000 from by first | decide | omega) _) hT (pr := [wd_Mpr cs q qr (fun k => if k = 0 then (some h) else none) qf qa qg, wdP cs h r g tf ta pf na ma wa cf ca ef ea xf xa]) (pcs := []) hw (oX_call (P := (fun A U H => (oZ A U H) ∧ (oS A sk284 st285 (mlen p0.toNatClampNeg) sb286 U H) ∧ (oS A sk677 st678 2 sb679 U H))) (pr := [wd_Mpr cs q qr (fun k => if k = 0 then (some h) else none) qf qa qg, wdP cs h r g tf ta pf na ma wa cf ca ef ea xf xa]) (oG_and oG_Z (oG_and oG_S oG_S)) hw hA ⟨hZ, hSsk284, hSsk677⟩) (oS_recv hw hSsk284) m11_225 m14_155 m11_223 m11_224 m1_3 q_String_equals ⟨Nat.le_of_ble_eq_true rfl, Nat.le_of_ble_eq_true rfl⟩ hl.1 rfl (Nat.le_of_ble_eq_true rfl) d_Mpr_two_120 ⟨Nat.le_of_ble_eq_true rfl, Nat.le_of_ble_eq_true rfl⟩) hw hA (fun v681 p680 H locs hp680 hw => ?_)
          obtain ⟨rfl, e682⟩ := hp680
          have e682 := z_rng e682
          replace hw : pw D A s.heap H locs [wd_Mpr cs q qr (fun k => if k = 0 then (some h) else none) qf qa qg, wdP cs h r g tf ta pf na ma wa cf ca ef ea xf xa] := hw
          have lv681 := Int32.le_toInt v681
          have uv681 := Int32.toInt_lt v681
          refine lv_if_eq (tgt := 132) S.x S.b d_Mpr_two_123 (by decide) (fun c683 => ?_) (fun c683 => ?_)
          · have nc683 : v681.toInt = (0 : Int) := (i_eq (x := v681) (y := 0)).mp c683
            refine lv_aload S.x S.b d_Mpr_two_132 (lv_at hl 2 rfl) ?_
            obtain ⟨sk684, hRsk684, st685, sb686, hSsk684⟩ := oLW_lit hSh (k := 192) (tx := ">>") (n := 2) (by decide)
            refine va_ldcS S.x S.b S.own hRsk684 d_Mpr_two_134 ?_
            refine px_calli (pr := [wd_Mpr cs q qr (fun k => if k = 0 then (some h) else none) qf qa qg, wdP cs h r g tf ta pf na ma wa cf ca ef ea xf xa]) (px_runV (As := [.ref sk684]) (rest := [.ref q]) S (c_sg_equals l D cs sk284 st285 (mlen p0.toNatClampNeg) sb286 sk684 st685 2 sb686   (show (mlen p0.toNatClampNeg) ≤ 1000000 from by first | exact oz_f8a16524ad e292 nc293 | omega) (show 2 ≤ 1000000 from by first | decide | omega) _) hT (pr := [wd_Mpr cs q qr (fun k => if k = 0 then (some h) else none) qf qa qg, wdP cs h r g tf ta pf na ma wa cf ca ef ea xf xa]) (pcs := []) hw (oX_call (P := (fun A U H => (oZ A U H) ∧ (oS A sk284 st285 (mlen p0.toNatClampNeg) sb286 U H) ∧ (oS A sk684 st685 2 sb686 U H))) (pr := [wd_Mpr cs q qr (fun k => if k = 0 then (some h) else none) qf qa qg, wdP cs h r g tf ta pf na ma wa cf ca ef ea xf xa]) (oG_and oG_Z (oG_and oG_S oG_S)) hw hA ⟨hZ, hSsk284, hSsk684⟩) (oS_recv hw hSsk284) m11_225 m14_155 m11_223 m11_224 m1_3 q_String_equals ⟨Nat.le_of_ble_eq_true rfl, Nat.le_of_ble_eq_true rfl⟩ hl.1 rfl (Nat.le_of_ble_eq_true rfl) d_Mpr_two_136 ⟨Nat.le_of_ble_eq_true rfl, Nat.le_of_ble_eq_true rfl⟩) hw hA (fun v688 p687 H locs hp687 hw => ?_)
            obtain ⟨rfl, e689⟩ := hp687
            have e689 := z_rng e689
            replace hw : pw D A s.heap H locs [wd_Mpr cs q qr (fun k => if k = 0 then (some h) else none) qf qa qg, wdP cs h r g tf ta pf na ma wa cf ca ef ea xf xa] := hw
            have lv688 := Int32.le_toInt v688
            have uv688 := Int32.toInt_lt v688
            refine lv_if_eq (tgt := 148) S.x S.b d_Mpr_two_139 (by decide) (fun c690 => ?_) (fun c690 => ?_)
            · have nc690 : v688.toInt = (0 : Int) := (i_eq (x := v688) (y := 0)).mp c690
              refine lv_iload S.x S.b d_Mpr_two_148 (lv_at hl 0 rfl) ?_
              refine lv_if_eq (tgt := 157) S.x S.b d_Mpr_two_150 (by decide) (fun c691 => ?_) (fun c691 => ?_)
              ·
                refine lv_iconst (v := 0) S.x S.b d_Mpr_two_157 (by decide) ?_
                refine px_callv (pr := []) (px_runV (As := [.int 0]) (rest := []) S (c_mr_give l D cs nf q qr qg qf qa h r g tf ta pf na ma wa cf ca ef ea xf xa 0  (show 0 ≤ (qf 10).toInt from by first | exact g2 | omega) (show (qf 10).toInt < 62500 from by first | exact oz_7621ce4cd5 g3 | omega) _) hT (pr := []) (pcs := [wd_Mpr cs q qr (fun k => if k = 0 then (some h) else none) qf qa qg, wdP cs h r g tf ta pf na ma wa cf ca ef ea xf xa]) hw (oX_call (P := (fun A U H => (oP A g U H))) (pr := []) oG_P hw hA hP) (px_recv hT hw 0 0 rfl rfl rfl) m13_161 m13_158 m13_159 m13_160 m1_22 q_Mpr_give ⟨Nat.le_of_ble_eq_true rfl, Nat.le_of_ble_eq_true rfl⟩ hl.1 rfl (Nat.le_of_ble_eq_true rfl) d_Mpr_two_158 ⟨Nat.le_of_ble_eq_true rfl, Nat.le_of_ble_eq_true rfl⟩) hw hA (fun p696 H locs hp696 hw => ?_)
                obtain ⟨qf694, qa695, rfl, e698, e699, e700, e701, e702, e703, e704, e705, e706, e707, e708, e709, e710, e711, e712, e713⟩ := hp696
                replace e698 : (qf694 10).toInt = (qf 10).toInt + 1 := e698
                replace e699 : (qf694 1).toInt = (qf 1).toInt := e699
                replace e700 : (qf694 2).toInt = (qf 2).toInt := e700
                replace e701 : (qf694 3).toInt = (qf 3).toInt := e701
                replace e702 : (qf694 4).toInt = (qf 4).toInt := e702
                replace e703 : (qf694 5).toInt = (qf 5).toInt := e703
                replace e704 : (qf694 6).toInt = (qf 6).toInt := e704
                replace e705 : (qf694 7).toInt = (qf 7).toInt := e705
                replace e706 : (qf694 11).toInt = (qf 11).toInt := e706
                replace e707 : (qf694 12).toInt = (qf 12).toInt := e707
                replace e708 : (qf694 13).toInt = (qf 13).toInt := e708
                replace e709 : (qf694 14).toInt = (qf 14).toInt := e709
                replace e710 : (qf694 21).toInt = (qf 21).toInt := e710
                replace e711 : (qf694 23).toInt = (qf 23).toInt := e711
                replace e712 : (qf694 24).toInt = (qf 24).toInt := e712
                replace e713 : NuU qa qa695 9 (qf 10).toInt (0 : Int32) := e713
                skip
                replace hw : pw D A s.heap H locs [wd_Mpr cs q qr (fun k => if k = 0 then (some h) else none) qf694 qa695 qg, wdP cs h r g tf ta pf na ma wa cf ca ef ea xf xa] := hw
                exact px_vret S hr hlk hAe hw (Nat.le_of_ble_eq_true rfl) (Nat.le_of_ble_eq_true rfl) (⟨qf694, qa695, rfl, (show TwO (qf694 2).toInt (qf 2).toInt (qf694 10).toInt (qf 10).toInt from (Or.inl ⟨by omega, by omega⟩)), (show (qf694 1).toInt = (qf 1).toInt from by first | exact e699 | omega), (show (qf694 4).toInt = (qf 4).toInt from by first | exact e702 | omega), (show (qf694 5).toInt = (qf 5).toInt from by first | exact e703 | omega), (show (qf694 6).toInt = (qf 6).toInt from by first | exact e704 | omega), (show (qf694 7).toInt = (qf 7).toInt from by first | exact e705 | omega), (show (qf694 11).toInt = (qf 11).toInt from by first | exact e706 | omega), (show (qf694 12).toInt = (qf 12).toInt from by first | exact e707 | omega), (show (qf694 13).toInt = (qf 13).toInt from by first | exact e708 | omega), (show (qf694 14).toInt = (qf 14).toInt from by first | exact e709 | omega), (show (qf694 21).toInt = (qf 21).toInt from by first | exact e710 | omega), (show (qf694 23).toInt = (qf 23).toInt from by first | exact e711 | omega), (show (qf694 24).toInt = (qf 24).toInt from by first | exact e712 | omega), (show WrU qa qa695 (qf 10).toInt (-1) from e713.w)⟩) d_Mpr_two_161
              · exact absurd c691 (by decide)
            · have nc690 : ¬ v688.toInt = (0 : Int) := mt (i_eq (x := v688) (y := 0)).mpr c690
              refine lv_iload_n S.x S.b d_Mpr_two_142 rfl (lv_at hl 5 rfl) ?_
              refine lv_iload_n S.x S.b d_Mpr_two_143 rfl (lv_at hl 6 rfl) ?_
              refine lv_ishr S.x S.b d_Mpr_two_144 ?_
              refine lv_topi (fun z714 ez714 => ?_)
              have lz714 := Int32.le_toInt z714
              have uz714 := Int32.toInt_lt z714
              refine lv_goto (tgt := 158) S.x S.b d_Mpr_two_145 (by decide) ?_
              refine px_callv (pr := []) (px_runV (As := [.int z714]) (rest := []) S (c_mr_give l D cs nf q qr qg qf qa h r g tf ta pf na ma wa cf ca ef ea xf xa z714  (show 0 ≤ (qf 10).toInt from by first | exact g2 | omega) (show (qf 10).toInt < 62500 from by first | exact oz_7621ce4cd5 g3 | omega) _) hT (pr := []) (pcs := [wd_Mpr cs q qr (fun k => if k = 0 then (some h) else none) qf qa qg, wdP cs h r g tf ta pf na ma wa cf ca ef ea xf xa]) hw (oX_call (P := (fun A U H => (oP A g U H))) (pr := []) oG_P hw hA hP) (px_recv hT hw 0 0 rfl rfl rfl) m13_161 m13_158 m13_159 m13_160 m1_22 q_Mpr_give ⟨Nat.le_of_ble_eq_true rfl, Nat.le_of_ble_eq_true rfl⟩ hl.1 rfl (Nat.le_of_ble_eq_true rfl) d_Mpr_two_158 ⟨Nat.le_of_ble_eq_true rfl, Nat.le_of_ble_eq_true rfl⟩) hw hA (fun p719 H locs hp719 hw => ?_)
              obtain ⟨qf717, qa718, rfl, e721, e722, e723, e724, e725, e726, e727, e728, e729, e730, e731, e732, e733, e734, e735, e736⟩ := hp719
              replace e721 : (qf717 10).toInt = (qf 10).toInt + 1 := e721
              replace e722 : (qf717 1).toInt = (qf 1).toInt := e722
              replace e723 : (qf717 2).toInt = (qf 2).toInt := e723
              replace e724 : (qf717 3).toInt = (qf 3).toInt := e724
              replace e725 : (qf717 4).toInt = (qf 4).toInt := e725
              replace e726 : (qf717 5).toInt = (qf 5).toInt := e726
              replace e727 : (qf717 6).toInt = (qf 6).toInt := e727
              replace e728 : (qf717 7).toInt = (qf 7).toInt := e728
              replace e729 : (qf717 11).toInt = (qf 11).toInt := e729
              replace e730 : (qf717 12).toInt = (qf 12).toInt := e730
              replace e731 : (qf717 13).toInt = (qf 13).toInt := e731
              replace e732 : (qf717 14).toInt = (qf 14).toInt := e732
              replace e733 : (qf717 21).toInt = (qf 21).toInt := e733
              replace e734 : (qf717 23).toInt = (qf 23).toInt := e734
              replace e735 : (qf717 24).toInt = (qf 24).toInt := e735
              replace e736 : NuU qa qa718 9 (qf 10).toInt z714 := e736
              skip
              replace hw : pw D A s.heap H locs [wd_Mpr cs q qr (fun k => if k = 0 then (some h) else none) qf717 qa718 qg, wdP cs h r g tf ta pf na ma wa cf ca ef ea xf xa] := hw
              exact px_vret S hr hlk hAe hw (Nat.le_of_ble_eq_true rfl) (Nat.le_of_ble_eq_true rfl) (⟨qf717, qa718, rfl, (show TwO (qf717 2).toInt (qf 2).toInt (qf717 10).toInt (qf 10).toInt from (Or.inl ⟨by omega, by omega⟩)), (show (qf717 1).toInt = (qf 1).toInt from by first | exact e722 | omega), (show (qf717 4).toInt = (qf 4).toInt from by first | exact e725 | omega), (show (qf717 5).toInt = (qf 5).toInt from by first | exact e726 | omega), (show (qf717 6).toInt = (qf 6).toInt from by first | exact e727 | omega), (show (qf717 7).toInt = (qf 7).toInt from by first | exact e728 | omega), (show (qf717 11).toInt = (qf 11).toInt from by first | exact e729 | omega), (show (qf717 12).toInt = (qf 12).toInt from by first | exact e730 | omega), (show (qf717 13).toInt = (qf 13).toInt from by first | exact e731 | omega), (show (qf717 14).toInt = (qf 14).toInt from by first | exact e732 | omega), (show (qf717 21).toInt = (qf 21).toInt from by first | exact e733 | omega), (show (qf717 23).toInt = (qf 23).toInt from by first | exact e734 | omega), (show (qf717 24).toInt = (qf 24).toInt from by first | exact e735 | omega), (show WrU qa qa718 (qf 10).toInt (-1) from e736.w)⟩) d_Mpr_two_161
          · have nc683 : ¬ v681.toInt = (0 : Int) := mt (i_eq (x := v681) (y := 0)).mpr c683
            refine lv_iload_n S.x S.b d_Mpr_two_126 rfl (lv_at hl 5 rfl) ?_
            refine lv_iload_n S.x S.b d_Mpr_two_127 rfl (lv_at hl 6 rfl) ?_
            refine lv_ishl S.x S.b d_Mpr_two_128 ?_
            refine lv_topi (fun z737 ez737 => ?_)
            have lz737 := Int32.le_toInt z737
            have uz737 := Int32.toInt_lt z737
            refine lv_goto (tgt := 158) S.x S.b d_Mpr_two_129 (by decide) ?_
            refine px_callv (pr := []) (px_runV (As := [.int z737]) (rest := []) S (c_mr_give l D cs nf q qr qg qf qa h r g tf ta pf na ma wa cf ca ef ea xf xa z737  (show 0 ≤ (qf 10).toInt from by first | exact g2 | omega) (show (qf 10).toInt < 62500 from by first | exact oz_7621ce4cd5 g3 | omega) _) hT (pr := []) (pcs := [wd_Mpr cs q qr (fun k => if k = 0 then (some h) else none) qf qa qg, wdP cs h r g tf ta pf na ma wa cf ca ef ea xf xa]) hw (oX_call (P := (fun A U H => (oP A g U H))) (pr := []) oG_P hw hA hP) (px_recv hT hw 0 0 rfl rfl rfl) m13_161 m13_158 m13_159 m13_160 m1_22 q_Mpr_give ⟨Nat.le_of_ble_eq_true rfl, Nat.le_of_ble_eq_true rfl⟩ hl.1 rfl (Nat.le_of_ble_eq_true rfl) d_Mpr_two_158 ⟨Nat.le_of_ble_eq_true rfl, Nat.le_of_ble_eq_true rfl⟩) hw hA (fun p742 H locs hp742 hw => ?_)
            obtain ⟨qf740, qa741, rfl, e744, e745, e746, e747, e748, e749, e750, e751, e752, e753, e754, e755, e756, e757, e758, e759⟩ := hp742
            replace e744 : (qf740 10).toInt = (qf 10).toInt + 1 := e744
            replace e745 : (qf740 1).toInt = (qf 1).toInt := e745
            replace e746 : (qf740 2).toInt = (qf 2).toInt := e746
            replace e747 : (qf740 3).toInt = (qf 3).toInt := e747
            replace e748 : (qf740 4).toInt = (qf 4).toInt := e748
            replace e749 : (qf740 5).toInt = (qf 5).toInt := e749
            replace e750 : (qf740 6).toInt = (qf 6).toInt := e750
            replace e751 : (qf740 7).toInt = (qf 7).toInt := e751
            replace e752 : (qf740 11).toInt = (qf 11).toInt := e752
            replace e753 : (qf740 12).toInt = (qf 12).toInt := e753
            replace e754 : (qf740 13).toInt = (qf 13).toInt := e754
            replace e755 : (qf740 14).toInt = (qf 14).toInt := e755
            replace e756 : (qf740 21).toInt = (qf 21).toInt := e756
            replace e757 : (qf740 23).toInt = (qf 23).toInt := e757
            replace e758 : (qf740 24).toInt = (qf 24).toInt := e758
            replace e759 : NuU qa qa741 9 (qf 10).toInt z737 := e759
            skip
            replace hw : pw D A s.heap H locs [wd_Mpr cs q qr (fun k => if k = 0 then (some h) else none) qf740 qa741 qg, wdP cs h r g tf ta pf na ma wa cf ca ef ea xf xa] := hw
            exact px_vret S hr hlk hAe hw (Nat.le_of_ble_eq_true rfl) (Nat.le_of_ble_eq_true rfl) (⟨qf740, qa741, rfl, (show TwO (qf740 2).toInt (qf 2).toInt (qf740 10).toInt (qf 10).toInt from (Or.inl ⟨by omega, by omega⟩)), (show (qf740 1).toInt = (qf 1).toInt from by first | exact e745 | omega), (show (qf740 4).toInt = (qf 4).toInt from by first | exact e748 | omega), (show (qf740 5).toInt = (qf 5).toInt from by first | exact e749 | omega), (show (qf740 6).toInt = (qf 6).toInt from by first | exact e750 | omega), (show (qf740 7).toInt = (qf 7).toInt from by first | exact e751 | omega), (show (qf740 11).toInt = (qf 11).toInt from by first | exact e752 | omega), (show (qf740 12).toInt = (qf 12).toInt from by first | exact e753 | omega), (show (qf740 13).toInt = (qf 13).toInt from by first | exact e754 | omega), (show (qf740 14).toInt = (qf 14).toInt from by first | exact e755 | omega), (show (qf740 21).toInt = (qf 21).toInt from by first | exact e756 | omega), (show (qf740 23).toInt = (qf 23).toInt from by first | exact e757 | omega), (show (qf740 24).toInt = (qf 24).toInt from by first | exact e758 | omega), (show WrU qa qa741 (qf 10).toInt (-1) from e759.w)⟩) d_Mpr_two_161
      · have nc337 : v288.toInt = (33 : Int) := (i_eq (x := v288) (y := 33)).mp c337
        refine lv_iload_n S.x S.b d_Mpr_two_55 rfl (lv_at hl 4 rfl) ?_
        refine lv_iload_n S.x S.b d_Mpr_two_56 rfl (lv_at hl 5 rfl) ?_
        refine lv_icmp_eq (tgt := 64) S.x S.b d_Mpr_two_57 (by decide) (fun c760 => ?_) (fun c760 => ?_)
        · have nc760 : p1.toInt = p2.toInt := (i_eq (x := p1) (y := p2)).mp c760
          refine lv_iconst (v := 0) S.x S.b d_Mpr_two_64 (by decide) ?_
          refine lv_goto (tgt := 113) S.x S.b d_Mpr_two_65 (by decide) ?_
          refine lv_istore (lv' := [(6, .int 0), (5, .int v288), (4, .ref sk284), (0, .ref q), (1, .int p0), (2, .int p1), (3, .int p2)]) S.x S.b d_Mpr_two_113 hl (by decide) rfl (fun ls hl => ?_)
          refine lv_aload_n S.x S.b d_Mpr_two_115 rfl (lv_at hl 3 rfl) ?_
          refine lv_aload S.x S.b d_Mpr_two_116 (lv_at hl 2 rfl) ?_
          obtain ⟨sk761, hRsk761, st762, sb763, hSsk761⟩ := oLW_lit hSh (k := 186) (tx := "<<") (n := 2) (by decide)
          refine va_ldcS S.x S.b S.own hRsk761 d_Mpr_two_118 ?_
          refine px_calli (pr := [wd_Mpr cs q qr (fun k => if k = 0 then (some h) else none) qf qa qg, wdP cs h r g tf ta pf na ma wa cf ca ef ea xf xa]) (px_runV (As := [.ref sk761]) (rest := [.ref q]) S (c_sg_equals l D cs sk284 st285 (mlen p0.toNatClampNeg) sb286 sk761 st762 2 sb763   (show (mlen p0.toNatClampNeg) ≤ 1000000 from by first | exact oz_f8a16524ad e292 nc293 | omega) (show 2 ≤ 1000000 from by first | decide | omega) _) hT (pr := [wd_Mpr cs q qr (fun k => if k = 0 then (some h) else none) qf qa qg, wdP cs h r g tf ta pf na ma wa cf ca ef ea xf xa]) (pcs := []) hw (oX_call (P := (fun A U H => (oZ A U H) ∧ (oS A sk284 st285 (mlen p0.toNatClampNeg) sb286 U H) ∧ (oS A sk761 st762 2 sb763 U H))) (pr := [wd_Mpr cs q qr (fun k => if k = 0 then (some h) else none) qf qa qg, wdP cs h r g tf ta pf na ma wa cf ca ef ea xf xa]) (oG_and oG_Z (oG_and oG_S oG_S)) hw hA ⟨hZ, hSsk284, hSsk761⟩) (oS_recv hw hSsk284) m11_225 m14_155 m11_223 m11_224 m1_3 q_String_equals ⟨Nat.le_of_ble_eq_true rfl, Nat.le_of_ble_eq_true rfl⟩ hl.1 rfl (Nat.le_of_ble_eq_true rfl) d_Mpr_two_120 ⟨Nat.le_of_ble_eq_true rfl, Nat.le_of_ble_eq_true rfl⟩) hw hA (fun v765 p764 H locs hp764 hw => ?_)
          obtain ⟨rfl, e766⟩ := hp764
          have e766 := z_rng e766
          replace hw : pw D A s.heap H locs [wd_Mpr cs q qr (fun k => if k = 0 then (some h) else none) qf qa qg, wdP cs h r g tf ta pf na ma wa cf ca ef ea xf xa] := hw
          have lv765 := Int32.le_toInt v765
          have uv765 := Int32.toInt_lt v765
          refine lv_if_eq (tgt := 132) S.x S.b d_Mpr_two_123 (by decide) (fun c767 => ?_) (fun c767 => ?_)
          · have nc767 : v765.toInt = (0 : Int) := (i_eq (x := v765) (y := 0)).mp c767
            refine lv_aload S.x S.b d_Mpr_two_132 (lv_at hl 2 rfl) ?_
            obtain ⟨sk768, hRsk768, st769, sb770, hSsk768⟩ := oLW_lit hSh (k := 192) (tx := ">>") (n := 2) (by decide)
            refine va_ldcS S.x S.b S.own hRsk768 d_Mpr_two_134 ?_
            refine px_calli (pr := [wd_Mpr cs q qr (fun k => if k = 0 then (some h) else none) qf qa qg, wdP cs h r g tf ta pf na ma wa cf ca ef ea xf xa]) (px_runV (As := [.ref sk768]) (rest := [.ref q]) S (c_sg_equals l D cs sk284 st285 (mlen p0.toNatClampNeg) sb286 sk768 st769 2 sb770   (show (mlen p0.toNatClampNeg) ≤ 1000000 from by first | exact oz_f8a16524ad e292 nc293 | omega) (show 2 ≤ 1000000 from by first | decide | omega) _) hT (pr := [wd_Mpr cs q qr (fun k => if k = 0 then (some h) else none) qf qa qg, wdP cs h r g tf ta pf na ma wa cf ca ef ea xf xa]) (pcs := []) hw (oX_call (P := (fun A U H => (oZ A U H) ∧ (oS A sk284 st285 (mlen p0.toNatClampNeg) sb286 U H) ∧ (oS A sk768 st769 2 sb770 U H))) (pr := [wd_Mpr cs q qr (fun k => if k = 0 then (some h) else none) qf qa qg, wdP cs h r g tf ta pf na ma wa cf ca ef ea xf xa]) (oG_and oG_Z (oG_and oG_S oG_S)) hw hA ⟨hZ, hSsk284, hSsk768⟩) (oS_recv hw hSsk284) m11_225 m14_155 m11_223 m11_224 m1_3 q_String_equals ⟨Nat.le_of_ble_eq_true rfl, Nat.le_of_ble_eq_true rfl⟩ hl.1 rfl (Nat.le_of_ble_eq_true rfl) d_Mpr_two_136 ⟨Nat.le_of_ble_eq_true rfl, Nat.le_of_ble_eq_true rfl⟩) hw hA (fun v772 p771 H locs hp771 hw => ?_)
            obtain ⟨rfl, e773⟩ := hp771
            have e773 := z_rng e773
            replace hw : pw D A s.heap H locs [wd_Mpr cs q qr (fun k => if k = 0 then (some h) else none) qf qa qg, wdP cs h r g tf ta pf na ma wa cf ca ef ea xf xa] := hw
            have lv772 := Int32.le_toInt v772
            have uv772 := Int32.toInt_lt v772
            refine lv_if_eq (tgt := 148) S.x S.b d_Mpr_two_139 (by decide) (fun c774 => ?_) (fun c774 => ?_)
            · have nc774 : v772.toInt = (0 : Int) := (i_eq (x := v772) (y := 0)).mp c774
              refine lv_iload S.x S.b d_Mpr_two_148 (lv_at hl 0 rfl) ?_
              refine lv_if_eq (tgt := 157) S.x S.b d_Mpr_two_150 (by decide) (fun c775 => ?_) (fun c775 => ?_)
              ·
                refine lv_iconst (v := 0) S.x S.b d_Mpr_two_157 (by decide) ?_
                refine px_callv (pr := []) (px_runV (As := [.int 0]) (rest := []) S (c_mr_give l D cs nf q qr qg qf qa h r g tf ta pf na ma wa cf ca ef ea xf xa 0  (show 0 ≤ (qf 10).toInt from by first | exact g2 | omega) (show (qf 10).toInt < 62500 from by first | exact oz_7621ce4cd5 g3 | omega) _) hT (pr := []) (pcs := [wd_Mpr cs q qr (fun k => if k = 0 then (some h) else none) qf qa qg, wdP cs h r g tf ta pf na ma wa cf ca ef ea xf xa]) hw (oX_call (P := (fun A U H => (oP A g U H))) (pr := []) oG_P hw hA hP) (px_recv hT hw 0 0 rfl rfl rfl) m13_161 m13_158 m13_159 m13_160 m1_22 q_Mpr_give ⟨Nat.le_of_ble_eq_true rfl, Nat.le_of_ble_eq_true rfl⟩ hl.1 rfl (Nat.le_of_ble_eq_true rfl) d_Mpr_two_158 ⟨Nat.le_of_ble_eq_true rfl, Nat.le_of_ble_eq_true rfl⟩) hw hA (fun p780 H locs hp780 hw => ?_)
                obtain ⟨qf778, qa779, rfl, e782, e783, e784, e785, e786, e787, e788, e789, e790, e791, e792, e793, e794, e795, e796, e797⟩ := hp780
                replace e782 : (qf778 10).toInt = (qf 10).toInt + 1 := e782
                replace e783 : (qf778 1).toInt = (qf 1).toInt := e783
                replace e784 : (qf778 2).toInt = (qf 2).toInt := e784
                replace e785 : (qf778 3).toInt = (qf 3).toInt := e785
                replace e786 : (qf778 4).toInt = (qf 4).toInt := e786
                replace e787 : (qf778 5).toInt = (qf 5).toInt := e787
                replace e788 : (qf778 6).toInt = (qf 6).toInt := e788
                replace e789 : (qf778 7).toInt = (qf 7).toInt := e789
                replace e790 : (qf778 11).toInt = (qf 11).toInt := e790
                replace e791 : (qf778 12).toInt = (qf 12).toInt := e791
                replace e792 : (qf778 13).toInt = (qf 13).toInt := e792
                replace e793 : (qf778 14).toInt = (qf 14).toInt := e793
                replace e794 : (qf778 21).toInt = (qf 21).toInt := e794
                replace e795 : (qf778 23).toInt = (qf 23).toInt := e795
                replace e796 : (qf778 24).toInt = (qf 24).toInt := e796
                replace e797 : NuU qa qa779 9 (qf 10).toInt (0 : Int32) := e797
                skip
                replace hw : pw D A s.heap H locs [wd_Mpr cs q qr (fun k => if k = 0 then (some h) else none) qf778 qa779 qg, wdP cs h r g tf ta pf na ma wa cf ca ef ea xf xa] := hw
                exact px_vret S hr hlk hAe hw (Nat.le_of_ble_eq_true rfl) (Nat.le_of_ble_eq_true rfl) (⟨qf778, qa779, rfl, (show TwO (qf778 2).toInt (qf 2).toInt (qf778 10).toInt (qf 10).toInt from (Or.inl ⟨by omega, by omega⟩)), (show (qf778 1).toInt = (qf 1).toInt from by first | exact e783 | omega), (show (qf778 4).toInt = (qf 4).toInt from by first | exact e786 | omega), (show (qf778 5).toInt = (qf 5).toInt from by first | exact e787 | omega), (show (qf778 6).toInt = (qf 6).toInt from by first | exact e788 | omega), (show (qf778 7).toInt = (qf 7).toInt from by first | exact e789 | omega), (show (qf778 11).toInt = (qf 11).toInt from by first | exact e790 | omega), (show (qf778 12).toInt = (qf 12).toInt from by first | exact e791 | omega), (show (qf778 13).toInt = (qf 13).toInt from by first | exact e792 | omega), (show (qf778 14).toInt = (qf 14).toInt from by first | exact e793 | omega), (show (qf778 21).toInt = (qf 21).toInt from by first | exact e794 | omega), (show (qf778 23).toInt = (qf 23).toInt from by first | exact e795 | omega), (show (qf778 24).toInt = (qf 24).toInt from by first | exact e796 | omega), (show WrU qa qa779 (qf 10).toInt (-1) from e797.w)⟩) d_Mpr_two_161
              · exact absurd c775 (by decide)
            · have nc774 : ¬ v772.toInt = (0 : Int) := mt (i_eq (x := v772) (y := 0)).mpr c774
              refine lv_iload_n S.x S.b d_Mpr_two_142 rfl (lv_at hl 5 rfl) ?_
              refine lv_iload_n S.x S.b d_Mpr_two_143 rfl (lv_at hl 6 rfl) ?_
              refine lv_ishr S.x S.b d_Mpr_two_144 ?_
              refine lv_topi (fun z798 ez798 => ?_)
              have lz798 := Int32.le_toInt z798
              have uz798 := Int32.toInt_lt z798
              refine lv_goto (tgt := 158) S.x S.b d_Mpr_two_145 (by decide) ?_
              refine px_callv (pr := []) (px_runV (As := [.int z798]) (rest := []) S (c_mr_give l D cs nf q qr qg qf qa h r g tf ta pf na ma wa cf ca ef ea xf xa z798  (show 0 ≤ (qf 10).toInt from by first | exact g2 | omega) (show (qf 10).toInt < 62500 from by first | exact oz_7621ce4cd5 g3 | omega) _) hT (pr := []) (pcs := [wd_Mpr cs q qr (fun k => if k = 0 then (some h) else none) qf qa qg, wdP cs h r g tf ta pf na ma wa cf ca ef ea xf xa]) hw (oX_call (P := (fun A U H => (oP A g U H))) (pr := []) oG_P hw hA hP) (px_recv hT hw 0 0 rfl rfl rfl) m13_161 m13_158 m13_159 m13_160 m1_22 q_Mpr_give ⟨Nat.le_of_ble_eq_true rfl, Nat.le_of_ble_eq_true rfl⟩ hl.1 rfl (Nat.le_of_ble_eq_true rfl) d_Mpr_two_158 ⟨Nat.le_of_ble_eq_true rfl, Nat.le_of_ble_eq_true rfl⟩) hw hA (fun p803 H locs hp803 hw => ?_)
              obtain ⟨qf801, qa802, rfl, e805, e806, e807, e808, e809, e810, e811, e812, e813, e814, e815, e816, e817, e818, e819, e820⟩ := hp803
              replace e805 : (qf801 10).toInt = (qf 10).toInt + 1 := e805
              replace e806 : (qf801 1).toInt = (qf 1).toInt := e806
              replace e807 : (qf801 2).toInt = (qf 2).toInt := e807
              replace e808 : (qf801 3).toInt = (qf 3).toInt := e808
              replace e809 : (qf801 4).toInt = (qf 4).toInt := e809
              replace e810 : (qf801 5).toInt = (qf 5).toInt := e810
              replace e811 : (qf801 6).toInt = (qf 6).toInt := e811
              replace e812 : (qf801 7).toInt = (qf 7).toInt := e812
              replace e813 : (qf801 11).toInt = (qf 11).toInt := e813
              replace e814 : (qf801 12).toInt = (qf 12).toInt := e814
              replace e815 : (qf801 13).toInt = (qf 13).toInt := e815
              replace e816 : (qf801 14).toInt = (qf 14).toInt := e816
              replace e817 : (qf801 21).toInt = (qf 21).toInt := e817
              replace e818 : (qf801 23).toInt = (qf 23).toInt := e818
              replace e819 : (qf801 24).toInt = (qf 24).toInt := e819
              replace e820 : NuU qa qa802 9 (qf 10).toInt z798 := e820
              skip
              replace hw : pw D A s.heap H locs [wd_Mpr cs q qr (fun k => if k = 0 then (some h) else none) qf801 qa802 qg, wdP cs h r g tf ta pf na ma wa cf ca ef ea xf xa] := hw
              exact px_vret S hr hlk hAe hw (Nat.le_of_ble_eq_true rfl) (Nat.le_of_ble_eq_true rfl) (⟨qf801, qa802, rfl, (show TwO (qf801 2).toInt (qf 2).toInt (qf801 10).toInt (qf 10).toInt from (Or.inl ⟨by omega, by omega⟩)), (show (qf801 1).toInt = (qf 1).toInt from by first | exact e806 | omega), (show (qf801 4).toInt = (qf 4).toInt from by first | exact e809 | omega), (show (qf801 5).toInt = (qf 5).toInt from by first | exact e810 | omega), (show (qf801 6).toInt = (qf 6).toInt from by first | exact e811 | omega), (show (qf801 7).toInt = (qf 7).toInt from by first | exact e812 | omega), (show (qf801 11).toInt = (qf 11).toInt from by first | exact e813 | omega), (show (qf801 12).toInt = (qf 12).toInt from by first | exact e814 | omega), (show (qf801 13).toInt = (qf 13).toInt from by first | exact e815 | omega), (show (qf801 14).toInt = (qf 14).toInt from by first | exact e816 | omega), (show (qf801 21).toInt = (qf 21).toInt from by first | exact e817 | omega), (show (qf801 23).toInt = (qf 23).toInt from by first | exact e818 | omega), (show (qf801 24).toInt = (qf 24).toInt from by first | exact e819 | omega), (show WrU qa qa802 (qf 10).toInt (-1) from e820.w)⟩) d_Mpr_two_161
          · have nc767 : ¬ v765.toInt = (0 : Int) := mt (i_eq (x := v765) (y := 0)).mpr c767
            refine lv_iload_n S.x S.b d_Mpr_two_126 rfl (lv_at hl 5 rfl) ?_
            refine lv_iload_n S.x S.b d_Mpr_two_127 rfl (lv_at hl 6 rfl) ?_
            refine lv_ishl S.x S.b d_Mpr_two_128 ?_
            refine lv_topi (fun z821 ez821 => ?_)
            have lz821 := Int32.le_toInt z821
            have uz821 := Int32.toInt_lt z821
            refine lv_goto (tgt := 158) S.x S.b d_Mpr_two_129 (by decide) ?_
            refine px_callv (pr := []) (px_runV (As := [.int z821]) (rest := []) S (c_mr_give l D cs nf q qr qg qf qa h r g tf ta pf na ma wa cf ca ef ea xf xa z821  (show 0 ≤ (qf 10).toInt from by first | exact g2 | omega) (show (qf 10).toInt < 62500 from by first | exact oz_7621ce4cd5 g3 | omega) _) hT (pr := []) (pcs := [wd_Mpr cs q qr (fun k => if k = 0 then (some h) else none) qf qa qg, wdP cs h r g tf ta pf na ma wa cf ca ef ea xf xa]) hw (oX_call (P := (fun A U H => (oP A g U H))) (pr := []) oG_P hw hA hP) (px_recv hT hw 0 0 rfl rfl rfl) m13_161 m13_158 m13_159 m13_160 m1_22 q_Mpr_give ⟨Nat.le_of_ble_eq_true rfl, Nat.le_of_ble_eq_true rfl⟩ hl.1 rfl (Nat.le_of_ble_eq_true rfl) d_Mpr_two_158 ⟨Nat.le_of_ble_eq_true rfl, Nat.le_of_ble_eq_true rfl⟩) hw hA (fun p826 H locs hp826 hw => ?_)
            obtain ⟨qf824, qa825, rfl, e828, e829, e830, e831, e832, e833, e834, e835, e836, e837, e838, e839, e840, e841, e842, e843⟩ := hp826
            replace e828 : (qf824 10).toInt = (qf 10).toInt + 1 := e828
            replace e829 : (qf824 1).toInt = (qf 1).toInt := e829
            replace e830 : (qf824 2).toInt = (qf 2).toInt := e830
            replace e831 : (qf824 3).toInt = (qf 3).toInt := e831
            replace e832 : (qf824 4).toInt = (qf 4).toInt := e832
            replace e833 : (qf824 5).toInt = (qf 5).toInt := e833
            replace e834 : (qf824 6).toInt = (qf 6).toInt := e834
            replace e835 : (qf824 7).toInt = (qf 7).toInt := e835
            replace e836 : (qf824 11).toInt = (qf 11).toInt := e836
            replace e837 : (qf824 12).toInt = (qf 12).toInt := e837
            replace e838 : (qf824 13).toInt = (qf 13).toInt := e838
            replace e839 : (qf824 14).toInt = (qf 14).toInt := e839
            replace e840 : (qf824 21).toInt = (qf 21).toInt := e840
            replace e841 : (qf824 23).toInt = (qf 23).toInt := e841
            replace e842 : (qf824 24).toInt = (qf 24).toInt := e842
            replace e843 : NuU qa qa825 9 (qf 10).toInt z821 := e843
            skip
            replace hw : pw D A s.heap H locs [wd_Mpr cs q qr (fun k => if k = 0 then (some h) else none) qf824 qa825 qg, wdP cs h r g tf ta pf na ma wa cf ca ef ea xf xa] := hw
            exact px_vret S hr hlk hAe hw (Nat.le_of_ble_eq_true rfl) (Nat.le_of_ble_eq_true rfl) (⟨qf824, qa825, rfl, (show TwO (qf824 2).toInt (qf 2).toInt (qf824 10).toInt (qf 10).toInt from (Or.inl ⟨by omega, by omega⟩)), (show (qf824 1).toInt = (qf 1).toInt from by first | exact e829 | omega), (show (qf824 4).toInt = (qf 4).toInt from by first | exact e832 | omega), (show (qf824 5).toInt = (qf 5).toInt from by first | exact e833 | omega), (show (qf824 6).toInt = (qf 6).toInt from by first | exact e834 | omega), (show (qf824 7).toInt = (qf 7).toInt from by first | exact e835 | omega), (show (qf824 11).toInt = (qf 11).toInt from by first | exact e836 | omega), (show (qf824 12).toInt = (qf 12).toInt from by first | exact e837 | omega), (show (qf824 13).toInt = (qf 13).toInt from by first | exact e838 | omega), (show (qf824 14).toInt = (qf 14).toInt from by first | exact e839 | omega), (show (qf824 21).toInt = (qf 21).toInt from by first | exact e840 | omega), (show (qf824 23).toInt = (qf 23).toInt from by first | exact e841 | omega), (show (qf824 24).toInt = (qf 24).toInt from by first | exact e842 | omega), (show WrU qa qa825 (qf 10).toInt (-1) from e843.w)⟩) d_Mpr_two_161
        · have nc760 : ¬ p1.toInt = p2.toInt := mt (i_eq (x := p1) (y := p2)).mpr c760
          refine lv_iconst (v := 1) S.x S.b d_Mpr_two_60 (by decide) ?_
          refine lv_goto (tgt := 113) S.x S.b d_Mpr_two_61 (by decide) ?_
          refine lv_istore (lv' := [(6, .int 1), (5, .int v288), (4, .ref sk284), (0, .ref q), (1, .int p0), (2, .int p1), (3, .int p2)]) S.x S.b d_Mpr_two_113 hl (by decide) rfl (fun ls hl => ?_)
          refine lv_aload_n S.x S.b d_Mpr_two_115 rfl (lv_at hl 3 rfl) ?_
          refine lv_aload S.x S.b d_Mpr_two_116 (lv_at hl 2 rfl) ?_
          obtain ⟨sk844, hRsk844, st845, sb846, hSsk844⟩ := oLW_lit hSh (k := 186) (tx := "<<") (n := 2) (by decide)
          refine va_ldcS S.x S.b S.own hRsk844 d_Mpr_two_118 ?_
          refine px_calli (pr := [wd_Mpr cs q qr (fun k => if k = 0 then (some h) else none) qf qa qg, wdP cs h r g tf ta pf na ma wa cf ca ef ea xf xa]) (px_runV (As := [.ref sk844]) (rest := [.ref q]) S (c_sg_equals l D cs sk284 st285 (mlen p0.toNatClampNeg) sb286 sk844 st845 2 sb846   (show (mlen p0.toNatClampNeg) ≤ 1000000 from by first | exact oz_f8a16524ad e292 nc293 | omega) (show 2 ≤ 1000000 from by first | decide | omega) _) hT (pr := [wd_Mpr cs q qr (fun k => if k = 0 then (some h) else none) qf qa qg, wdP cs h r g tf ta pf na ma wa cf ca ef ea xf xa]) (pcs := []) hw (oX_call (P := (fun A U H => (oZ A U H) ∧ (oS A sk284 st285 (mlen p0.toNatClampNeg) sb286 U H) ∧ (oS A sk844 st845 2 sb846 U H))) (pr := [wd_Mpr cs q qr (fun k => if k = 0 then (some h) else none) qf qa qg, wdP cs h r g tf ta pf na ma wa cf ca ef ea xf xa]) (oG_and oG_Z (oG_and oG_S oG_S)) hw hA ⟨hZ, hSsk284, hSsk844⟩) (oS_recv hw hSsk284) m11_225 m14_155 m11_223 m11_224 m1_3 q_String_equals ⟨Nat.le_of_ble_eq_true rfl, Nat.le_of_ble_eq_true rfl⟩ hl.1 rfl (Nat.le_of_ble_eq_true rfl) d_Mpr_two_120 ⟨Nat.le_of_ble_eq_true rfl, Nat.le_of_ble_eq_true rfl⟩) hw hA (fun v848 p847 H locs hp847 hw => ?_)
          obtain ⟨rfl, e849⟩ := hp847
          have e849 := z_rng e849
          replace hw : pw D A s.heap H locs [wd_Mpr cs q qr (fun k => if k = 0 then (some h) else none) qf qa qg, wdP cs h r g tf ta pf na ma wa cf ca ef ea xf xa] := hw
          have lv848 := Int32.le_toInt v848
          have uv848 := Int32.toInt_lt v848
          refine lv_if_eq (tgt := 132) S.x S.b d_Mpr_two_123 (by decide) (fun c850 => ?_) (fun c850 => ?_)
          · have nc850 : v848.toInt = (0 : Int) := (i_eq (x := v848) (y := 0)).mp c850
            refine lv_aload S.x S.b d_Mpr_two_132 (lv_at hl 2 rfl) ?_
            obtain ⟨sk851, hRsk851, st852, sb853, hSsk851⟩ := oLW_lit hSh (k := 192) (tx := ">>") (n := 2) (by decide)
            refine va_ldcS S.x S.b S.own hRsk851 d_Mpr_two_134 ?_
            refine px_calli (pr := [wd_Mpr cs q qr (fun k => if k = 0 then (some h) else none) qf qa qg, wdP cs h r g tf ta pf na ma wa cf ca ef ea xf xa]) (px_runV (As := [.ref sk851]) (rest := [.ref q]) S (c_sg_equals l D cs sk284 st285 (mlen p0.toNatClampNeg) sb286 sk851 st852 2 sb853   (show (mlen p0.toNatClampNeg) ≤ 1000000 from by first | exact oz_f8a16524ad e292 nc293 | omega) (show 2 ≤ 1000000 from by first | decide | omega) _) hT (pr := [wd_Mpr cs q qr (fun k => if k = 0 then (some h) else none) qf qa qg, wdP cs h r g tf ta pf na ma wa cf ca ef ea xf xa]) (pcs := []) hw (oX_call (P := (fun A U H => (oZ A U H) ∧ (oS A sk284 st285 (mlen p0.toNatClampNeg) sb286 U H) ∧ (oS A sk851 st852 2 sb853 U H))) (pr := [wd_Mpr cs q qr (fun k => if k = 0 then (some h) else none) qf qa qg, wdP cs h r g tf ta pf na ma wa cf ca ef ea xf xa]) (oG_and oG_Z (oG_and oG_S oG_S)) hw hA ⟨hZ, hSsk284, hSsk851⟩) (oS_recv hw hSsk284) m11_225 m14_155 m11_223 m11_224 m1_3 q_String_equals ⟨Nat.le_of_ble_eq_true rfl, Nat.le_of_ble_eq_true rfl⟩ hl.1 rfl (Nat.le_of_ble_eq_true rfl) d_Mpr_two_136 ⟨Nat.le_of_ble_eq_true rfl, Nat.le_of_ble_eq_true rfl⟩) hw hA (fun v855 p854 H locs hp854 hw => ?_)
            obtain ⟨rfl, e856⟩ := hp854
            have e856 := z_rng e856
            replace hw : pw D A s.heap H locs [wd_Mpr cs q qr (fun k => if k = 0 then (some h) else none) qf qa qg, wdP cs h r g tf ta pf na ma wa cf ca ef ea xf xa] := hw
            have lv855 := Int32.le_toInt v855
            have uv855 := Int32.toInt_lt v855
            refine lv_if_eq (tgt := 148) S.x S.b d_Mpr_two_139 (by decide) (fun c857 => ?_) (fun c857 => ?_)
            · have nc857 : v855.toInt = (0 : Int) := (i_eq (x := v855) (y := 0)).mp c857
              refine lv_iload S.x S.b d_Mpr_two_148 (lv_at hl 0 rfl) ?_
              refine lv_if_eq (tgt := 157) S.x S.b d_Mpr_two_150 (by decide) (fun c858 => ?_) (fun c858 => ?_)
              · exact absurd c858 (by decide)
              ·
                refine lv_iconst (v := 1) S.x S.b d_Mpr_two_153 (by decide) ?_
                refine lv_goto (tgt := 158) S.x S.b d_Mpr_two_154 (by decide) ?_
                refine px_callv (pr := []) (px_runV (As := [.int 1]) (rest := []) S (c_mr_give l D cs nf q qr qg qf qa h r g tf ta pf na ma wa cf ca ef ea xf xa 1  (show 0 ≤ (qf 10).toInt from by first | exact g2 | omega) (show (qf 10).toInt < 62500 from by first | exact oz_7621ce4cd5 g3 | omega) _) hT (pr := []) (pcs := [wd_Mpr cs q qr (fun k => if k = 0 then (some h) else none) qf qa qg, wdP cs h r g tf ta pf na ma wa cf ca ef ea xf xa]) hw (oX_call (P := (fun A U H => (oP A g U H))) (pr := []) oG_P hw hA hP) (px_recv hT hw 0 0 rfl rfl rfl) m13_161 m13_158 m13_159 m13_160 m1_22 q_Mpr_give ⟨Nat.le_of_ble_eq_true rfl, Nat.le_of_ble_eq_true rfl⟩ hl.1 rfl (Nat.le_of_ble_eq_true rfl) d_Mpr_two_158 ⟨Nat.le_of_ble_eq_true rfl, Nat.le_of_ble_eq_true rfl⟩) hw hA (fun p863 H locs hp863 hw => ?_)
                obtain ⟨qf861, qa862, rfl, e865, e866, e867, e868, e869, e870, e871, e872, e873, e874, e875, e876, e877, e878, e879, e880⟩ := hp863
                replace e865 : (qf861 10).toInt = (qf 10).toInt + 1 := e865
                replace e866 : (qf861 1).toInt = (qf 1).toInt := e866
                replace e867 : (qf861 2).toInt = (qf 2).toInt := e867
                replace e868 : (qf861 3).toInt = (qf 3).toInt := e868
                replace e869 : (qf861 4).toInt = (qf 4).toInt := e869
                replace e870 : (qf861 5).toInt = (qf 5).toInt := e870
                replace e871 : (qf861 6).toInt = (qf 6).toInt := e871
                replace e872 : (qf861 7).toInt = (qf 7).toInt := e872
                replace e873 : (qf861 11).toInt = (qf 11).toInt := e873
                replace e874 : (qf861 12).toInt = (qf 12).toInt := e874
                replace e875 : (qf861 13).toInt = (qf 13).toInt := e875
                replace e876 : (qf861 14).toInt = (qf 14).toInt := e876
                replace e877 : (qf861 21).toInt = (qf 21).toInt := e877
                replace e878 : (qf861 23).toInt = (qf 23).toInt := e878
                replace e879 : (qf861 24).toInt = (qf 24).toInt := e879
                replace e880 : NuU qa qa862 9 (qf 10).toInt (1 : Int32) := e880
                skip
                replace hw : pw D A s.heap H locs [wd_Mpr cs q qr (fun k => if k = 0 then (some h) else none) qf861 qa862 qg, wdP cs h r g tf ta pf na ma wa cf ca ef ea xf xa] := hw
                exact px_vret S hr hlk hAe hw (Nat.le_of_ble_eq_true rfl) (Nat.le_of_ble_eq_true rfl) (⟨qf861, qa862, rfl, (show TwO (qf861 2).toInt (qf 2).toInt (qf861 10).toInt (qf 10).toInt from (Or.inl ⟨by omega, by omega⟩)), (show (qf861 1).toInt = (qf 1).toInt from by first | exact e866 | omega), (show (qf861 4).toInt = (qf 4).toInt from by first | exact e869 | omega), (show (qf861 5).toInt = (qf 5).toInt from by first | exact e870 | omega), (show (qf861 6).toInt = (qf 6).toInt from by first | exact e871 | omega), (show (qf861 7).toInt = (qf 7).toInt from by first | exact e872 | omega), (show (qf861 11).toInt = (qf 11).toInt from by first | exact e873 | omega), (show (qf861 12).toInt = (qf 12).toInt from by first | exact e874 | omega), (show (qf861 13).toInt = (qf 13).toInt from by first | exact e875 | omega), (show (qf861 14).toInt = (qf 14).toInt from by first | exact e876 | omega), (show (qf861 21).toInt = (qf 21).toInt from by first | exact e877 | omega), (show (qf861 23).toInt = (qf 23).toInt from by first | exact e878 | omega), (show (qf861 24).toInt = (qf 24).toInt from by first | exact e879 | omega), (show WrU qa qa862 (qf 10).toInt (-1) from e880.w)⟩) d_Mpr_two_161
            · have nc857 : ¬ v855.toInt = (0 : Int) := mt (i_eq (x := v855) (y := 0)).mpr c857
              refine lv_iload_n S.x S.b d_Mpr_two_142 rfl (lv_at hl 5 rfl) ?_
              refine lv_iload_n S.x S.b d_Mpr_two_143 rfl (lv_at hl 6 rfl) ?_
              refine lv_ishr S.x S.b d_Mpr_two_144 ?_
              refine lv_topi (fun z881 ez881 => ?_)
              have lz881 := Int32.le_toInt z881
              have uz881 := Int32.toInt_lt z881
              refine lv_goto (tgt := 158) S.x S.b d_Mpr_two_145 (by decide) ?_
              refine px_callv (pr := []) (px_runV (As := [.int z881]) (rest := []) S (c_mr_give l D cs nf q qr qg qf qa h r g tf ta pf na ma wa cf ca ef ea xf xa z881  (show 0 ≤ (qf 10).toInt from by first | exact g2 | omega) (show (qf 10).toInt < 62500 from by first | exact oz_7621ce4cd5 g3 | omega) _) hT (pr := []) (pcs := [wd_Mpr cs q qr (fun k => if k = 0 then (some h) else none) qf qa qg, wdP cs h r g tf ta pf na ma wa cf ca ef ea xf xa]) hw (oX_call (P := (fun A U H => (oP A g U H))) (pr := []) oG_P hw hA hP) (px_recv hT hw 0 0 rfl rfl rfl) m13_161 m13_158 m13_159 m13_160 m1_22 q_Mpr_give ⟨Nat.le_of_ble_eq_true rfl, Nat.le_of_ble_eq_true rfl⟩ hl.1 rfl (Nat.le_of_ble_eq_true rfl) d_Mpr_two_158 ⟨Nat.le_of_ble_eq_true rfl, Nat.le_of_ble_eq_true rfl⟩) hw hA (fun p886 H locs hp886 hw => ?_)
              obtain ⟨qf884, qa885, rfl, e888, e889, e890, e891, e892, e893, e894, e895, e896, e897, e898, e899, e900, e901, e902, e903⟩ := hp886
              replace e888 : (qf884 10).toInt = (qf 10).toInt + 1 := e888
              replace e889 : (qf884 1).toInt = (qf 1).toInt := e889
              replace e890 : (qf884 2).toInt = (qf 2).toInt := e890
              replace e891 : (qf884 3).toInt = (qf 3).toInt := e891
              replace e892 : (qf884 4).toInt = (qf 4).toInt := e892
              replace e893 : (qf884 5).toInt = (qf 5).toInt := e893
              replace e894 : (qf884 6).toInt = (qf 6).toInt := e894
              replace e895 : (qf884 7).toInt = (qf 7).toInt := e895
              replace e896 : (qf884 11).toInt = (qf 11).toInt := e896
              replace e897 : (qf884 12).toInt = (qf 12).toInt := e897
              replace e898 : (qf884 13).toInt = (qf 13).toInt := e898
              replace e899 : (qf884 14).toInt = (qf 14).toInt := e899
              replace e900 : (qf884 21).toInt = (qf 21).toInt := e900
              replace e901 : (qf884 23).toInt = (qf 23).toInt := e901
              replace e902 : (qf884 24).toInt = (qf 24).toInt := e902
              replace e903 : NuU qa qa885 9 (qf 10).toInt z881 := e903
              skip
              replace hw : pw D A s.heap H locs [wd_Mpr cs q qr (fun k => if k = 0 then (some h) else none) qf884 qa885 qg, wdP cs h r g tf ta pf na ma wa cf ca ef ea xf xa] := hw
              exact px_vret S hr hlk hAe hw (Nat.le_of_ble_eq_true rfl) (Nat.le_of_ble_eq_true rfl) (⟨qf884, qa885, rfl, (show TwO (qf884 2).toInt (qf 2).toInt (qf884 10).toInt (qf 10).toInt from (Or.inl ⟨by omega, by omega⟩)), (show (qf884 1).toInt = (qf 1).toInt from by first | exact e889 | omega), (show (qf884 4).toInt = (qf 4).toInt from by first | exact e892 | omega), (show (qf884 5).toInt = (qf 5).toInt from by first | exact e893 | omega), (show (qf884 6).toInt = (qf 6).toInt from by first | exact e894 | omega), (show (qf884 7).toInt = (qf 7).toInt from by first | exact e895 | omega), (show (qf884 11).toInt = (qf 11).toInt from by first | exact e896 | omega), (show (qf884 12).toInt = (qf 12).toInt from by first | exact e897 | omega), (show (qf884 13).toInt = (qf 13).toInt from by first | exact e898 | omega), (show (qf884 14).toInt = (qf 14).toInt from by first | exact e899 | omega), (show (qf884 21).toInt = (qf 21).toInt from by first | exact e900 | omega), (show (qf884 23).toInt = (qf 23).toInt from by first | exact e901 | omega), (show (qf884 24).toInt = (qf 24).toInt from by first | exact e902 | omega), (show WrU qa qa885 (qf 10).toInt (-1) from e903.w)⟩) d_Mpr_two_161
          · have nc850 : ¬ v848.toInt = (0 : Int) := mt (i_eq (x := v848) (y := 0)).mpr c850
            refine lv_iload_n S.x S.b d_Mpr_two_126 rfl (lv_at hl 5 rfl) ?_
            refine lv_iload_n S.x S.b d_Mpr_two_127 rfl (lv_at hl 6 rfl) ?_
            refine lv_ishl S.x S.b d_Mpr_two_128 ?_
            refine lv_topi (fun z904 ez904 => ?_)
            have lz904 := Int32.le_toInt z904
            have uz904 := Int32.toInt_lt z904
            refine lv_goto (tgt := 158) S.x S.b d_Mpr_two_129 (by decide) ?_
            refine px_callv (pr := []) (px_runV (As := [.int z904]) (rest := []) S (c_mr_give l D cs nf q qr qg qf qa h r g tf ta pf na ma wa cf ca ef ea xf xa z904  (show 0 ≤ (qf 10).toInt from by first | exact g2 | omega) (show (qf 10).toInt < 62500 from by first | exact oz_7621ce4cd5 g3 | omega) _) hT (pr := []) (pcs := [wd_Mpr cs q qr (fun k => if k = 0 then (some h) else none) qf qa qg, wdP cs h r g tf ta pf na ma wa cf ca ef ea xf xa]) hw (oX_call (P := (fun A U H => (oP A g U H))) (pr := []) oG_P hw hA hP) (px_recv hT hw 0 0 rfl rfl rfl) m13_161 m13_158 m13_159 m13_160 m1_22 q_Mpr_give ⟨Nat.le_of_ble_eq_true rfl, Nat.le_of_ble_eq_true rfl⟩ hl.1 rfl (Nat.le_of_ble_eq_true rfl) d_Mpr_two_158 ⟨Nat.le_of_ble_eq_true rfl, Nat.le_of_ble_eq_true rfl⟩) hw hA (fun p909 H locs hp909 hw => ?_)
            obtain ⟨qf907, qa908, rfl, e911, e912, e913, e914, e915, e916, e917, e918, e919, e920, e921, e922, e923, e924, e925, e926⟩ := hp909
            replace e911 : (qf907 10).toInt = (qf 10).toInt + 1 := e911
            replace e912 : (qf907 1).toInt = (qf 1).toInt := e912
            replace e913 : (qf907 2).toInt = (qf 2).toInt := e913
            replace e914 : (qf907 3).toInt = (qf 3).toInt := e914
            replace e915 : (qf907 4).toInt = (qf 4).toInt := e915
            replace e916 : (qf907 5).toInt = (qf 5).toInt := e916
            replace e917 : (qf907 6).toInt = (qf 6).toInt := e917
            replace e918 : (qf907 7).toInt = (qf 7).toInt := e918
            replace e919 : (qf907 11).toInt = (qf 11).toInt := e919
            replace e920 : (qf907 12).toInt = (qf 12).toInt := e920
            replace e921 : (qf907 13).toInt = (qf 13).toInt := e921
            replace e922 : (qf907 14).toInt = (qf 14).toInt := e922
            replace e923 : (qf907 21).toInt = (qf 21).toInt := e923
            replace e924 : (qf907 23).toInt = (qf 23).toInt := e924
            replace e925 : (qf907 24).toInt = (qf 24).toInt := e925
            replace e926 : NuU qa qa908 9 (qf 10).toInt z904 := e926
            skip
            replace hw : pw D A s.heap H locs [wd_Mpr cs q qr (fun k => if k = 0 then (some h) else none) qf907 qa908 qg, wdP cs h r g tf ta pf na ma wa cf ca ef ea xf xa] := hw
            exact px_vret S hr hlk hAe hw (Nat.le_of_ble_eq_true rfl) (Nat.le_of_ble_eq_true rfl) (⟨qf907, qa908, rfl, (show TwO (qf907 2).toInt (qf 2).toInt (qf907 10).toInt (qf 10).toInt from (Or.inl ⟨by omega, by omega⟩)), (show (qf907 1).toInt = (qf 1).toInt from by first | exact e912 | omega), (show (qf907 4).toInt = (qf 4).toInt from by first | exact e915 | omega), (show (qf907 5).toInt = (qf 5).toInt from by first | exact e916 | omega), (show (qf907 6).toInt = (qf 6).toInt from by first | exact e917 | omega), (show (qf907 7).toInt = (qf 7).toInt from by first | exact e918 | omega), (show (qf907 11).toInt = (qf 11).toInt from by first | exact e919 | omega), (show (qf907 12).toInt = (qf 12).toInt from by first | exact e920 | omega), (show (qf907 13).toInt = (qf 13).toInt from by first | exact e921 | omega), (show (qf907 14).toInt = (qf 14).toInt from by first | exact e922 | omega), (show (qf907 21).toInt = (qf 21).toInt from by first | exact e923 | omega), (show (qf907 23).toInt = (qf 23).toInt from by first | exact e924 | omega), (show (qf907 24).toInt = (qf 24).toInt from by first | exact e925 | omega), (show WrU qa qa908 (qf 10).toInt (-1) from e926.w)⟩) d_Mpr_two_161
    · have nc336 : v288.toInt = (61 : Int) := (i_eq (x := v288) (y := 61)).mp c336
      refine lv_iload_n S.x S.b d_Mpr_two_35 rfl (lv_at hl 4 rfl) ?_
      refine lv_iload_n S.x S.b d_Mpr_two_36 rfl (lv_at hl 5 rfl) ?_
      refine lv_icmp_ne (tgt := 44) S.x S.b d_Mpr_two_37 (by decide) (fun c927 => ?_) (fun c927 => ?_)
      · have nc927 : ¬ p1.toInt = p2.toInt := mt (i_eq (x := p1) (y := p2)).mpr c927
        refine lv_iconst (v := 0) S.x S.b d_Mpr_two_44 (by decide) ?_
        refine lv_goto (tgt := 113) S.x S.b d_Mpr_two_45 (by decide) ?_
        refine lv_istore (lv' := [(6, .int 0), (5, .int v288), (4, .ref sk284), (0, .ref q), (1, .int p0), (2, .int p1), (3, .int p2)]) S.x S.b d_Mpr_two_113 hl (by decide) rfl (fun ls hl => ?_)
        refine lv_aload_n S.x S.b d_Mpr_two_115 rfl (lv_at hl 3 rfl) ?_
        refine lv_aload S.x S.b d_Mpr_two_116 (lv_at hl 2 rfl) ?_
        obtain ⟨sk928, hRsk928, st929, sb930, hSsk928⟩ := oLW_lit hSh (k := 186) (tx := "<<") (n := 2) (by decide)
        refine va_ldcS S.x S.b S.own hRsk928 d_Mpr_two_118 ?_
        refine px_calli (pr := [wd_Mpr cs q qr (fun k => if k = 0 then (some h) else none) qf qa qg, wdP cs h r g tf ta pf na ma wa cf ca ef ea xf xa]) (px_runV (As := [.ref sk928]) (rest := [.ref q]) S (c_sg_equals l D cs sk284 st285 (mlen p0.toNatClampNeg) sb286 sk928 st929 2 sb930   (show (mlen p0.toNatClampNeg) ≤ 1000000 from by first | exact oz_f8a16524ad e292 nc293 | omega) (show 2 ≤ 1000000 from by first | decide | omega) _) hT (pr := [wd_Mpr cs q qr (fun k => if k = 0 then (some h) else none) qf qa qg, wdP cs h r g tf ta pf na ma wa cf ca ef ea xf xa]) (pcs := []) hw (oX_call (P := (fun A U H => (oZ A U H) ∧ (oS A sk284 st285 (mlen p0.toNatClampNeg) sb286 U H) ∧ (oS A sk928 st929 2 sb930 U H))) (pr := [wd_Mpr cs q qr (fun k => if k = 0 then (some h) else none) qf qa qg, wdP cs h r g tf ta pf na ma wa cf ca ef ea xf xa]) (oG_and oG_Z (oG_and oG_S oG_S)) hw hA ⟨hZ, hSsk284, hSsk928⟩) (oS_recv hw hSsk284) m11_225 m14_155 m11_223 m11_224 m1_3 q_String_equals ⟨Nat.le_of_ble_eq_true rfl, Nat.le_of_ble_eq_true rfl⟩ hl.1 rfl (Nat.le_of_ble_eq_true rfl) d_Mpr_two_120 ⟨Nat.le_of_ble_eq_true rfl, Nat.le_of_ble_eq_true rfl⟩) hw hA (fun v932 p931 H locs hp931 hw => ?_)
        obtain ⟨rfl, e933⟩ := hp931
        have e933 := z_rng e933
        replace hw : pw D A s.heap H locs [wd_Mpr cs q qr (fun k => if k = 0 then (some h) else none) qf qa qg, wdP cs h r g tf ta pf na ma wa cf ca ef ea xf xa] := hw
        have lv932 := Int32.le_toInt v932
        have uv932 := Int32.toInt_lt v932
        refine lv_if_eq (tgt := 132) S.x S.b d_Mpr_two_123 (by decide) (fun c934 => ?_) (fun c934 => ?_)
        · have nc934 : v932.toInt = (0 : Int) := (i_eq (x := v932) (y := 0)).mp c934
          refine lv_aload S.x S.b d_Mpr_two_132 (lv_at hl 2 rfl) ?_
          obtain ⟨sk935, hRsk935, st936, sb937, hSsk935⟩ := oLW_lit hSh (k := 192) (tx := ">>") (n := 2) (by decide)
          refine va_ldcS S.x S.b S.own hRsk935 d_Mpr_two_134 ?_
          refine px_calli (pr := [wd_Mpr cs q qr (fun k => if k = 0 then (some h) else none) qf qa qg, wdP cs h r g tf ta pf na ma wa cf ca ef ea xf xa]) (px_runV (As := [.ref sk935]) (rest := [.ref q]) S (c_sg_equals l D cs sk284 st285 (mlen p0.toNatClampNeg) sb286 sk935 st936 2 sb937   (show (mlen p0.toNatClampNeg) ≤ 1000000 from by first | exact oz_f8a16524ad e292 nc293 | omega) (show 2 ≤ 1000000 from by first | decide | omega) _) hT (pr := [wd_Mpr cs q qr (fun k => if k = 0 then (some h) else none) qf qa qg, wdP cs h r g tf ta pf na ma wa cf ca ef ea xf xa]) (pcs := []) hw (oX_call (P := (fun A U H => (oZ A U H) ∧ (oS A sk284 st285 (mlen p0.toNatClampNeg) sb286 U H) ∧ (oS A sk935 st936 2 sb937 U H))) (pr := [wd_Mpr cs q qr (fun k => if k = 0 then (some h) else none) qf qa qg, wdP cs h r g tf ta pf na ma wa cf ca ef ea xf xa]) (oG_and oG_Z (oG_and oG_S oG_S)) hw hA ⟨hZ, hSsk284, hSsk935⟩) (oS_recv hw hSsk284) m11_225 m14_155 m11_223 m11_224 m1_3 q_String_equals ⟨Nat.le_of_ble_eq_true rfl, Nat.le_of_ble_eq_true rfl⟩ hl.1 rfl (Nat.le_of_ble_eq_true rfl) d_Mpr_two_136 ⟨Nat.le_of_ble_eq_true rfl, Nat.le_of_ble_eq_true rfl⟩) hw hA (fun v939 p938 H locs hp938 hw => ?_)
          obtain ⟨rfl, e940⟩ := hp938
          have e940 := z_rng e940
          replace hw : pw D A s.heap H locs [wd_Mpr cs q qr (fun k => if k = 0 then (some h) else none) qf qa qg, wdP cs h r g tf ta pf na ma wa cf ca ef ea xf xa] := hw
          have lv939 := Int32.le_toInt v939
          have uv939 := Int32.toInt_lt v939
          refine lv_if_eq (tgt := 148) S.x S.b d_Mpr_two_139 (by decide) (fun c941 => ?_) (fun c941 => ?_)
          · have nc941 : v939.toInt = (0 : Int) := (i_eq (x := v939) (y := 0)).mp c941
            refine lv_iload S.x S.b d_Mpr_two_148 (lv_at hl 0 rfl) ?_
            refine lv_if_eq (tgt := 157) S.x S.b d_Mpr_two_150 (by decide) (fun c942 => ?_) (fun c942 => ?_)
            ·
              refine lv_iconst (v := 0) S.x S.b d_Mpr_two_157 (by decide) ?_
              refine px_callv (pr := []) (px_runV (As := [.int 0]) (rest := []) S (c_mr_give l D cs nf q qr qg qf qa h r g tf ta pf na ma wa cf ca ef ea xf xa 0  (show 0 ≤ (qf 10).toInt from by first | exact g2 | omega) (show (qf 10).toInt < 62500 from by first | exact oz_7621ce4cd5 g3 | omega) _) hT (pr := []) (pcs := [wd_Mpr cs q qr (fun k => if k = 0 then (some h) else none) qf qa qg, wdP cs h r g tf ta pf na ma wa cf ca ef ea xf xa]) hw (oX_call (P := (fun A U H => (oP A g U H))) (pr := []) oG_P hw hA hP) (px_recv hT hw 0 0 rfl rfl rfl) m13_161 m13_158 m13_159 m13_160 m1_22 q_Mpr_give ⟨Nat.le_of_ble_eq_true rfl, Nat.le_of_ble_eq_true rfl⟩ hl.1 rfl (Nat.le_of_ble_eq_true rfl) d_Mpr_two_158 ⟨Nat.le_of_ble_eq_true rfl, Nat.le_of_ble_eq_true rfl⟩) hw hA (fun p947 H locs hp947 hw => ?_)
              obtain ⟨qf945, qa946, rfl, e949, e950, e951, e952, e953, e954, e955, e956, e957, e958, e959, e960, e961, e962, e963, e964⟩ := hp947
              replace e949 : (qf945 10).toInt = (qf 10).toInt + 1 := e949
              replace e950 : (qf945 1).toInt = (qf 1).toInt := e950
              replace e951 : (qf945 2).toInt = (qf 2).toInt := e951
              replace e952 : (qf945 3).toInt = (qf 3).toInt := e952
              replace e953 : (qf945 4).toInt = (qf 4).toInt := e953
              replace e954 : (qf945 5).toInt = (qf 5).toInt := e954
              replace e955 : (qf945 6).toInt = (qf 6).toInt := e955
              replace e956 : (qf945 7).toInt = (qf 7).toInt := e956
              replace e957 : (qf945 11).toInt = (qf 11).toInt := e957
              replace e958 : (qf945 12).toInt = (qf 12).toInt := e958
              replace e959 : (qf945 13).toInt = (qf 13).toInt := e959
              replace e960 : (qf945 14).toInt = (qf 14).toInt := e960
              replace e961 : (qf945 21).toInt = (qf 21).toInt := e961
              replace e962 : (qf945 23).toInt = (qf 23).toInt := e962
              replace e963 : (qf945 24).toInt = (qf 24).toInt := e963
              replace e964 : NuU qa qa946 9 (qf 10).toInt (0 : Int32) := e964
              skip
              replace hw : pw D A s.heap H locs [wd_Mpr cs q qr (fun k => if k = 0 then (some h) else none) qf945 qa946 qg, wdP cs h r g tf ta pf na ma wa cf ca ef ea xf xa] := hw
              exact px_vret S hr hlk hAe hw (Nat.le_of_ble_eq_true rfl) (Nat.le_of_ble_eq_true rfl) (⟨qf945, qa946, rfl, (show TwO (qf945 2).toInt (qf 2).toInt (qf945 10).toInt (qf 10).toInt from (Or.inl ⟨by omega, by omega⟩)), (show (qf945 1).toInt = (qf 1).toInt from by first | exact e950 | omega), (show (qf945 4).toInt = (qf 4).toInt from by first | exact e953 | omega), (show (qf945 5).toInt = (qf 5).toInt from by first | exact e954 | omega), (show (qf945 6).toInt = (qf 6).toInt from by first | exact e955 | omega), (show (qf945 7).toInt = (qf 7).toInt from by first | exact e956 | omega), (show (qf945 11).toInt = (qf 11).toInt from by first | exact e957 | omega), (show (qf945 12).toInt = (qf 12).toInt from by first | exact e958 | omega), (show (qf945 13).toInt = (qf 13).toInt from by first | exact e959 | omega), (show (qf945 14).toInt = (qf 14).toInt from by first | exact e960 | omega), (show (qf945 21).toInt = (qf 21).toInt from by first | exact e961 | omega), (show (qf945 23).toInt = (qf 23).toInt from by first | exact e962 | omega), (show (qf945 24).toInt = (qf 24).toInt from by first | exact e963 | omega), (show WrU qa qa946 (qf 10).toInt (-1) from e964.w)⟩) d_Mpr_two_161
            · exact absurd c942 (by decide)
          · have nc941 : ¬ v939.toInt = (0 : Int) := mt (i_eq (x := v939) (y := 0)).mpr c941
            refine lv_iload_n S.x S.b d_Mpr_two_142 rfl (lv_at hl 5 rfl) ?_
            refine lv_iload_n S.x S.b d_Mpr_two_143 rfl (lv_at hl 6 rfl) ?_
            refine lv_ishr S.x S.b d_Mpr_two_144 ?_
            refine lv_topi (fun z965 ez965 => ?_)
            have lz965 := Int32.le_toInt z965
            have uz965 := Int32.toInt_lt z965
            refine lv_goto (tgt := 158) S.x S.b d_Mpr_two_145 (by decide) ?_
            refine px_callv (pr := []) (px_runV (As := [.int z965]) (rest := []) S (c_mr_give l D cs nf q qr qg qf qa h r g tf ta pf na ma wa cf ca ef ea xf xa z965  (show 0 ≤ (qf 10).toInt from by first | exact g2 | omega) (show (qf 10).toInt < 62500 from by first | exact oz_7621ce4cd5 g3 | omega) _) hT (pr := []) (pcs := [wd_Mpr cs q qr (fun k => if k = 0 then (some h) else none) qf qa qg, wdP cs h r g tf ta pf na ma wa cf ca ef ea xf xa]) hw (oX_call (P := (fun A U H => (oP A g U H))) (pr := []) oG_P hw hA hP) (px_recv hT hw 0 0 rfl rfl rfl) m13_161 m13_158 m13_159 m13_160 m1_22 q_Mpr_give ⟨Nat.le_of_ble_eq_true rfl, Nat.le_of_ble_eq_true rfl⟩ hl.1 rfl (Nat.le_of_ble_eq_true rfl) d_Mpr_two_158 ⟨Nat.le_of_ble_eq_true rfl, Nat.le_of_ble_eq_true rfl⟩) hw hA (fun p970 H locs hp970 hw => ?_)
            obtain ⟨qf968, qa969, rfl, e972, e973, e974, e975, e976, e977, e978, e979, e980, e981, e982, e983, e984, e985, e986, e987⟩ := hp970
            replace e972 : (qf968 10).toInt = (qf 10).toInt + 1 := e972
            replace e973 : (qf968 1).toInt = (qf 1).toInt := e973
            replace e974 : (qf968 2).toInt = (qf 2).toInt := e974
            replace e975 : (qf968 3).toInt = (qf 3).toInt := e975
            replace e976 : (qf968 4).toInt = (qf 4).toInt := e976
            replace e977 : (qf968 5).toInt = (qf 5).toInt := e977
            replace e978 : (qf968 6).toInt = (qf 6).toInt := e978
            replace e979 : (qf968 7).toInt = (qf 7).toInt := e979
            replace e980 : (qf968 11).toInt = (qf 11).toInt := e980
            replace e981 : (qf968 12).toInt = (qf 12).toInt := e981
            replace e982 : (qf968 13).toInt = (qf 13).toInt := e982
            replace e983 : (qf968 14).toInt = (qf 14).toInt := e983
            replace e984 : (qf968 21).toInt = (qf 21).toInt := e984
            replace e985 : (qf968 23).toInt = (qf 23).toInt := e985
            replace e986 : (qf968 24).toInt = (qf 24).toInt := e986
            replace e987 : NuU qa qa969 9 (qf 10).toInt z965 := e987
            skip
            replace hw : pw D A s.heap H locs [wd_Mpr cs q qr (fun k => if k = 0 then (some h) else none) qf968 qa969 qg, wdP cs h r g tf ta pf na ma wa cf ca ef ea xf xa] := hw
            exact px_vret S hr hlk hAe hw (Nat.le_of_ble_eq_true rfl) (Nat.le_of_ble_eq_true rfl) (⟨qf968, qa969, rfl, (show TwO (qf968 2).toInt (qf 2).toInt (qf968 10).toInt (qf 10).toInt from (Or.inl ⟨by omega, by omega⟩)), (show (qf968 1).toInt = (qf 1).toInt from by first | exact e973 | omega), (show (qf968 4).toInt = (qf 4).toInt from by first | exact e976 | omega), (show (qf968 5).toInt = (qf 5).toInt from by first | exact e977 | omega), (show (qf968 6).toInt = (qf 6).toInt from by first | exact e978 | omega), (show (qf968 7).toInt = (qf 7).toInt from by first | exact e979 | omega), (show (qf968 11).toInt = (qf 11).toInt from by first | exact e980 | omega), (show (qf968 12).toInt = (qf 12).toInt from by first | exact e981 | omega), (show (qf968 13).toInt = (qf 13).toInt from by first | exact e982 | omega), (show (qf968 14).toInt = (qf 14).toInt from by first | exact e983 | omega), (show (qf968 21).toInt = (qf 21).toInt from by first | exact e984 | omega), (show (qf968 23).toInt = (qf 23).toInt from by first | exact e985 | omega), (show (qf968 24).toInt = (qf 24).toInt from by first | exact e986 | omega), (show WrU qa qa969 (qf 10).toInt (-1) from e987.w)⟩) d_Mpr_two_161
        · have nc934 : ¬ v932.toInt = (0 : Int) := mt (i_eq (x := v932) (y := 0)).mpr c934
          refine lv_iload_n S.x S.b d_Mpr_two_126 rfl (lv_at hl 5 rfl) ?_
          refine lv_iload_n S.x S.b d_Mpr_two_127 rfl (lv_at hl 6 rfl) ?_
          refine lv_ishl S.x S.b d_Mpr_two_128 ?_
          refine lv_topi (fun z988 ez988 => ?_)
          have lz988 := Int32.le_toInt z988
          have uz988 := Int32.toInt_lt z988
          refine lv_goto (tgt := 158) S.x S.b d_Mpr_two_129 (by decide) ?_
          refine px_callv (pr := []) (px_runV (As := [.int z988]) (rest := []) S (c_mr_give l D cs nf q qr qg qf qa h r g tf ta pf na ma wa cf ca ef ea xf xa z988  (show 0 ≤ (qf 10).toInt from by first | exact g2 | omega) (show (qf 10).toInt < 62500 from by first | exact oz_7621ce4cd5 g3 | omega) _) hT (pr := []) (pcs := [wd_Mpr cs q qr (fun k => if k = 0 then (some h) else none) qf qa qg, wdP cs h r g tf ta pf na ma wa cf ca ef ea xf xa]) hw (oX_call (P := (fun A U H => (oP A g U H))) (pr := []) oG_P hw hA hP) (px_recv hT hw 0 0 rfl rfl rfl) m13_161 m13_158 m13_159 m13_160 m1_22 q_Mpr_give ⟨Nat.le_of_ble_eq_true rfl, Nat.le_of_ble_eq_true rfl⟩ hl.1 rfl (Nat.le_of_ble_eq_true rfl) d_Mpr_two_158 ⟨Nat.le_of_ble_eq_true rfl, Nat.le_of_ble_eq_true rfl⟩) hw hA (fun p993 H locs hp993 hw => ?_)
          obtain ⟨qf991, qa992, rfl, e995, e996, e997, e998, e999, e1000, e1001, e1002, e1003, e1004, e1005, e1006, e1007, e1008, e1009, e1010⟩ := hp993
          replace e995 : (qf991 10).toInt = (qf 10).toInt + 1 := e995
          replace e996 : (qf991 1).toInt = (qf 1).toInt := e996
          replace e997 : (qf991 2).toInt = (qf 2).toInt := e997
          replace e998 : (qf991 3).toInt = (qf 3).toInt := e998
          replace e999 : (qf991 4).toInt = (qf 4).toInt := e999
          replace e1000 : (qf991 5).toInt = (qf 5).toInt := e1000
          replace e1001 : (qf991 6).toInt = (qf 6).toInt := e1001
          replace e1002 : (qf991 7).toInt = (qf 7).toInt := e1002
          replace e1003 : (qf991 11).toInt = (qf 11).toInt := e1003
          replace e1004 : (qf991 12).toInt = (qf 12).toInt := e1004
          replace e1005 : (qf991 13).toInt = (qf 13).toInt := e1005
          replace e1006 : (qf991 14).toInt = (qf 14).toInt := e1006
          replace e1007 : (qf991 21).toInt = (qf 21).toInt := e1007
          replace e1008 : (qf991 23).toInt = (qf 23).toInt := e1008
          replace e1009 : (qf991 24).toInt = (qf 24).toInt := e1009
          replace e1010 : NuU qa qa992 9 (qf 10).toInt z988 := e1010
          skip
          replace hw : pw D A s.heap H locs [wd_Mpr cs q qr (fun k => if k = 0 then (some h) else none) qf991 qa992 qg, wdP cs h r g tf ta pf na ma wa cf ca ef ea xf xa] := hw
          exact px_vret S hr hlk hAe hw (Nat.le_of_ble_eq_true rfl) (Nat.le_of_ble_eq_true rfl) (⟨qf991, qa992, rfl, (show TwO (qf991 2).toInt (qf 2).toInt (qf991 10).toInt (qf 10).toInt from (Or.inl ⟨by omega, by omega⟩)), (show (qf991 1).toInt = (qf 1).toInt from by first | exact e996 | omega), (show (qf991 4).toInt = (qf 4).toInt from by first | exact e999 | omega), (show (qf991 5).toInt = (qf 5).toInt from by first | exact e1000 | omega), (show (qf991 6).toInt = (qf 6).toInt from by first | exact e1001 | omega), (show (qf991 7).toInt = (qf 7).toInt from by first | exact e1002 | omega), (show (qf991 11).toInt = (qf 11).toInt from by first | exact e1003 | omega), (show (qf991 12).toInt = (qf 12).toInt from by first | exact e1004 | omega), (show (qf991 13).toInt = (qf 13).toInt from by first | exact e1005 | omega), (show (qf991 14).toInt = (qf 14).toInt from by first | exact e1006 | omega), (show (qf991 21).toInt = (qf 21).toInt from by first | exact e1007 | omega), (show (qf991 23).toInt = (qf 23).toInt from by first | exact e1008 | omega), (show (qf991 24).toInt = (qf 24).toInt from by first | exact e1009 | omega), (show WrU qa qa992 (qf 10).toInt (-1) from e1010.w)⟩) d_Mpr_two_161
      · have nc927 : p1.toInt = p2.toInt := (i_eq (x := p1) (y := p2)).mp c927
        refine lv_iconst (v := 1) S.x S.b d_Mpr_two_40 (by decide) ?_
        refine lv_goto (tgt := 113) S.x S.b d_Mpr_two_41 (by decide) ?_
        refine lv_istore (lv' := [(6, .int 1), (5, .int v288), (4, .ref sk284), (0, .ref q), (1, .int p0), (2, .int p1), (3, .int p2)]) S.x S.b d_Mpr_two_113 hl (by decide) rfl (fun ls hl => ?_)
        refine lv_aload_n S.x S.b d_Mpr_two_115 rfl (lv_at hl 3 rfl) ?_
        refine lv_aload S.x S.b d_Mpr_two_116 (lv_at hl 2 rfl) ?_
        obtain ⟨sk1011, hRsk1011, st1012, sb1013, hSsk1011⟩ := oLW_lit hSh (k := 186) (tx := "<<") (n := 2) (by decide)
        refine va_ldcS S.x S.b S.own hRsk1011 d_Mpr_two_118 ?_
        refine px_calli (pr := [wd_Mpr cs q qr (fun k => if k = 0 then (some h) else none) qf qa qg, wdP cs h r g tf ta pf na ma wa cf ca ef ea xf xa]) (px_runV (As := [.ref sk1011]) (rest := [.ref q]) S (c_sg_equals l D cs sk284 st285 (mlen p0.toNatClampNeg) sb286 sk1011 st1012 2 sb1013   (show (mlen p0.toNatClampNeg) ≤ 1000000 from by first | exact oz_f8a16524ad e292 nc293 | omega) (show 2 ≤ 1000000 from by first | decide | omega) _) hT (pr := [wd_Mpr cs q qr (fun k => if k = 0 then (some h) else none) qf qa qg, wdP cs h r g tf ta pf na ma wa cf ca ef ea xf xa]) (pcs := []) hw (oX_call (P := (fun A U H => (oZ A U H) ∧ (oS A sk284 st285 (mlen p0.toNatClampNeg) sb286 U H) ∧ (oS A sk1011 st1012 2 sb1013 U H))) (pr := [wd_Mpr cs q qr (fun k => if k = 0 then (some h) else none) qf qa qg, wdP cs h r g tf ta pf na ma wa cf ca ef ea xf xa]) (oG_and oG_Z (oG_and oG_S oG_S)) hw hA ⟨hZ, hSsk284, hSsk1011⟩) (oS_recv hw hSsk284) m11_225 m14_155 m11_223 m11_224 m1_3 q_String_equals ⟨Nat.le_of_ble_eq_true rfl, Nat.le_of_ble_eq_true rfl⟩ hl.1 rfl (Nat.le_of_ble_eq_true rfl) d_Mpr_two_120 ⟨Nat.le_of_ble_eq_true rfl, Nat.le_of_ble_eq_true rfl⟩) hw hA (fun v1015 p1014 H locs hp1014 hw => ?_)
        obtain ⟨rfl, e1016⟩ := hp1014
        have e1016 := z_rng e1016
        replace hw : pw D A s.heap H locs [wd_Mpr cs q qr (fun k => if k = 0 then (some h) else none) qf qa qg, wdP cs h r g tf ta pf na ma wa cf ca ef ea xf xa] := hw
        have lv1015 := Int32.le_toInt v1015
        have uv1015 := Int32.toInt_lt v1015
        refine lv_if_eq (tgt := 132) S.x S.b d_Mpr_two_123 (by decide) (fun c1017 => ?_) (fun c1017 => ?_)
        · have nc1017 : v1015.toInt = (0 : Int) := (i_eq (x := v1015) (y := 0)).mp c1017
          refine lv_aload S.x S.b d_Mpr_two_132 (lv_at hl 2 rfl) ?_
          obtain ⟨sk1018, hRsk1018, st1019, sb1020, hSsk1018⟩ := oLW_lit hSh (k := 192) (tx := ">>") (n := 2) (by decide)
          refine va_ldcS S.x S.b S.own hRsk1018 d_Mpr_two_134 ?_
          refine px_calli (pr := [wd_Mpr cs q qr (fun k => if k = 0 then (some h) else none) qf qa qg, wdP cs h r g tf ta pf na ma wa cf ca ef ea xf xa]) (px_runV (As := [.ref sk1018]) (rest := [.ref q]) S (c_sg_equals l D cs sk284 st285 (mlen p0.toNatClampNeg) sb286 sk1018 st1019 2 sb1020   (show (mlen p0.toNatClampNeg) ≤ 1000000 from by first | exact oz_f8a16524ad e292 nc293 | omega) (show 2 ≤ 1000000 from by first | decide | omega) _) hT (pr := [wd_Mpr cs q qr (fun k => if k = 0 then (some h) else none) qf qa qg, wdP cs h r g tf ta pf na ma wa cf ca ef ea xf xa]) (pcs := []) hw (oX_call (P := (fun A U H => (oZ A U H) ∧ (oS A sk284 st285 (mlen p0.toNatClampNeg) sb286 U H) ∧ (oS A sk1018 st1019 2 sb1020 U H))) (pr := [wd_Mpr cs q qr (fun k => if k = 0 then (some h) else none) qf qa qg, wdP cs h r g tf ta pf na ma wa cf ca ef ea xf xa]) (oG_and oG_Z (oG_and oG_S oG_S)) hw hA ⟨hZ, hSsk284, hSsk1018⟩) (oS_recv hw hSsk284) m11_225 m14_155 m11_223 m11_224 m1_3 q_String_equals ⟨Nat.le_of_ble_eq_true rfl, Nat.le_of_ble_eq_true rfl⟩ hl.1 rfl (Nat.le_of_ble_eq_true rfl) d_Mpr_two_136 ⟨Nat.le_of_ble_eq_true rfl, Nat.le_of_ble_eq_true rfl⟩) hw hA (fun v1022 p1021 H locs hp1021 hw => ?_)
          obtain ⟨rfl, e1023⟩ := hp1021
          have e1023 := z_rng e1023
          replace hw : pw D A s.heap H locs [wd_Mpr cs q qr (fun k => if k = 0 then (some h) else none) qf qa qg, wdP cs h r g tf ta pf na ma wa cf ca ef ea xf xa] := hw
          have lv1022 := Int32.le_toInt v1022
          have uv1022 := Int32.toInt_lt v1022
          refine lv_if_eq (tgt := 148) S.x S.b d_Mpr_two_139 (by decide) (fun c1024 => ?_) (fun c1024 => ?_)
          · have nc1024 : v1022.toInt = (0 : Int) := (i_eq (x := v1022) (y := 0)).mp c1024
            refine lv_iload S.x S.b d_Mpr_two_148 (lv_at hl 0 rfl) ?_
            refine lv_if_eq (tgt := 157) S.x S.b d_Mpr_two_150 (by decide) (fun c1025 => ?_) (fun c1025 => ?_)
            · exact absurd c1025 (by decide)
            ·
              refine lv_iconst (v := 1) S.x S.b d_Mpr_two_153 (by decide) ?_
              refine lv_goto (tgt := 158) S.x S.b d_Mpr_two_154 (by decide) ?_
              refine px_callv (pr := []) (px_runV (As := [.int 1]) (rest := []) S (c_mr_give l D cs nf q qr qg qf qa h r g tf ta pf na ma wa cf ca ef ea xf xa 1  (show 0 ≤ (qf 10).toInt from by first | exact g2 | omega) (show (qf 10).toInt < 62500 from by first | exact oz_7621ce4cd5 g3 | omega) _) hT (pr := []) (pcs := [wd_Mpr cs q qr (fun k => if k = 0 then (some h) else none) qf qa qg, wdP cs h r g tf ta pf na ma wa cf ca ef ea xf xa]) hw (oX_call (P := (fun A U H => (oP A g U H))) (pr := []) oG_P hw hA hP) (px_recv hT hw 0 0 rfl rfl rfl) m13_161 m13_158 m13_159 m13_160 m1_22 q_Mpr_give ⟨Nat.le_of_ble_eq_true rfl, Nat.le_of_ble_eq_true rfl⟩ hl.1 rfl (Nat.le_of_ble_eq_true rfl) d_Mpr_two_158 ⟨Nat.le_of_ble_eq_true rfl, Nat.le_of_ble_eq_true rfl⟩) hw hA (fun p1030 H locs hp1030 hw => ?_)
              obtain ⟨qf1028, qa1029, rfl, e1032, e1033, e1034, e1035, e1036, e1037, e1038, e1039, e1040, e1041, e1042, e1043, e1044, e1045, e1046, e1047⟩ := hp1030
              replace e1032 : (qf1028 10).toInt = (qf 10).toInt + 1 := e1032
              replace e1033 : (qf1028 1).toInt = (qf 1).toInt := e1033
              replace e1034 : (qf1028 2).toInt = (qf 2).toInt := e1034
              replace e1035 : (qf1028 3).toInt = (qf 3).toInt := e1035
              replace e1036 : (qf1028 4).toInt = (qf 4).toInt := e1036
              replace e1037 : (qf1028 5).toInt = (qf 5).toInt := e1037
              replace e1038 : (qf1028 6).toInt = (qf 6).toInt := e1038
              replace e1039 : (qf1028 7).toInt = (qf 7).toInt := e1039
              replace e1040 : (qf1028 11).toInt = (qf 11).toInt := e1040
              replace e1041 : (qf1028 12).toInt = (qf 12).toInt := e1041
              replace e1042 : (qf1028 13).toInt = (qf 13).toInt := e1042
              replace e1043 : (qf1028 14).toInt = (qf 14).toInt := e1043
              replace e1044 : (qf1028 21).toInt = (qf 21).toInt := e1044
              replace e1045 : (qf1028 23).toInt = (qf 23).toInt := e1045
              replace e1046 : (qf1028 24).toInt = (qf 24).toInt := e1046
              replace e1047 : NuU qa qa1029 9 (qf 10).toInt (1 : Int32) := e1047
              skip
              replace hw : pw D A s.heap H locs [wd_Mpr cs q qr (fun k => if k = 0 then (some h) else none) qf1028 qa1029 qg, wdP cs h r g tf ta pf na ma wa cf ca ef ea xf xa] := hw
              exact px_vret S hr hlk hAe hw (Nat.le_of_ble_eq_true rfl) (Nat.le_of_ble_eq_true rfl) (⟨qf1028, qa1029, rfl, (show TwO (qf1028 2).toInt (qf 2).toInt (qf1028 10).toInt (qf 10).toInt from (Or.inl ⟨by omega, by omega⟩)), (show (qf1028 1).toInt = (qf 1).toInt from by first | exact e1033 | omega), (show (qf1028 4).toInt = (qf 4).toInt from by first | exact e1036 | omega), (show (qf1028 5).toInt = (qf 5).toInt from by first | exact e1037 | omega), (show (qf1028 6).toInt = (qf 6).toInt from by first | exact e1038 | omega), (show (qf1028 7).toInt = (qf 7).toInt from by first | exact e1039 | omega), (show (qf1028 11).toInt = (qf 11).toInt from by first | exact e1040 | omega), (show (qf1028 12).toInt = (qf 12).toInt from by first | exact e1041 | omega), (show (qf1028 13).toInt = (qf 13).toInt from by first | exact e1042 | omega), (show (qf1028 14).toInt = (qf 14).toInt from by first | exact e1043 | omega), (show (qf1028 21).toInt = (qf 21).toInt from by first | exact e1044 | omega), (show (qf1028 23).toInt = (qf 23).toInt from by first | exact e1045 | omega), (show (qf1028 24).toInt = (qf 24).toInt from by first | exact e1046 | omega), (show WrU qa qa1029 (qf 10).toInt (-1) from e1047.w)⟩) d_Mpr_two_161
          · have nc1024 : ¬ v1022.toInt = (0 : Int) := mt (i_eq (x := v1022) (y := 0)).mpr c1024
            refine lv_iload_n S.x S.b d_Mpr_two_142 rfl (lv_at hl 5 rfl) ?_
            refine lv_iload_n S.x S.b d_Mpr_two_143 rfl (lv_at hl 6 rfl) ?_
            refine lv_ishr S.x S.b d_Mpr_two_144 ?_
            refine lv_topi (fun z1048 ez1048 => ?_)
            have lz1048 := Int32.le_toInt z1048
            have uz1048 := Int32.toInt_lt z1048
            refine lv_goto (tgt := 158) S.x S.b d_Mpr_two_145 (by decide) ?_
            refine px_callv (pr := []) (px_runV (As := [.int z1048]) (rest := []) S (c_mr_give l D cs nf q qr qg qf qa h r g tf ta pf na ma wa cf ca ef ea xf xa z1048  (show 0 ≤ (qf 10).toInt from by first | exact g2 | omega) (show (qf 10).toInt < 62500 from by first | exact oz_7621ce4cd5 g3 | omega) _) hT (pr := []) (pcs := [wd_Mpr cs q qr (fun k => if k = 0 then (some h) else none) qf qa qg, wdP cs h r g tf ta pf na ma wa cf ca ef ea xf xa]) hw (oX_call (P := (fun A U H => (oP A g U H))) (pr := []) oG_P hw hA hP) (px_recv hT hw 0 0 rfl rfl rfl) m13_161 m13_158 m13_159 m13_160 m1_22 q_Mpr_give ⟨Nat.le_of_ble_eq_true rfl, Nat.le_of_ble_eq_true rfl⟩ hl.1 rfl (Nat.le_of_ble_eq_true rfl) d_Mpr_two_158 ⟨Nat.le_of_ble_eq_true rfl, Nat.le_of_ble_eq_true rfl⟩) hw hA (fun p1053 H locs hp1053 hw => ?_)
            obtain ⟨qf1051, qa1052, rfl, e1055, e1056, e1057, e1058, e1059, e1060, e1061, e1062, e1063, e1064, e1065, e1066, e1067, e1068, e1069, e1070⟩ := hp1053
            replace e1055 : (qf1051 10).toInt = (qf 10).toInt + 1 := e1055
            replace e1056 : (qf1051 1).toInt = (qf 1).toInt := e1056
            replace e1057 : (qf1051 2).toInt = (qf 2).toInt := e1057
            replace e1058 : (qf1051 3).toInt = (qf 3).toInt := e1058
            replace e1059 : (qf1051 4).toInt = (qf 4).toInt := e1059
            replace e1060 : (qf1051 5).toInt = (qf 5).toInt := e1060
            replace e1061 : (qf1051 6).toInt = (qf 6).toInt := e1061
            replace e1062 : (qf1051 7).toInt = (qf 7).toInt := e1062
            replace e1063 : (qf1051 11).toInt = (qf 11).toInt := e1063
            replace e1064 : (qf1051 12).toInt = (qf 12).toInt := e1064
            replace e1065 : (qf1051 13).toInt = (qf 13).toInt := e1065
            replace e1066 : (qf1051 14).toInt = (qf 14).toInt := e1066
            replace e1067 : (qf1051 21).toInt = (qf 21).toInt := e1067
            replace e1068 : (qf1051 23).toInt = (qf 23).toInt := e1068
            replace e1069 : (qf1051 24).toInt = (qf 24).toInt := e1069
            replace e1070 : NuU qa qa1052 9 (qf 10).toInt z1048 := e1070
            skip
            replace hw : pw D A s.heap H locs [wd_Mpr cs q qr (fun k => if k = 0 then (some h) else none) qf1051 qa1052 qg, wdP cs h r g tf ta pf na ma wa cf ca ef ea xf xa] := hw
            exact px_vret S hr hlk hAe hw (Nat.le_of_ble_eq_true rfl) (Nat.le_of_ble_eq_true rfl) (⟨qf1051, qa1052, rfl, (show TwO (qf1051 2).toInt (qf 2).toInt (qf1051 10).toInt (qf 10).toInt from (Or.inl ⟨by omega, by omega⟩)), (show (qf1051 1).toInt = (qf 1).toInt from by first | exact e1056 | omega), (show (qf1051 4).toInt = (qf 4).toInt from by first | exact e1059 | omega), (show (qf1051 5).toInt = (qf 5).toInt from by first | exact e1060 | omega), (show (qf1051 6).toInt = (qf 6).toInt from by first | exact e1061 | omega), (show (qf1051 7).toInt = (qf 7).toInt from by first | exact e1062 | omega), (show (qf1051 11).toInt = (qf 11).toInt from by first | exact e1063 | omega), (show (qf1051 12).toInt = (qf 12).toInt from by first | exact e1064 | omega), (show (qf1051 13).toInt = (qf 13).toInt from by first | exact e1065 | omega), (show (qf1051 14).toInt = (qf 14).toInt from by first | exact e1066 | omega), (show (qf1051 21).toInt = (qf 21).toInt from by first | exact e1067 | omega), (show (qf1051 23).toInt = (qf 23).toInt from by first | exact e1068 | omega), (show (qf1051 24).toInt = (qf 24).toInt from by first | exact e1069 | omega), (show WrU qa qa1052 (qf 10).toInt (-1) from e1070.w)⟩) d_Mpr_two_161
        · have nc1017 : ¬ v1015.toInt = (0 : Int) := mt (i_eq (x := v1015) (y := 0)).mpr c1017
          refine lv_iload_n S.x S.b d_Mpr_two_126 rfl (lv_at hl 5 rfl) ?_
          refine lv_iload_n S.x S.b d_Mpr_two_127 rfl (lv_at hl 6 rfl) ?_
          refine lv_ishl S.x S.b d_Mpr_two_128 ?_
          refine lv_topi (fun z1071 ez1071 => ?_)
          have lz1071 := Int32.le_toInt z1071
          have uz1071 := Int32.toInt_lt z1071
          refine lv_goto (tgt := 158) S.x S.b d_Mpr_two_129 (by decide) ?_
          refine px_callv (pr := []) (px_runV (As := [.int z1071]) (rest := []) S (c_mr_give l D cs nf q qr qg qf qa h r g tf ta pf na ma wa cf ca ef ea xf xa z1071  (show 0 ≤ (qf 10).toInt from by first | exact g2 | omega) (show (qf 10).toInt < 62500 from by first | exact oz_7621ce4cd5 g3 | omega) _) hT (pr := []) (pcs := [wd_Mpr cs q qr (fun k => if k = 0 then (some h) else none) qf qa qg, wdP cs h r g tf ta pf na ma wa cf ca ef ea xf xa]) hw (oX_call (P := (fun A U H => (oP A g U H))) (pr := []) oG_P hw hA hP) (px_recv hT hw 0 0 rfl rfl rfl) m13_161 m13_158 m13_159 m13_160 m1_22 q_Mpr_give ⟨Nat.le_of_ble_eq_true rfl, Nat.le_of_ble_eq_true rfl⟩ hl.1 rfl (Nat.le_of_ble_eq_true rfl) d_Mpr_two_158 ⟨Nat.le_of_ble_eq_true rfl, Nat.le_of_ble_eq_true rfl⟩) hw hA (fun p1076 H locs hp1076 hw => ?_)
          obtain ⟨qf1074, qa1075, rfl, e1078, e1079, e1080, e1081, e1082, e1083, e1084, e1085, e1086, e1087, e1088, e1089, e1090, e1091, e1092, e1093⟩ := hp1076
          replace e1078 : (qf1074 10).toInt = (qf 10).toInt + 1 := e1078
          replace e1079 : (qf1074 1).toInt = (qf 1).toInt := e1079
          replace e1080 : (qf1074 2).toInt = (qf 2).toInt := e1080
          replace e1081 : (qf1074 3).toInt = (qf 3).toInt := e1081
          replace e1082 : (qf1074 4).toInt = (qf 4).toInt := e1082
          replace e1083 : (qf1074 5).toInt = (qf 5).toInt := e1083
          replace e1084 : (qf1074 6).toInt = (qf 6).toInt := e1084
          replace e1085 : (qf1074 7).toInt = (qf 7).toInt := e1085
          replace e1086 : (qf1074 11).toInt = (qf 11).toInt := e1086
          replace e1087 : (qf1074 12).toInt = (qf 12).toInt := e1087
          replace e1088 : (qf1074 13).toInt = (qf 13).toInt := e1088
          replace e1089 : (qf1074 14).toInt = (qf 14).toInt := e1089
          replace e1090 : (qf1074 21).toInt = (qf 21).toInt := e1090
          replace e1091 : (qf1074 23).toInt = (qf 23).toInt := e1091
          replace e1092 : (qf1074 24).toInt = (qf 24).toInt := e1092
          replace e1093 : NuU qa qa1075 9 (qf 10).toInt z1071 := e1093
          skip
          replace hw : pw D A s.heap H locs [wd_Mpr cs q qr (fun k => if k = 0 then (some h) else none) qf1074 qa1075 qg, wdP cs h r g tf ta pf na ma wa cf ca ef ea xf xa] := hw
          exact px_vret S hr hlk hAe hw (Nat.le_of_ble_eq_true rfl) (Nat.le_of_ble_eq_true rfl) (⟨qf1074, qa1075, rfl, (show TwO (qf1074 2).toInt (qf 2).toInt (qf1074 10).toInt (qf 10).toInt from (Or.inl ⟨by omega, by omega⟩)), (show (qf1074 1).toInt = (qf 1).toInt from by first | exact e1079 | omega), (show (qf1074 4).toInt = (qf 4).toInt from by first | exact e1082 | omega), (show (qf1074 5).toInt = (qf 5).toInt from by first | exact e1083 | omega), (show (qf1074 6).toInt = (qf 6).toInt from by first | exact e1084 | omega), (show (qf1074 7).toInt = (qf 7).toInt from by first | exact e1085 | omega), (show (qf1074 11).toInt = (qf 11).toInt from by first | exact e1086 | omega), (show (qf1074 12).toInt = (qf 12).toInt from by first | exact e1087 | omega), (show (qf1074 13).toInt = (qf 13).toInt from by first | exact e1088 | omega), (show (qf1074 14).toInt = (qf 14).toInt from by first | exact e1089 | omega), (show (qf1074 21).toInt = (qf 21).toInt from by first | exact e1090 | omega), (show (qf1074 23).toInt = (qf 23).toInt from by first | exact e1091 | omega), (show (qf1074 24).toInt = (qf 24).toInt from by first | exact e1092 | omega), (show WrU qa qa1075 (qf 10).toInt (-1) from e1093.w)⟩) d_Mpr_two_161
