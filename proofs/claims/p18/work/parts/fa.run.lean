theorem oz_d342e04a5c {a0 a1 : Int} (h0 : a0 = a1 + 1) (h1 : ¬ (13 : Int) ≤ a1) : a0 ≤ 13 := by omega
theorem oz_6680d080b4 {a0 a2 : Int} {n1 : Nat} (h0 : 13 - a2 < ((n1 + 1 : Nat) : Int)) (h1 : a0 = a2 + 1) : 13 - a0 < (n1 : Int) := by omega
theorem oz_5c6028159b {a0 a1 a2 : Int} (h0 : a0 + a2 ≤ a1) (h1 : 0 ≤ a2) (h2 : ¬ a2 = (0 : Int)) : a0 + (1 : Int) ≤ a1 := by omega
theorem oz_114f3a14bc {a0 a1 a2 : Int} (h0 : a0 + a2 ≤ a1) (h1 : 0 ≤ a2) : a0 + (0 : Int) ≤ a1 := by omega
theorem oz_f3c9c51538 {a0 a1 a2 : Int} (h0 : a2 ≤ a1) (h1 : a0 = a2) : a0 ≤ a1 := by omega
theorem oz_b8f25a55ed {a0 : Int} (h0 : 0 ≤ a0) (h1 : a0 < 8) : 0 ≤ a0 ∧ a0 < ((8 : Nat) : Int) := by omega
theorem oz_988ece23c5 {a1 : Int} {n0 : Nat} (h0 : (n0 : Int) = a1) (h1 : a1 < 8) : n0 < 8 := by omega
theorem oz_694b8e2913 {a0 : Int} (h0 : ¬ (100 : Int) < a0) : a0 ≤ 100 := by omega
theorem oz_8100819c59 {a0 : Int} (h0 : a0 ≤ (512 : Int)) : a0 ≤ 512 := by omega
theorem oz_493e98d437 {a0 a1 a2 a3 a4 : Int} (h0 : a0 = a1 - (30 : Int)) (h1 : a1 = a2 - a3) (h2 : a4 = a3 + (30 : Int)) (h3 : a4 ≤ a2) : 0 ≤ a0 := by omega
theorem oz_5aae3ef4c0 {a0 a1 a2 a3 : Int} (h0 : a2 = a1 - a3) (h1 : a0 = a2 - (30 : Int)) (h2 : ¬ a3 < (0 : Int)) : a0 ≤ a1 := by omega
theorem oz_a7c5241a94 {a0 : Int} {n1 : Nat} (h0 : (n1 : Int) = a0) (h1 : n1 < 8) : a0 < 8 := by omega
theorem m13_166 : Cond.methodLink "HomeSystemModel" 230 ⟨"HomeSystemModel", "goOn", "(I)Z"⟩ ∈ AL := AL_13 (List.mem_of_getElem? (i := 166) rfl) rfl
theorem m13_169 : Cond.code ⟨"HomeSystemModel", "goOn", "(I)Z"⟩ prog_14_method_27_code 8 (Option.some FieldType.boolean) ∈ AL := AL_13 (List.mem_of_getElem? (i := 169) rfl) rfl
theorem ms_14_15 : Cond.selects "HomeSystemModel" ⟨"HomeSystemModel", "goOn", "(I)Z"⟩ ⟨"HomeSystemModel", "goOn", "(I)Z"⟩ ∈ AL := AL_p (q := (⟨"HomeSystemModel", "goOn", "(I)Z"⟩, 11)) (by unfold lw_privs; exact List.mem_append_right _ (List.mem_append_right _ (List.mem_append_right _ (List.mem_append_right _ (List.mem_append_right _ (List.mem_append_right _ (List.mem_append_right _ (List.mem_append_right _ (List.mem_append_right _ (List.mem_append_right _ (List.mem_append_right _ (List.mem_append_right _ (List.mem_append_right _ (List.mem_append_left _ (List.mem_of_getElem? (i := 15) rfl)))))))))))))))
theorem m13_168 : Cond.instanceMethod ⟨"HomeSystemModel", "goOn", "(I)Z"⟩ ∈ AL := AL_13 (List.mem_of_getElem? (i := 168) rfl) rfl
theorem m11_22 : Cond.fieldLink "HomeSystemModel" 227 "HomeSystemModel$Process" "written" "I" ∈ AL := AL_11 (List.mem_of_getElem? (i := 22) rfl) rfl
theorem m11_78 : Cond.fieldLink "HomeSystemModel" 35 "HomeSystemModel" "thrown" "I" ∈ AL := AL_11 (List.mem_of_getElem? (i := 78) rfl) rfl
theorem m11_88 : Cond.fieldLink "HomeSystemModel" 29 "HomeSystemModel" "life" "I" ∈ AL := AL_11 (List.mem_of_getElem? (i := 88) rfl) rfl
abbrev b_Mo_run : ByteArray := prog_14_method_28_code
def y_Mo_run : MethodName := ⟨"HomeSystemModel", "run", "(IIII)I"⟩
theorem d_Mo_run_0 : decode b_Mo_run 0 = .ok (.aload_n 0, 1) := by decide +kernel
theorem d_Mo_run_1 : decode b_Mo_run 1 = .ok (.iload_n 1, 1) := by decide +kernel
theorem d_Mo_run_2 : decode b_Mo_run 2 = .ok (.invokestatic 41, 3) := by decide +kernel
theorem d_Mo_run_5 : decode b_Mo_run 5 = .ok (.ifCond .ne 7, 3) := by decide +kernel
theorem d_Mo_run_8 : decode b_Mo_run 8 = .ok (.iconst 1, 1) := by decide +kernel
theorem d_Mo_run_9 : decode b_Mo_run 9 = .ok (.goto 46, 3) := by decide +kernel
theorem d_Mo_run_12 : decode b_Mo_run 12 = .ok (.iload_n 3, 1) := by decide +kernel
theorem d_Mo_run_13 : decode b_Mo_run 13 = .ok (.ifCond .lt 22, 3) := by decide +kernel
theorem d_Mo_run_16 : decode b_Mo_run 16 = .ok (.iload_n 3, 1) := by decide +kernel
theorem d_Mo_run_17 : decode b_Mo_run 17 = .ok (.bipush 100, 2) := by decide +kernel
theorem d_Mo_run_19 : decode b_Mo_run 19 = .ok (.if_icmp .gt 16, 3) := by decide +kernel
theorem d_Mo_run_22 : decode b_Mo_run 22 = .ok (.iload 4, 2) := by decide +kernel
theorem d_Mo_run_24 : decode b_Mo_run 24 = .ok (.ifCond .lt 11, 3) := by decide +kernel
theorem d_Mo_run_27 : decode b_Mo_run 27 = .ok (.iload 4, 2) := by decide +kernel
theorem d_Mo_run_29 : decode b_Mo_run 29 = .ok (.sipush 512, 3) := by decide +kernel
theorem d_Mo_run_32 : decode b_Mo_run 32 = .ok (.if_icmp .le 7, 3) := by decide +kernel
theorem d_Mo_run_35 : decode b_Mo_run 35 = .ok (.iconst 2, 1) := by decide +kernel
theorem d_Mo_run_36 : decode b_Mo_run 36 = .ok (.goto 19, 3) := by decide +kernel
theorem d_Mo_run_39 : decode b_Mo_run 39 = .ok (.aload_n 0, 1) := by decide +kernel
theorem d_Mo_run_40 : decode b_Mo_run 40 = .ok (.getfield 29, 3) := by decide +kernel
theorem d_Mo_run_43 : decode b_Mo_run 43 = .ok (.iload_n 3, 1) := by decide +kernel
theorem d_Mo_run_44 : decode b_Mo_run 44 = .ok (.bipush 30, 2) := by decide +kernel
theorem d_Mo_run_46 : decode b_Mo_run 46 = .ok (.iadd, 1) := by decide +kernel
theorem d_Mo_run_47 : decode b_Mo_run 47 = .ok (.if_icmp .ge 7, 3) := by decide +kernel
theorem d_Mo_run_50 : decode b_Mo_run 50 = .ok (.iconst 3, 1) := by decide +kernel
theorem d_Mo_run_51 : decode b_Mo_run 51 = .ok (.goto 4, 3) := by decide +kernel
theorem d_Mo_run_54 : decode b_Mo_run 54 = .ok (.iconst 0, 1) := by decide +kernel
theorem d_Mo_run_55 : decode b_Mo_run 55 = .ok (.putfield 35, 3) := by decide +kernel
theorem d_Mo_run_58 : decode b_Mo_run 58 = .ok (.aload_n 0, 1) := by decide +kernel
theorem d_Mo_run_59 : decode b_Mo_run 59 = .ok (.getfield 35, 3) := by decide +kernel
theorem d_Mo_run_62 : decode b_Mo_run 62 = .ok (.ifCond .le 5, 3) := by decide +kernel
theorem d_Mo_run_65 : decode b_Mo_run 65 = .ok (.iconst 0, 1) := by decide +kernel
theorem d_Mo_run_66 : decode b_Mo_run 66 = .ok (.ireturn, 1) := by decide +kernel
theorem d_Mo_run_67 : decode b_Mo_run 67 = .ok (.aload_n 0, 1) := by decide +kernel
theorem d_Mo_run_68 : decode b_Mo_run 68 = .ok (.getfield 15, 3) := by decide +kernel
theorem d_Mo_run_71 : decode b_Mo_run 71 = .ok (.iload_n 1, 1) := by decide +kernel
theorem d_Mo_run_72 : decode b_Mo_run 72 = .ok (.aaload, 1) := by decide +kernel
theorem d_Mo_run_73 : decode b_Mo_run 73 = .ok (.getfield 61, 3) := by decide +kernel
theorem d_Mo_run_76 : decode b_Mo_run 76 = .ok (.ifCond .ne 5, 3) := by decide +kernel
theorem d_Mo_run_79 : decode b_Mo_run 79 = .ok (.iconst (-1), 1) := by decide +kernel
theorem d_Mo_run_80 : decode b_Mo_run 80 = .ok (.ireturn, 1) := by decide +kernel
theorem d_Mo_run_81 : decode b_Mo_run 81 = .ok (.aload_n 0, 1) := by decide +kernel
theorem d_Mo_run_82 : decode b_Mo_run 82 = .ok (.aload_n 0, 1) := by decide +kernel
theorem d_Mo_run_83 : decode b_Mo_run 83 = .ok (.getfield 29, 3) := by decide +kernel
theorem d_Mo_run_86 : decode b_Mo_run 86 = .ok (.iload_n 3, 1) := by decide +kernel
theorem d_Mo_run_87 : decode b_Mo_run 87 = .ok (.isub, 1) := by decide +kernel
theorem d_Mo_run_88 : decode b_Mo_run 88 = .ok (.bipush 30, 2) := by decide +kernel
theorem d_Mo_run_90 : decode b_Mo_run 90 = .ok (.isub, 1) := by decide +kernel
theorem d_Mo_run_91 : decode b_Mo_run 91 = .ok (.putfield 29, 3) := by decide +kernel
theorem d_Mo_run_94 : decode b_Mo_run 94 = .ok (.aload_n 0, 1) := by decide +kernel
theorem d_Mo_run_95 : decode b_Mo_run 95 = .ok (.iload_n 3, 1) := by decide +kernel
theorem d_Mo_run_96 : decode b_Mo_run 96 = .ok (.putfield 117, 3) := by decide +kernel
theorem d_Mo_run_99 : decode b_Mo_run 99 = .ok (.aload_n 0, 1) := by decide +kernel
theorem d_Mo_run_100 : decode b_Mo_run 100 = .ok (.iload 4, 2) := by decide +kernel
theorem d_Mo_run_102 : decode b_Mo_run 102 = .ok (.putfield 120, 3) := by decide +kernel
theorem d_Mo_run_105 : decode b_Mo_run 105 = .ok (.iconst 0, 1) := by decide +kernel
theorem d_Mo_run_106 : decode b_Mo_run 106 = .ok (.istore 5, 2) := by decide +kernel
theorem d_Mo_run_108 : decode b_Mo_run 108 = .ok (.iload 5, 2) := by decide +kernel
theorem d_Mo_run_110 : decode b_Mo_run 110 = .ok (.bipush 13, 2) := by decide +kernel
theorem d_Mo_run_112 : decode b_Mo_run 112 = .ok (.if_icmp .ge 53, 3) := by decide +kernel
theorem d_Mo_run_115 : decode b_Mo_run 115 = .ok (.aload_n 0, 1) := by decide +kernel
theorem d_Mo_run_116 : decode b_Mo_run 116 = .ok (.getfield 21, 3) := by decide +kernel
theorem d_Mo_run_119 : decode b_Mo_run 119 = .ok (.iload 5, 2) := by decide +kernel
theorem d_Mo_run_121 : decode b_Mo_run 121 = .ok (.aaload, 1) := by decide +kernel
theorem d_Mo_run_122 : decode b_Mo_run 122 = .ok (.iconst 0, 1) := by decide +kernel
theorem d_Mo_run_123 : decode b_Mo_run 123 = .ok (.putfield 69, 3) := by decide +kernel
theorem d_Mo_run_126 : decode b_Mo_run 126 = .ok (.aload_n 0, 1) := by decide +kernel
theorem d_Mo_run_127 : decode b_Mo_run 127 = .ok (.getfield 21, 3) := by decide +kernel
theorem d_Mo_run_130 : decode b_Mo_run 130 = .ok (.iload 5, 2) := by decide +kernel
theorem d_Mo_run_132 : decode b_Mo_run 132 = .ok (.aaload, 1) := by decide +kernel
theorem d_Mo_run_133 : decode b_Mo_run 133 = .ok (.iconst 0, 1) := by decide +kernel
theorem d_Mo_run_134 : decode b_Mo_run 134 = .ok (.putfield 76, 3) := by decide +kernel
theorem d_Mo_run_137 : decode b_Mo_run 137 = .ok (.aload_n 0, 1) := by decide +kernel
theorem d_Mo_run_138 : decode b_Mo_run 138 = .ok (.getfield 21, 3) := by decide +kernel
theorem d_Mo_run_141 : decode b_Mo_run 141 = .ok (.iload 5, 2) := by decide +kernel
theorem d_Mo_run_143 : decode b_Mo_run 143 = .ok (.aaload, 1) := by decide +kernel
theorem d_Mo_run_144 : decode b_Mo_run 144 = .ok (.iconst 0, 1) := by decide +kernel
theorem d_Mo_run_145 : decode b_Mo_run 145 = .ok (.putfield 73, 3) := by decide +kernel
theorem d_Mo_run_148 : decode b_Mo_run 148 = .ok (.aload_n 0, 1) := by decide +kernel
theorem d_Mo_run_149 : decode b_Mo_run 149 = .ok (.getfield 21, 3) := by decide +kernel
theorem d_Mo_run_152 : decode b_Mo_run 152 = .ok (.iload 5, 2) := by decide +kernel
theorem d_Mo_run_154 : decode b_Mo_run 154 = .ok (.aaload, 1) := by decide +kernel
theorem d_Mo_run_155 : decode b_Mo_run 155 = .ok (.iconst 0, 1) := by decide +kernel
theorem d_Mo_run_156 : decode b_Mo_run 156 = .ok (.putfield 227, 3) := by decide +kernel
theorem d_Mo_run_159 : decode b_Mo_run 159 = .ok (.iinc 5 1, 3) := by decide +kernel
theorem d_Mo_run_162 : decode b_Mo_run 162 = .ok (.goto (-54), 3) := by decide +kernel
theorem d_Mo_run_165 : decode b_Mo_run 165 = .ok (.aload_n 0, 1) := by decide +kernel
theorem d_Mo_run_166 : decode b_Mo_run 166 = .ok (.getfield 21, 3) := by decide +kernel
theorem d_Mo_run_169 : decode b_Mo_run 169 = .ok (.iconst 0, 1) := by decide +kernel
theorem d_Mo_run_170 : decode b_Mo_run 170 = .ok (.aaload, 1) := by decide +kernel
theorem d_Mo_run_171 : decode b_Mo_run 171 = .ok (.aload_n 0, 1) := by decide +kernel
theorem d_Mo_run_172 : decode b_Mo_run 172 = .ok (.getfield 15, 3) := by decide +kernel
theorem d_Mo_run_175 : decode b_Mo_run 175 = .ok (.iload_n 1, 1) := by decide +kernel
theorem d_Mo_run_176 : decode b_Mo_run 176 = .ok (.aaload, 1) := by decide +kernel
theorem d_Mo_run_177 : decode b_Mo_run 177 = .ok (.iload_n 2, 1) := by decide +kernel
theorem d_Mo_run_178 : decode b_Mo_run 178 = .ok (.iload_n 3, 1) := by decide +kernel
theorem d_Mo_run_179 : decode b_Mo_run 179 = .ok (.iload 4, 2) := by decide +kernel
theorem d_Mo_run_181 : decode b_Mo_run 181 = .ok (.invokevirtual 123, 3) := by decide +kernel
theorem d_Mo_run_184 : decode b_Mo_run 184 = .ok (.iconst 1, 1) := by decide +kernel
theorem d_Mo_run_185 : decode b_Mo_run 185 = .ok (.istore 5, 2) := by decide +kernel
theorem d_Mo_run_187 : decode b_Mo_run 187 = .ok (.iload 5, 2) := by decide +kernel
theorem d_Mo_run_189 : decode b_Mo_run 189 = .ok (.ifCond .eq 71, 3) := by decide +kernel
theorem d_Mo_run_192 : decode b_Mo_run 192 = .ok (.iconst 0, 1) := by decide +kernel
theorem d_Mo_run_193 : decode b_Mo_run 193 = .ok (.istore 5, 2) := by decide +kernel
theorem d_Mo_run_195 : decode b_Mo_run 195 = .ok (.iconst 0, 1) := by decide +kernel
theorem d_Mo_run_196 : decode b_Mo_run 196 = .ok (.istore 6, 2) := by decide +kernel
theorem d_Mo_run_198 : decode b_Mo_run 198 = .ok (.iload 6, 2) := by decide +kernel
theorem d_Mo_run_200 : decode b_Mo_run 200 = .ok (.bipush 13, 2) := by decide +kernel
theorem d_Mo_run_202 : decode b_Mo_run 202 = .ok (.if_icmp .ge 55, 3) := by decide +kernel
theorem d_Mo_run_205 : decode b_Mo_run 205 = .ok (.aload_n 0, 1) := by decide +kernel
theorem d_Mo_run_206 : decode b_Mo_run 206 = .ok (.getfield 21, 3) := by decide +kernel
theorem d_Mo_run_209 : decode b_Mo_run 209 = .ok (.iload 6, 2) := by decide +kernel
theorem d_Mo_run_211 : decode b_Mo_run 211 = .ok (.aaload, 1) := by decide +kernel
theorem d_Mo_run_212 : decode b_Mo_run 212 = .ok (.invokevirtual 178, 3) := by decide +kernel
theorem d_Mo_run_215 : decode b_Mo_run 215 = .ok (.ifCond .eq 16, 3) := by decide +kernel
theorem d_Mo_run_218 : decode b_Mo_run 218 = .ok (.aload_n 0, 1) := by decide +kernel
theorem d_Mo_run_219 : decode b_Mo_run 219 = .ok (.iload 6, 2) := by decide +kernel
theorem d_Mo_run_221 : decode b_Mo_run 221 = .ok (.invokevirtual 230, 3) := by decide +kernel
theorem d_Mo_run_224 : decode b_Mo_run 224 = .ok (.ifCond .eq 7, 3) := by decide +kernel
theorem d_Mo_run_227 : decode b_Mo_run 227 = .ok (.iconst 1, 1) := by decide +kernel
theorem d_Mo_run_228 : decode b_Mo_run 228 = .ok (.goto 4, 3) := by decide +kernel
theorem d_Mo_run_231 : decode b_Mo_run 231 = .ok (.iconst 0, 1) := by decide +kernel
theorem d_Mo_run_232 : decode b_Mo_run 232 = .ok (.istore 7, 2) := by decide +kernel
theorem d_Mo_run_234 : decode b_Mo_run 234 = .ok (.iload 5, 2) := by decide +kernel
theorem d_Mo_run_236 : decode b_Mo_run 236 = .ok (.ifCond .ne 8, 3) := by decide +kernel
theorem d_Mo_run_239 : decode b_Mo_run 239 = .ok (.iload 7, 2) := by decide +kernel
theorem d_Mo_run_241 : decode b_Mo_run 241 = .ok (.ifCond .eq 7, 3) := by decide +kernel
theorem d_Mo_run_244 : decode b_Mo_run 244 = .ok (.iconst 1, 1) := by decide +kernel
theorem d_Mo_run_245 : decode b_Mo_run 245 = .ok (.goto 4, 3) := by decide +kernel
theorem d_Mo_run_248 : decode b_Mo_run 248 = .ok (.iconst 0, 1) := by decide +kernel
theorem d_Mo_run_249 : decode b_Mo_run 249 = .ok (.istore 5, 2) := by decide +kernel
theorem d_Mo_run_251 : decode b_Mo_run 251 = .ok (.iinc 6 1, 3) := by decide +kernel
theorem d_Mo_run_254 : decode b_Mo_run 254 = .ok (.goto (-56), 3) := by decide +kernel
theorem d_Mo_run_257 : decode b_Mo_run 257 = .ok (.goto (-70), 3) := by decide +kernel
theorem d_Mo_run_260 : decode b_Mo_run 260 = .ok (.iconst 0, 1) := by decide +kernel
theorem d_Mo_run_261 : decode b_Mo_run 261 = .ok (.istore 6, 2) := by decide +kernel
theorem d_Mo_run_263 : decode b_Mo_run 263 = .ok (.iload 6, 2) := by decide +kernel
theorem d_Mo_run_265 : decode b_Mo_run 265 = .ok (.bipush 13, 2) := by decide +kernel
theorem d_Mo_run_267 : decode b_Mo_run 267 = .ok (.if_icmp .ge 35, 3) := by decide +kernel
theorem d_Mo_run_270 : decode b_Mo_run 270 = .ok (.aload_n 0, 1) := by decide +kernel
theorem d_Mo_run_271 : decode b_Mo_run 271 = .ok (.getfield 21, 3) := by decide +kernel
theorem d_Mo_run_274 : decode b_Mo_run 274 = .ok (.iload 6, 2) := by decide +kernel
theorem d_Mo_run_276 : decode b_Mo_run 276 = .ok (.aaload, 1) := by decide +kernel
theorem d_Mo_run_277 : decode b_Mo_run 277 = .ok (.invokevirtual 178, 3) := by decide +kernel
theorem d_Mo_run_280 : decode b_Mo_run 280 = .ok (.ifCond .eq 16, 3) := by decide +kernel
theorem d_Mo_run_283 : decode b_Mo_run 283 = .ok (.aload_n 0, 1) := by decide +kernel
theorem d_Mo_run_284 : decode b_Mo_run 284 = .ok (.getfield 21, 3) := by decide +kernel
theorem d_Mo_run_287 : decode b_Mo_run 287 = .ok (.iload 6, 2) := by decide +kernel
theorem d_Mo_run_289 : decode b_Mo_run 289 = .ok (.aaload, 1) := by decide +kernel
theorem d_Mo_run_290 : decode b_Mo_run 290 = .ok (.bipush 6, 2) := by decide +kernel
theorem d_Mo_run_292 : decode b_Mo_run 292 = .ok (.iconst 0, 1) := by decide +kernel
theorem d_Mo_run_293 : decode b_Mo_run 293 = .ok (.invokevirtual 85, 3) := by decide +kernel
theorem d_Mo_run_296 : decode b_Mo_run 296 = .ok (.iinc 6 1, 3) := by decide +kernel
theorem d_Mo_run_299 : decode b_Mo_run 299 = .ok (.goto (-36), 3) := by decide +kernel
theorem d_Mo_run_302 : decode b_Mo_run 302 = .ok (.aload_n 0, 1) := by decide +kernel
theorem d_Mo_run_303 : decode b_Mo_run 303 = .ok (.getfield 21, 3) := by decide +kernel
theorem d_Mo_run_306 : decode b_Mo_run 306 = .ok (.iconst 0, 1) := by decide +kernel
theorem d_Mo_run_307 : decode b_Mo_run 307 = .ok (.aaload, 1) := by decide +kernel
theorem d_Mo_run_308 : decode b_Mo_run 308 = .ok (.getfield 127, 3) := by decide +kernel
theorem d_Mo_run_311 : decode b_Mo_run 311 = .ok (.ireturn, 1) := by decide +kernel
theorem q_Mo_run : px_y y_Mo_run 4 := by unfold px_y; decide +kernel
set_option maxHeartbeats 4000000 in
set_option maxRecDepth 100000 in
theorem c_mo_run (l : Launch) (D : va_G) (cs : Nat → ClassId) (mo : Nat) (mr : Nat → Nat) (mf : Nat → Int32) (md : Nat → Nat → Int32) (hq : Nat → Nat) (qr : Nat → Nat → Nat) (QO : Nat → Option Nat) (QF : Nat → Nat → Int32) (QA : Nat → Nat → Nat → Int32) (PG : Nat → Pgs) (p0 p1 p2 p3 : Int32)  (g0 : 0 ≤ (mf 10).toInt) (g1 : (mf 10).toInt ≤ 6000) (hpn : PrN QF) (hpg : PgA PG) : MetI l y_Mo_run b_Mo_run 8 (.int) D cs 14 600 (0) (0) [.ref mo, .int p0, .int p1, .int p2, .int p3] [wd_Mo cs mo mr (fun _ => none) mf md (gMo PG hq), fm 13 (fPr cs hq qr QO QF QA), fm 8 (fPg cs PG)] (oX (fun A U H => (∀ j : Nat, j < 8 → oP A (PG j).g U H) ∧ (oLW A U H)) [wd_Mo cs mo mr (fun _ => none) mf md (gMo PG hq), fm 13 (fPr cs hq qr QO QF QA), fm 8 (fPg cs PG)]) (fun v ps => ∃ (mf' : Nat → Int32) (md' : Nat → Nat → Int32) (QO' : Nat → Option Nat) (QF' : Nat → Nat → Int32) (QA' : Nat → Nat → Nat → Int32), (ps = [wd_Mo cs mo mr (fun _ => none) mf' md' (gMo PG hq), fm 13 (fPr cs hq qr QO' QF' QA'), fm 8 (fPg cs PG)]) ∧ (PrN QF') ∧ ((mf' 2).toInt = (mf 2).toInt) ∧ (0 ≤ (mf' 10).toInt) ∧ ((mf' 10).toInt ≤ (mf 10).toInt) ∧ ((mf' 3).toInt = (mf 3).toInt)) := by
  refine px_enter (by decide) (Nat.le_of_ble_eq_true rfl) ?_
  intro p e s m below meth c A ls hAe S hr hlk hnm hA hT hX hw hl
  replace hl : lv_has ls 8 [(0, .ref mo), (1, .int p0), (2, .int p1), (3, .int p2), (4, .int p3)] := hl
  have lp0 := Int32.le_toInt p0
  have up0 := Int32.toInt_lt p0
  have lp1 := Int32.le_toInt p1
  have up1 := Int32.toInt_lt p1
  have lp2 := Int32.le_toInt p2
  have up2 := Int32.toInt_lt p2
  have lp3 := Int32.le_toInt p3
  have up3 := Int32.toInt_lt p3
  have cstm1 : ((-1) : Int32).toInt = (-1) := rfl
  have cst0 : (0 : Int32).toInt = 0 := rfl
  have cst1 : (1 : Int32).toInt = 1 := rfl
  have cst2 : (2 : Int32).toInt = 2 := rfl
  have cst3 : (3 : Int32).toInt = 3 := rfl
  have cst6 : (6 : Int32).toInt = 6 := rfl
  have cst13 : (13 : Int32).toInt = 13 := rfl
  have cst30 : (30 : Int32).toInt = 30 := rfl
  have cst100 : (100 : Int32).toInt = 100 := rfl
  have cst512 : (512 : Int32).toInt = 512 := rfl
  have hX : (fun A U H => (∀ j : Nat, j < 8 → oP A (PG j).g U H) ∧ (oLW A U H)) A s s.heap := by rw [hAe]; exact hX
  obtain ⟨hGG, hSh⟩ := hX
  have J263 : ∀ (n_263 : Nat) (mf_263 : Nat → Int32) (md_263 : Nat → Nat → Int32) (QO_263 : Nat → Option Nat) (QF_263 : Nat → Nat → Int32) (QA_263 : Nat → Nat → Nat → Int32) (RR_263 : Nat → Int) (x263_6 : Int32) (H : Heap) (locs : List Loc) (ls : Array Slot), (PrA PG RR_263 QO_263 QF_263 QA_263) → ((mf_263 7).toInt = p2.toInt) → ((mf_263 8).toInt = p3.toInt) → (0 ≤ p2.toInt) → (p2.toInt ≤ 100) → (0 ≤ p3.toInt) → (p3.toInt ≤ 512) → ((mf_263 2).toInt = (mf 2).toInt) → (0 ≤ (mf_263 10).toInt) → ((mf_263 10).toInt ≤ (mf 10).toInt) → (0 ≤ p0.toInt) → (p0.toInt < 8) → ((mf_263 3).toInt = (mf 3).toInt) → (0 ≤ x263_6.toInt) → (x263_6.toInt ≤ 13) → 13 - x263_6.toInt < (n_263 : Int) → pw D A s.heap H locs [wd_Mo cs mo mr (fun _ => none) mf_263 md_263 (gMo PG hq), fm 13 (fPr cs hq qr QO_263 QF_263 QA_263), fm 8 (fPg cs PG)] → lv_has ls 8 [(0, .ref mo), (1, .int p0), (2, .int p1), (3, .int p2), (4, .int p3), (6, .int x263_6)] → W p l e { frames := 14, cells := 0, slots := 0, locals := 600 } s m [.ref mo, .int p0, .int p1, .int p2, .int p3].toArray below meth c H locs 0 0 (MQ below (va_Qi (fun v ps => ∃ (mf' : Nat → Int32) (md' : Nat → Nat → Int32) (QO' : Nat → Option Nat) (QF' : Nat → Nat → Int32) (QA' : Nat → Nat → Nat → Int32), (ps = [wd_Mo cs mo mr (fun _ => none) mf' md' (gMo PG hq), fm 13 (fPr cs hq qr QO' QF' QA'), fm 8 (fPg cs PG)]) ∧ (PrN QF') ∧ ((mf' 2).toInt = (mf 2).toInt) ∧ (0 ≤ (mf' 10).toInt) ∧ ((mf' 10).toInt ≤ (mf 10).toInt) ∧ ((mf' 3).toInt = (mf 3).toInt)) (pc_B D (va_A ([wd_Mo cs mo mr (fun _ => none) mf md (gMo PG hq), fm 13 (fPr cs hq qr QO QF QA), fm 8 (fPg cs PG)] : List va_W).flatten s.heap.size)) (va_A ([wd_Mo cs mo mr (fun _ => none) mf md (gMo PG hq), fm 13 (fPr cs hq qr QO QF QA), fm 8 (fPg cs PG)] : List va_W).flatten s.heap.size)) [.ref mo, .int p0, .int p1, .int p2, .int p3].toArray s 0 0 A) (F0 m 263 ls []) := by
    intro  n_263
    induction n_263 with
    | zero =>
      intro mf_263 md_263 QO_263 QF_263 QA_263 RR_263 x263_6 H locs ls k263_0 k263_1 k263_2 k263_3 k263_4 k263_5 k263_6 k263_7 k263_8 k263_9 k263_10 k263_11 k263_12 k263_13 k263_14 hm hw hl
      have lx263_6 := Int32.le_toInt x263_6
      have ux263_6 := Int32.toInt_lt x263_6
      have hpr := k263_0
      have hsum := hpr.sum
      exact absurd hm (by omega)
    | succ n_263 ih263 =>
      intro mf_263 md_263 QO_263 QF_263 QA_263 RR_263 x263_6 H locs ls k263_0 k263_1 k263_2 k263_3 k263_4 k263_5 k263_6 k263_7 k263_8 k263_9 k263_10 k263_11 k263_12 k263_13 k263_14 hm hw hl
      have lx263_6 := Int32.le_toInt x263_6
      have ux263_6 := Int32.toInt_lt x263_6
      have hpr := k263_0
      have hsum := hpr.sum
      refine lv_iload S.x S.b d_Mo_run_263 (lv_at hl 5 rfl) ?_
      refine lv_bipush (v := 13) S.x S.b d_Mo_run_265 (by decide) ?_
      refine lv_icmp_ge (tgt := 302) S.x S.b d_Mo_run_267 (by decide) (fun c1 => ?_) (fun c1 => ?_)
      · have nc1 : (13 : Int) ≤ x263_6.toInt := (i_le (x := 13) (y := x263_6)).mp c1
        refine lv_aload_n S.x S.b d_Mo_run_302 rfl (lv_at hl 0 rfl) ?_
        refine px_get S k_Mo hT hw 0 0 5 (v := .ref (mr 5)) rfl rfl rfl (by decide) m11_83 d_Mo_run_303 ?_
        refine lv_iconst (v := 0) S.x S.b d_Mo_run_306 (by decide) ?_
        refine px_aaldS S hT hw 0 3 10 (n := 13) (f := ((gMo PG hq) 5)) rfl rfl rfl (x := 0) (vp_in_iff.mpr (by constructor <;> omega)) (sk := (hq (0 : Int32).toNatClampNeg)) rfl d_Mo_run_307 ?_
        have hw : pw D A s.heap _ _ [wd_Mo cs mo mr (fun _ => none) mf_263 md_263 (gMo PG hq), fm 8 (fPg cs PG), fm 13 (fPr cs hq qr QO_263 QF_263 QA_263)] := hw.sub [0, 2, 1] rfl rfl
        have hc2 := cl_nat (x := (0 : Int32)) (by first | exact oz_b1de7dbe7e cst0 | omega)
        have hi2 : (0 : Int32).toNatClampNeg < 13 := by first | exact oz_a63a387477 hc2 cst0 | omega
        have hw : pw D A s.heap _ _ [wd_Mo cs mo mr (fun _ => none) mf_263 md_263 (gMo PG hq), fm 8 (fPg cs PG), fo 13 (fPr cs hq qr QO_263 QF_263 QA_263) (0 : Int32).toNatClampNeg, wd_Mpr cs (hq (0 : Int32).toNatClampNeg) (qr (0 : Int32).toNatClampNeg) (fun _ => QO_263 (0 : Int32).toNatClampNeg) (QF_263 (0 : Int32).toNatClampNeg) (QA_263 (0 : Int32).toNatClampNeg) (fun _ _ => none)] := fm_out (pr := [wd_Mo cs mo mr (fun _ => none) mf_263 md_263 (gMo PG hq), fm 8 (fPg cs PG)]) (T := fPr cs hq qr QO_263 QF_263 QA_263) hw hi2
        have hps2 := hpr.1 (0 : Int32).toNatClampNeg hi2
        have hpb2 := hps2.1
        unfold PsB at hpb2
        refine px_get S k_Mpr hT hw 3 0 2 (v := .int ((QF_263 (0 : Int32).toNatClampNeg) 2)) rfl rfl rfl (by decide) m10_226 d_Mo_run_308 ?_
        have hw : pw D A s.heap _ _ [wd_Mo cs mo mr (fun _ => none) mf_263 md_263 (gMo PG hq), fm 8 (fPg cs PG), fm 13 (fPr cs hq qr QO_263 QF_263 QA_263)] := fm_back (pr := [wd_Mo cs mo mr (fun _ => none) mf_263 md_263 (gMo PG hq), fm 8 (fPg cs PG)]) (T := fPr cs hq qr QO_263 QF_263 QA_263) hw hi2
        have hw : pw D A s.heap _ _ [wd_Mo cs mo mr (fun _ => none) mf_263 md_263 (gMo PG hq), fm 13 (fPr cs hq qr QO_263 QF_263 QA_263), fm 8 (fPg cs PG)] := hw.sub [0, 2, 1] rfl rfl
        exact px_iret (v := ((QF_263 (0 : Int32).toNatClampNeg) 2)) S hr rfl hlk hAe hw (Nat.le_of_ble_eq_true rfl) (Nat.le_of_ble_eq_true rfl) (⟨mf_263, md_263, QO_263, QF_263, QA_263, rfl, (show PrN QF_263 from hpr.nn), (show (mf_263 2).toInt = (mf 2).toInt from by first | exact k263_7 | omega), (show 0 ≤ (mf_263 10).toInt from by first | exact k263_8 | omega), (show (mf_263 10).toInt ≤ (mf 10).toInt from by first | exact k263_9 | omega), (show (mf_263 3).toInt = (mf 3).toInt from by first | exact k263_12 | omega)⟩) d_Mo_run_311
      · have nc1 : ¬ (13 : Int) ≤ x263_6.toInt := mt (i_le (x := 13) (y := x263_6)).mpr c1
        refine lv_aload_n S.x S.b d_Mo_run_270 rfl (lv_at hl 0 rfl) ?_
        refine px_get S k_Mo hT hw 0 0 5 (v := .ref (mr 5)) rfl rfl rfl (by decide) m11_83 d_Mo_run_271 ?_
        refine lv_iload S.x S.b d_Mo_run_274 (lv_at hl 5 rfl) ?_
        refine px_aaldS S hT hw 0 3 10 (n := 13) (f := ((gMo PG hq) 5)) rfl rfl rfl (x := x263_6) (vp_in_iff.mpr (by first | exact oz_10a7a22e11 k263_13 nc1 | (constructor <;> omega))) (sk := (hq x263_6.toNatClampNeg)) rfl d_Mo_run_276 ?_
        have hw : pw D A s.heap _ _ [wd_Mo cs mo mr (fun _ => none) mf_263 md_263 (gMo PG hq), fm 8 (fPg cs PG), fm 13 (fPr cs hq qr QO_263 QF_263 QA_263)] := hw.sub [0, 2, 1] rfl rfl
        have hc3 := cl_nat (x := x263_6) (by first | exact k263_13 | omega)
        have hi3 : x263_6.toNatClampNeg < 13 := by first | exact oz_81bc16641b hc3 nc1 | omega
        have hw : pw D A s.heap _ _ [wd_Mo cs mo mr (fun _ => none) mf_263 md_263 (gMo PG hq), fm 8 (fPg cs PG), fo 13 (fPr cs hq qr QO_263 QF_263 QA_263) x263_6.toNatClampNeg, wd_Mpr cs (hq x263_6.toNatClampNeg) (qr x263_6.toNatClampNeg) (fun _ => QO_263 x263_6.toNatClampNeg) (QF_263 x263_6.toNatClampNeg) (QA_263 x263_6.toNatClampNeg) (fun _ _ => none)] := fm_out (pr := [wd_Mo cs mo mr (fun _ => none) mf_263 md_263 (gMo PG hq), fm 8 (fPg cs PG)]) (T := fPr cs hq qr QO_263 QF_263 QA_263) hw hi3
        have hps3 := hpr.1 x263_6.toNatClampNeg hi3
        have hpb3 := hps3.1
        unfold PsB at hpb3
        refine px_calli (pr := [wd_Mo cs mo mr (fun _ => none) mf_263 md_263 (gMo PG hq), fm 8 (fPg cs PG), fo 13 (fPr cs hq qr QO_263 QF_263 QA_263) x263_6.toNatClampNeg]) (px_runV (As := []) (rest := []) S (c_mq_isGoing l D cs (hq x263_6.toNatClampNeg) (qr x263_6.toNatClampNeg) (fun _ _ => none) (fun _ => QO_263 x263_6.toNatClampNeg) (QF_263 x263_6.toNatClampNeg) (QA_263 x263_6.toNatClampNeg)    _) hT (pr := [wd_Mo cs mo mr (fun _ => none) mf_263 md_263 (gMo PG hq), fm 8 (fPg cs PG), fo 13 (fPr cs hq qr QO_263 QF_263 QA_263) x263_6.toNatClampNeg]) (pcs := [wd_Mpr cs (hq x263_6.toNatClampNeg) (qr x263_6.toNatClampNeg) (fun _ => QO_263 x263_6.toNatClampNeg) (QF_263 x263_6.toNatClampNeg) (QA_263 x263_6.toNatClampNeg) (fun _ _ => none)]) hw px_X.tt (px_recv hT hw 3 0 rfl rfl rfl) m13_165 m13_162 m13_163 m13_164 m1_22 q_Mpr_isGoing ⟨Nat.le_of_ble_eq_true rfl, Nat.le_of_ble_eq_true rfl⟩ hl.1 rfl (Nat.le_of_ble_eq_true rfl) d_Mo_run_277 ⟨Nat.le_of_ble_eq_true rfl, Nat.le_of_ble_eq_true rfl⟩) hw hA (fun v5 p4 H locs hp4 hw => ?_)
        obtain ⟨rfl, e6, e7, e8, e9, e10⟩ := hp4
        replace e6 : 0 ≤ v5.toInt := e6
        replace e7 : v5.toInt ≤ 1 := e7
        replace e8 : v5.toInt = 1 → ((QF_263 x263_6.toNatClampNeg) 1).toInt ≠ 0 := e8
        replace e9 : v5.toInt = 1 → ((QF_263 x263_6.toNatClampNeg) 2).toInt = -2 := e9
        replace e10 : ((QF_263 x263_6.toNatClampNeg) 1).toInt ≠ 0 → ((QF_263 x263_6.toNatClampNeg) 2).toInt = -2 → v5.toInt = 1 := e10
        replace hw : pw D A s.heap H locs [wd_Mo cs mo mr (fun _ => none) mf_263 md_263 (gMo PG hq), fm 8 (fPg cs PG), fo 13 (fPr cs hq qr QO_263 QF_263 QA_263) x263_6.toNatClampNeg, wd_Mpr cs (hq x263_6.toNatClampNeg) (qr x263_6.toNatClampNeg) (fun _ => QO_263 x263_6.toNatClampNeg) (QF_263 x263_6.toNatClampNeg) (QA_263 x263_6.toNatClampNeg) (fun _ _ => none)] := hw
        have lv5 := Int32.le_toInt v5
        have uv5 := Int32.toInt_lt v5
        refine lv_if_eq (tgt := 296) S.x S.b d_Mo_run_280 (by decide) (fun c11 => ?_) (fun c11 => ?_)
        · have nc11 : v5.toInt = (0 : Int) := (i_eq (x := v5) (y := 0)).mp c11
          obtain ⟨z12, ez12⟩ : ∃ y : Int32, y = x263_6 + 1 := ⟨_, rfl⟩
          have tz12 : z12.toInt = (x263_6.toInt + 1 + 2147483648) % 4294967296 - 2147483648 := by rw [ez12]; exact i_add x263_6 1
          have lz12 := Int32.le_toInt z12
          have uz12 := Int32.toInt_lt z12
          try replace tz12 : z12.toInt = x263_6.toInt + 1 := by omega
          refine lv_iinc (v := z12) (lv' := [(6, .int z12), (0, .ref mo), (1, .int p0), (2, .int p1), (3, .int p2), (4, .int p3)]) S.x S.b d_Mo_run_296 hl (k := 5) rfl (by rw [ez12]; rfl) (by decide) rfl (fun ls hl => ?_)
          refine lv_goto (tgt := 263) S.x S.b d_Mo_run_299 (by decide) ?_
          have hw : pw D A s.heap _ _ [wd_Mo cs mo mr (fun _ => none) mf_263 md_263 (gMo PG hq), fm 8 (fPg cs PG), fm 13 (fPr cs hq qr QO_263 QF_263 QA_263)] := fm_back (pr := [wd_Mo cs mo mr (fun _ => none) mf_263 md_263 (gMo PG hq), fm 8 (fPg cs PG)]) (T := fPr cs hq qr QO_263 QF_263 QA_263) hw hi3
          have hw : pw D A s.heap _ _ [wd_Mo cs mo mr (fun _ => none) mf_263 md_263 (gMo PG hq), fm 13 (fPr cs hq qr QO_263 QF_263 QA_263), fm 8 (fPg cs PG)] := hw.sub [0, 2, 1] rfl rfl
          exact ih263 mf_263 md_263 QO_263 QF_263 QA_263 RR_263 z12 _ _ ls (show PrA PG RR_263 QO_263 QF_263 QA_263 from hpr) (show (mf_263 7).toInt = p2.toInt from by first | exact k263_1 | omega) (show (mf_263 8).toInt = p3.toInt from by first | exact k263_2 | omega) (show 0 ≤ p2.toInt from by first | exact k263_3 | omega) (show p2.toInt ≤ 100 from by first | exact k263_4 | omega) (show 0 ≤ p3.toInt from by first | exact k263_5 | omega) (show p3.toInt ≤ 512 from by first | exact k263_6 | omega) (show (mf_263 2).toInt = (mf 2).toInt from by first | exact k263_7 | omega) (show 0 ≤ (mf_263 10).toInt from by first | exact k263_8 | omega) (show (mf_263 10).toInt ≤ (mf 10).toInt from by first | exact k263_9 | omega) (show 0 ≤ p0.toInt from by first | exact k263_10 | omega) (show p0.toInt < 8 from by first | exact k263_11 | omega) (show (mf_263 3).toInt = (mf 3).toInt from by first | exact k263_12 | omega) (show 0 ≤ z12.toInt from by first | exact oz_ae613611c0 tz12 k263_13 | omega) (show z12.toInt ≤ 13 from by first | exact oz_d342e04a5c tz12 nc1 | omega) (show 13 - z12.toInt < (n_263 : Int) from by first | exact oz_6680d080b4 hm tz12 | omega) hw (lv_sub hl [1, 2, 3, 4, 5, 0] rfl)
        · have nc11 : ¬ v5.toInt = (0 : Int) := mt (i_eq (x := v5) (y := 0)).mpr c11
          refine lv_aload_n S.x S.b d_Mo_run_283 rfl (lv_at hl 0 rfl) ?_
          refine px_get S k_Mo hT hw 0 0 5 (v := .ref (mr 5)) rfl rfl rfl (by decide) m11_83 d_Mo_run_284 ?_
          refine lv_iload S.x S.b d_Mo_run_287 (lv_at hl 5 rfl) ?_
          refine px_aaldS S hT hw 0 3 10 (n := 13) (f := ((gMo PG hq) 5)) rfl rfl rfl (x := x263_6) (vp_in_iff.mpr (by first | exact oz_10a7a22e11 k263_13 nc1 | (constructor <;> omega))) (sk := (hq x263_6.toNatClampNeg)) rfl d_Mo_run_289 ?_
          refine lv_bipush (v := 6) S.x S.b d_Mo_run_290 (by decide) ?_
          refine lv_iconst (v := 0) S.x S.b d_Mo_run_292 (by decide) ?_
          refine px_callv (pr := [wd_Mo cs mo mr (fun _ => none) mf_263 md_263 (gMo PG hq), fm 8 (fPg cs PG), fo 13 (fPr cs hq qr QO_263 QF_263 QA_263) x263_6.toNatClampNeg]) (px_runV (As := [.int 6, .int 0]) (rest := []) S (c_mq_end l D cs (hq x263_6.toNatClampNeg) (qr x263_6.toNatClampNeg) (fun _ _ => none) (fun _ => QO_263 x263_6.toNatClampNeg) (QA_263 x263_6.toNatClampNeg) (QF_263 x263_6.toNatClampNeg) 6 0   _) hT (pr := [wd_Mo cs mo mr (fun _ => none) mf_263 md_263 (gMo PG hq), fm 8 (fPg cs PG), fo 13 (fPr cs hq qr QO_263 QF_263 QA_263) x263_6.toNatClampNeg]) (pcs := [wd_Mpr cs (hq x263_6.toNatClampNeg) (qr x263_6.toNatClampNeg) (fun _ => QO_263 x263_6.toNatClampNeg) (QF_263 x263_6.toNatClampNeg) (QA_263 x263_6.toNatClampNeg) (fun _ _ => none)]) hw px_X.tt (px_recv hT hw 3 0 rfl rfl rfl) m13_177 m14_35 m13_175 m13_176 m1_22 q_Mpr_end ⟨Nat.le_of_ble_eq_true rfl, Nat.le_of_ble_eq_true rfl⟩ hl.1 rfl (Nat.le_of_ble_eq_true rfl) d_Mo_run_293 ⟨Nat.le_of_ble_eq_true rfl, Nat.le_of_ble_eq_true rfl⟩) hw hA (fun p15 H locs hp15 hw => ?_)
          obtain ⟨qf14, rfl, e17, e18, e19, e20, e21, e22, e23, e24, e25, e26, e27, e28, e29, e30⟩ := hp15
          replace e17 : (qf14 2).toInt = (6 : Int) := e17
          replace e18 : (qf14 1).toInt = ((QF_263 x263_6.toNatClampNeg) 1).toInt := e18
          replace e19 : (qf14 4).toInt = ((QF_263 x263_6.toNatClampNeg) 4).toInt := e19
          replace e20 : (qf14 5).toInt = ((QF_263 x263_6.toNatClampNeg) 5).toInt := e20
          replace e21 : (qf14 6).toInt = ((QF_263 x263_6.toNatClampNeg) 6).toInt := e21
          replace e22 : (qf14 7).toInt = ((QF_263 x263_6.toNatClampNeg) 7).toInt := e22
          replace e23 : (qf14 10).toInt = ((QF_263 x263_6.toNatClampNeg) 10).toInt := e23
          replace e24 : (qf14 11).toInt = ((QF_263 x263_6.toNatClampNeg) 11).toInt := e24
          replace e25 : (qf14 12).toInt = ((QF_263 x263_6.toNatClampNeg) 12).toInt := e25
          replace e26 : (qf14 13).toInt = ((QF_263 x263_6.toNatClampNeg) 13).toInt := e26
          replace e27 : (qf14 14).toInt = ((QF_263 x263_6.toNatClampNeg) 14).toInt := e27
          replace e28 : (qf14 21).toInt = ((QF_263 x263_6.toNatClampNeg) 21).toInt := e28
          replace e29 : (qf14 23).toInt = ((QF_263 x263_6.toNatClampNeg) 23).toInt := e29
          replace e30 : (qf14 24).toInt = ((QF_263 x263_6.toNatClampNeg) 24).toInt := e30
          replace hw : pw D A s.heap H locs [wd_Mo cs mo mr (fun _ => none) mf_263 md_263 (gMo PG hq), fm 8 (fPg cs PG), fo 13 (fPr cs hq qr QO_263 QF_263 QA_263) x263_6.toNatClampNeg, wd_Mpr cs (hq x263_6.toNatClampNeg) (qr x263_6.toNatClampNeg) (fun _ => QO_263 x263_6.toNatClampNeg) qf14 (QA_263 x263_6.toNatClampNeg) (fun _ _ => none)] := hw
          obtain ⟨z31, ez31⟩ : ∃ y : Int32, y = x263_6 + 1 := ⟨_, rfl⟩
          have tz31 : z31.toInt = (x263_6.toInt + 1 + 2147483648) % 4294967296 - 2147483648 := by rw [ez31]; exact i_add x263_6 1
          have lz31 := Int32.le_toInt z31
          have uz31 := Int32.toInt_lt z31
          try replace tz31 : z31.toInt = x263_6.toInt + 1 := by omega
          refine lv_iinc (v := z31) (lv' := [(6, .int z31), (0, .ref mo), (1, .int p0), (2, .int p1), (3, .int p2), (4, .int p3)]) S.x S.b d_Mo_run_296 hl (k := 5) rfl (by rw [ez31]; rfl) (by decide) rfl (fun ls hl => ?_)
          refine lv_goto (tgt := 263) S.x S.b d_Mo_run_299 (by decide) ?_
          have hw := fpr_in (pr := [wd_Mo cs mo mr (fun _ => none) mf_263 md_263 (gMo PG hq), fm 8 (fPg cs PG)]) hw hi3
          obtain ⟨QO32, hu_QO32⟩ : ∃ y : Nat → Option Nat, y = va_up QO_263 x263_6.toNatClampNeg ((fun _ => QO_263 x263_6.toNatClampNeg) 0) := ⟨_, rfl⟩
          obtain ⟨QF33, hu_QF33⟩ : ∃ y : Nat → Nat → Int32, y = va_up QF_263 x263_6.toNatClampNeg qf14 := ⟨_, rfl⟩
          obtain ⟨QA34, hu_QA34⟩ : ∃ y : Nat → Nat → Nat → Int32, y = va_up QA_263 x263_6.toNatClampNeg (QA_263 x263_6.toNatClampNeg) := ⟨_, rfl⟩
          have hw : pw D A s.heap _ _ [wd_Mo cs mo mr (fun _ => none) mf_263 md_263 (gMo PG hq), fm 8 (fPg cs PG), fm 13 (fPr cs hq qr QO32 QF33 QA34)] := (by rw [hu_QO32, hu_QF33, hu_QA34]; exact hw)
          have hpr : PrA PG RR_263 QO32 QF33 QA34 := (by rw [hu_QO32, hu_QF33, hu_QA34]; exact PrA.up hpr (PsR.en hps3 (f' := qf14) (show (0 ≤ (qf14 1).toInt ∧ (qf14 1).toInt ≤ 1) ∧ (0 ≤ (qf14 21).toInt ∧ (qf14 21).toInt ≤ 4) ∧ (0 ≤ (qf14 23).toInt ∧ (qf14 23).toInt ≤ 4) ∧ (0 ≤ (qf14 24).toInt ∧ (qf14 24).toInt ≤ 1000000) ∧ (0 ≤ (qf14 6).toInt ∧ (qf14 6).toInt ≤ 3) ∧ (0 ≤ (qf14 7).toInt ∧ (qf14 7).toInt ≤ 1) from by first | with_reducible rfl | with_reducible assumption | omega) (by omega) (by omega)) (show (qf14 1).toInt = (QF_263 x263_6.toNatClampNeg 1).toInt from by first | exact oz_1811ac7fe4 e18 | omega) (show (QF_263 x263_6.toNatClampNeg 6).toInt ≤ (qf14 6).toInt from by first | exact oz_f9b42d1b56 e21 | omega))
          have hw : pw D A s.heap _ _ [wd_Mo cs mo mr (fun _ => none) mf_263 md_263 (gMo PG hq), fm 13 (fPr cs hq qr QO32 QF33 QA34), fm 8 (fPg cs PG)] := hw.sub [0, 2, 1] rfl rfl
          exact ih263 mf_263 md_263 QO32 QF33 QA34 RR_263 z31 _ _ ls (show PrA PG RR_263 QO32 QF33 QA34 from hpr) (show (mf_263 7).toInt = p2.toInt from by first | exact k263_1 | omega) (show (mf_263 8).toInt = p3.toInt from by first | exact k263_2 | omega) (show 0 ≤ p2.toInt from by first | exact k263_3 | omega) (show p2.toInt ≤ 100 from by first | exact k263_4 | omega) (show 0 ≤ p3.toInt from by first | exact k263_5 | omega) (show p3.toInt ≤ 512 from by first | exact k263_6 | omega) (show (mf_263 2).toInt = (mf 2).toInt from by first | exact k263_7 | omega) (show 0 ≤ (mf_263 10).toInt from by first | exact k263_8 | omega) (show (mf_263 10).toInt ≤ (mf 10).toInt from by first | exact k263_9 | omega) (show 0 ≤ p0.toInt from by first | exact k263_10 | omega) (show p0.toInt < 8 from by first | exact k263_11 | omega) (show (mf_263 3).toInt = (mf 3).toInt from by first | exact k263_12 | omega) (show 0 ≤ z31.toInt from by first | exact oz_ae613611c0 tz31 k263_13 | omega) (show z31.toInt ≤ 13 from by first | exact oz_d342e04a5c tz31 nc1 | omega) (show 13 - z31.toInt < (n_263 : Int) from by first | exact oz_6680d080b4 hm tz31 | omega) hw (lv_sub hl [1, 2, 3, 4, 5, 0] rfl)
  have J187 : ∀ (n_187 : Nat) (mf_187 : Nat → Int32) (md_187 : Nat → Nat → Int32) (QO_187 : Nat → Option Nat) (QF_187 : Nat → Nat → Int32) (QA_187 : Nat → Nat → Nat → Int32) (RR_187 : Nat → Int) (x187_5 : Int32) (H : Heap) (locs : List Loc) (ls : Array Slot), (PrA PG RR_187 QO_187 QF_187 QA_187) → ((mf_187 7).toInt = p2.toInt) → ((mf_187 8).toInt = p3.toInt) → (0 ≤ p2.toInt) → (p2.toInt ≤ 100) → (0 ≤ p3.toInt) → (p3.toInt ≤ 512) → ((mf_187 2).toInt = (mf 2).toInt) → (0 ≤ (mf_187 10).toInt) → ((mf_187 10).toInt ≤ (mf 10).toInt) → (0 ≤ p0.toInt) → (p0.toInt < 8) → ((mf_187 3).toInt = (mf 3).toInt) → (0 ≤ x187_5.toInt) → (x187_5.toInt ≤ 1) → 2 * sumR RR_187 13 + x187_5.toInt < (n_187 : Int) → pw D A s.heap H locs [wd_Mo cs mo mr (fun _ => none) mf_187 md_187 (gMo PG hq), fm 13 (fPr cs hq qr QO_187 QF_187 QA_187), fm 8 (fPg cs PG)] → lv_has ls 8 [(0, .ref mo), (1, .int p0), (2, .int p1), (3, .int p2), (4, .int p3), (5, .int x187_5)] → W p l e { frames := 14, cells := 0, slots := 0, locals := 600 } s m [.ref mo, .int p0, .int p1, .int p2, .int p3].toArray below meth c H locs 0 0 (MQ below (va_Qi (fun v ps => ∃ (mf' : Nat → Int32) (md' : Nat → Nat → Int32) (QO' : Nat → Option Nat) (QF' : Nat → Nat → Int32) (QA' : Nat → Nat → Nat → Int32), (ps = [wd_Mo cs mo mr (fun _ => none) mf' md' (gMo PG hq), fm 13 (fPr cs hq qr QO' QF' QA'), fm 8 (fPg cs PG)]) ∧ (PrN QF') ∧ ((mf' 2).toInt = (mf 2).toInt) ∧ (0 ≤ (mf' 10).toInt) ∧ ((mf' 10).toInt ≤ (mf 10).toInt) ∧ ((mf' 3).toInt = (mf 3).toInt)) (pc_B D (va_A ([wd_Mo cs mo mr (fun _ => none) mf md (gMo PG hq), fm 13 (fPr cs hq qr QO QF QA), fm 8 (fPg cs PG)] : List va_W).flatten s.heap.size)) (va_A ([wd_Mo cs mo mr (fun _ => none) mf md (gMo PG hq), fm 13 (fPr cs hq qr QO QF QA), fm 8 (fPg cs PG)] : List va_W).flatten s.heap.size)) [.ref mo, .int p0, .int p1, .int p2, .int p3].toArray s 0 0 A) (F0 m 187 ls []) := by
    intro  n_187
    induction n_187 with
    | zero =>
      intro mf_187 md_187 QO_187 QF_187 QA_187 RR_187 x187_5 H locs ls k187_0 k187_1 k187_2 k187_3 k187_4 k187_5 k187_6 k187_7 k187_8 k187_9 k187_10 k187_11 k187_12 k187_13 k187_14 hm hw hl
      have lx187_5 := Int32.le_toInt x187_5
      have ux187_5 := Int32.toInt_lt x187_5
      have hpr := k187_0
      have hsum := hpr.sum
      exact absurd hm (by omega)
    | succ n_187 ih187 =>
      intro mf_187 md_187 QO_187 QF_187 QA_187 RR_187 x187_5 H locs ls k187_0 k187_1 k187_2 k187_3 k187_4 k187_5 k187_6 k187_7 k187_8 k187_9 k187_10 k187_11 k187_12 k187_13 k187_14 hm hw hl
      have lx187_5 := Int32.le_toInt x187_5
      have ux187_5 := Int32.toInt_lt x187_5
      have hpr := k187_0
      have hsum := hpr.sum
      have J198 : ∀ (n_198 : Nat) (mf_198 : Nat → Int32) (md_198 : Nat → Nat → Int32) (QO_198 : Nat → Option Nat) (QF_198 : Nat → Nat → Int32) (QA_198 : Nat → Nat → Nat → Int32) (RR_198 : Nat → Int) (x198_5 x198_6 : Int32) (H : Heap) (locs : List Loc) (ls : Array Slot), (PrA PG RR_198 QO_198 QF_198 QA_198) → ((mf_198 7).toInt = p2.toInt) → ((mf_198 8).toInt = p3.toInt) → (0 ≤ p2.toInt) → (p2.toInt ≤ 100) → (0 ≤ p3.toInt) → (p3.toInt ≤ 512) → ((mf_198 2).toInt = (mf 2).toInt) → (0 ≤ (mf_198 10).toInt) → ((mf_198 10).toInt ≤ (mf 10).toInt) → (0 ≤ p0.toInt) → (p0.toInt < 8) → ((mf_198 3).toInt = (mf 3).toInt) → (0 ≤ x198_5.toInt) → (x198_5.toInt ≤ 1) → (0 ≤ x198_6.toInt) → (x198_6.toInt ≤ 13) → (sumR RR_198 13 + x198_5.toInt ≤ sumR RR_187 13) → (1 ≤ x187_5.toInt) → 13 - x198_6.toInt < (n_198 : Int) → pw D A s.heap H locs [wd_Mo cs mo mr (fun _ => none) mf_198 md_198 (gMo PG hq), fm 13 (fPr cs hq qr QO_198 QF_198 QA_198), fm 8 (fPg cs PG)] → lv_has ls 8 [(0, .ref mo), (1, .int p0), (2, .int p1), (3, .int p2), (4, .int p3), (5, .int x198_5), (6, .int x198_6)] → W p l e { frames := 14, cells := 0, slots := 0, locals := 600 } s m [.ref mo, .int p0, .int p1, .int p2, .int p3].toArray below meth c H locs 0 0 (MQ below (va_Qi (fun v ps => ∃ (mf' : Nat → Int32) (md' : Nat → Nat → Int32) (QO' : Nat → Option Nat) (QF' : Nat → Nat → Int32) (QA' : Nat → Nat → Nat → Int32), (ps = [wd_Mo cs mo mr (fun _ => none) mf' md' (gMo PG hq), fm 13 (fPr cs hq qr QO' QF' QA'), fm 8 (fPg cs PG)]) ∧ (PrN QF') ∧ ((mf' 2).toInt = (mf 2).toInt) ∧ (0 ≤ (mf' 10).toInt) ∧ ((mf' 10).toInt ≤ (mf 10).toInt) ∧ ((mf' 3).toInt = (mf 3).toInt)) (pc_B D (va_A ([wd_Mo cs mo mr (fun _ => none) mf md (gMo PG hq), fm 13 (fPr cs hq qr QO QF QA), fm 8 (fPg cs PG)] : List va_W).flatten s.heap.size)) (va_A ([wd_Mo cs mo mr (fun _ => none) mf md (gMo PG hq), fm 13 (fPr cs hq qr QO QF QA), fm 8 (fPg cs PG)] : List va_W).flatten s.heap.size)) [.ref mo, .int p0, .int p1, .int p2, .int p3].toArray s 0 0 A) (F0 m 198 ls []) := by
        intro  n_198
        induction n_198 with
        | zero =>
          intro mf_198 md_198 QO_198 QF_198 QA_198 RR_198 x198_5 x198_6 H locs ls k198_0 k198_1 k198_2 k198_3 k198_4 k198_5 k198_6 k198_7 k198_8 k198_9 k198_10 k198_11 k198_12 k198_13 k198_14 k198_15 k198_16 k198_17 k198_18 hm hw hl
          have lx198_5 := Int32.le_toInt x198_5
          have ux198_5 := Int32.toInt_lt x198_5
          have lx198_6 := Int32.le_toInt x198_6
          have ux198_6 := Int32.toInt_lt x198_6
          have hpr := k198_0
          have hsum := hpr.sum
          exact absurd hm (by omega)
        | succ n_198 ih198 =>
          intro mf_198 md_198 QO_198 QF_198 QA_198 RR_198 x198_5 x198_6 H locs ls k198_0 k198_1 k198_2 k198_3 k198_4 k198_5 k198_6 k198_7 k198_8 k198_9 k198_10 k198_11 k198_12 k198_13 k198_14 k198_15 k198_16 k198_17 k198_18 hm hw hl
          have lx198_5 := Int32.le_toInt x198_5
          have ux198_5 := Int32.toInt_lt x198_5
          have lx198_6 := Int32.le_toInt x198_6
          have ux198_6 := Int32.toInt_lt x198_6
          have hpr := k198_0
          have hsum := hpr.sum
          refine lv_iload S.x S.b d_Mo_run_198 (lv_at hl 6 rfl) ?_
          refine lv_bipush (v := 13) S.x S.b d_Mo_run_200 (by decide) ?_
          refine lv_icmp_ge (tgt := 257) S.x S.b d_Mo_run_202 (by decide) (fun c35 => ?_) (fun c35 => ?_)
          · have nc35 : (13 : Int) ≤ x198_6.toInt := (i_le (x := 13) (y := x198_6)).mp c35
            refine lv_goto (tgt := 187) S.x S.b d_Mo_run_257 (by decide) ?_
            exact ih187 mf_198 md_198 QO_198 QF_198 QA_198 RR_198 x198_5 _ _ ls (show PrA PG RR_198 QO_198 QF_198 QA_198 from hpr) (show (mf_198 7).toInt = p2.toInt from by first | exact k198_1 | omega) (show (mf_198 8).toInt = p3.toInt from by first | exact k198_2 | omega) (show 0 ≤ p2.toInt from by first | exact k187_3 | omega) (show p2.toInt ≤ 100 from by first | exact k187_4 | omega) (show 0 ≤ p3.toInt from by first | exact k187_5 | omega) (show p3.toInt ≤ 512 from by first | exact k187_6 | omega) (show (mf_198 2).toInt = (mf 2).toInt from by first | exact k198_7 | omega) (show 0 ≤ (mf_198 10).toInt from by first | exact k198_8 | omega) (show (mf_198 10).toInt ≤ (mf 10).toInt from by first | exact k198_9 | omega) (show 0 ≤ p0.toInt from by first | exact k187_10 | omega) (show p0.toInt < 8 from by first | exact k187_11 | omega) (show (mf_198 3).toInt = (mf 3).toInt from by first | exact k198_12 | omega) (show 0 ≤ x198_5.toInt from by first | exact k198_13 | omega) (show x198_5.toInt ≤ 1 from by first | exact k198_14 | omega) (show 2 * sumR RR_198 13 + x198_5.toInt < (n_187 : Int) from by first | with_reducible rfl | with_reducible assumption | omega) hw (lv_sub hl [0, 1, 2, 3, 4, 5] rfl)
          · have nc35 : ¬ (13 : Int) ≤ x198_6.toInt := mt (i_le (x := 13) (y := x198_6)).mpr c35
            refine lv_aload_n S.x S.b d_Mo_run_205 rfl (lv_at hl 0 rfl) ?_
            refine px_get S k_Mo hT hw 0 0 5 (v := .ref (mr 5)) rfl rfl rfl (by decide) m11_83 d_Mo_run_206 ?_
            refine lv_iload S.x S.b d_Mo_run_209 (lv_at hl 6 rfl) ?_
            refine px_aaldS S hT hw 0 3 10 (n := 13) (f := ((gMo PG hq) 5)) rfl rfl rfl (x := x198_6) (vp_in_iff.mpr (by first | exact oz_10a7a22e11 k198_15 nc35 | (constructor <;> omega))) (sk := (hq x198_6.toNatClampNeg)) rfl d_Mo_run_211 ?_
            have hw : pw D A s.heap _ _ [wd_Mo cs mo mr (fun _ => none) mf_198 md_198 (gMo PG hq), fm 8 (fPg cs PG), fm 13 (fPr cs hq qr QO_198 QF_198 QA_198)] := hw.sub [0, 2, 1] rfl rfl
            have hc36 := cl_nat (x := x198_6) (by first | exact k198_15 | omega)
            have hi36 : x198_6.toNatClampNeg < 13 := by first | exact oz_81bc16641b hc36 nc35 | omega
            have hw : pw D A s.heap _ _ [wd_Mo cs mo mr (fun _ => none) mf_198 md_198 (gMo PG hq), fm 8 (fPg cs PG), fo 13 (fPr cs hq qr QO_198 QF_198 QA_198) x198_6.toNatClampNeg, wd_Mpr cs (hq x198_6.toNatClampNeg) (qr x198_6.toNatClampNeg) (fun _ => QO_198 x198_6.toNatClampNeg) (QF_198 x198_6.toNatClampNeg) (QA_198 x198_6.toNatClampNeg) (fun _ _ => none)] := fm_out (pr := [wd_Mo cs mo mr (fun _ => none) mf_198 md_198 (gMo PG hq), fm 8 (fPg cs PG)]) (T := fPr cs hq qr QO_198 QF_198 QA_198) hw hi36
            have hps36 := hpr.1 x198_6.toNatClampNeg hi36
            have hpb36 := hps36.1
            unfold PsB at hpb36
            refine px_calli (pr := [wd_Mo cs mo mr (fun _ => none) mf_198 md_198 (gMo PG hq), fm 8 (fPg cs PG), fo 13 (fPr cs hq qr QO_198 QF_198 QA_198) x198_6.toNatClampNeg]) (px_runV (As := []) (rest := []) S (c_mq_isGoing l D cs (hq x198_6.toNatClampNeg) (qr x198_6.toNatClampNeg) (fun _ _ => none) (fun _ => QO_198 x198_6.toNatClampNeg) (QF_198 x198_6.toNatClampNeg) (QA_198 x198_6.toNatClampNeg)    _) hT (pr := [wd_Mo cs mo mr (fun _ => none) mf_198 md_198 (gMo PG hq), fm 8 (fPg cs PG), fo 13 (fPr cs hq qr QO_198 QF_198 QA_198) x198_6.toNatClampNeg]) (pcs := [wd_Mpr cs (hq x198_6.toNatClampNeg) (qr x198_6.toNatClampNeg) (fun _ => QO_198 x198_6.toNatClampNeg) (QF_198 x198_6.toNatClampNeg) (QA_198 x198_6.toNatClampNeg) (fun _ _ => none)]) hw px_X.tt (px_recv hT hw 3 0 rfl rfl rfl) m13_165 m13_162 m13_163 m13_164 m1_22 q_Mpr_isGoing ⟨Nat.le_of_ble_eq_true rfl, Nat.le_of_ble_eq_true rfl⟩ hl.1 rfl (Nat.le_of_ble_eq_true rfl) d_Mo_run_212 ⟨Nat.le_of_ble_eq_true rfl, Nat.le_of_ble_eq_true rfl⟩) hw hA (fun v38 p37 H locs hp37 hw => ?_)
            obtain ⟨rfl, e39, e40, e41, e42, e43⟩ := hp37
            replace e39 : 0 ≤ v38.toInt := e39
            replace e40 : v38.toInt ≤ 1 := e40
            replace e41 : v38.toInt = 1 → ((QF_198 x198_6.toNatClampNeg) 1).toInt ≠ 0 := e41
            replace e42 : v38.toInt = 1 → ((QF_198 x198_6.toNatClampNeg) 2).toInt = -2 := e42
            replace e43 : ((QF_198 x198_6.toNatClampNeg) 1).toInt ≠ 0 → ((QF_198 x198_6.toNatClampNeg) 2).toInt = -2 → v38.toInt = 1 := e43
            replace hw : pw D A s.heap H locs [wd_Mo cs mo mr (fun _ => none) mf_198 md_198 (gMo PG hq), fm 8 (fPg cs PG), fo 13 (fPr cs hq qr QO_198 QF_198 QA_198) x198_6.toNatClampNeg, wd_Mpr cs (hq x198_6.toNatClampNeg) (qr x198_6.toNatClampNeg) (fun _ => QO_198 x198_6.toNatClampNeg) (QF_198 x198_6.toNatClampNeg) (QA_198 x198_6.toNatClampNeg) (fun _ _ => none)] := hw
            have lv38 := Int32.le_toInt v38
            have uv38 := Int32.toInt_lt v38
            refine lv_if_eq (tgt := 231) S.x S.b d_Mo_run_215 (by decide) (fun c44 => ?_) (fun c44 => ?_)
            · have nc44 : v38.toInt = (0 : Int) := (i_eq (x := v38) (y := 0)).mp c44
              refine lv_iconst (v := 0) S.x S.b d_Mo_run_231 (by decide) ?_
              refine lv_istore (lv' := [(7, .int 0), (0, .ref mo), (1, .int p0), (2, .int p1), (3, .int p2), (4, .int p3), (5, .int x198_5), (6, .int x198_6)]) S.x S.b d_Mo_run_232 hl (by decide) rfl (fun ls hl => ?_)
              refine lv_iload S.x S.b d_Mo_run_234 (lv_at hl 6 rfl) ?_
              refine lv_if_ne (tgt := 244) S.x S.b d_Mo_run_236 (by decide) (fun c45 => ?_) (fun c45 => ?_)
              · have nc45 : ¬ x198_5.toInt = (0 : Int) := mt (i_eq (x := x198_5) (y := 0)).mpr c45
                refine lv_iconst (v := 1) S.x S.b d_Mo_run_244 (by decide) ?_
                refine lv_goto (tgt := 249) S.x S.b d_Mo_run_245 (by decide) ?_
                refine lv_istore (lv' := [(5, .int 1), (7, .int 0), (0, .ref mo), (1, .int p0), (2, .int p1), (3, .int p2), (4, .int p3), (6, .int x198_6)]) S.x S.b d_Mo_run_249 hl (by decide) rfl (fun ls hl => ?_)
                obtain ⟨z46, ez46⟩ : ∃ y : Int32, y = x198_6 + 1 := ⟨_, rfl⟩
                have tz46 : z46.toInt = (x198_6.toInt + 1 + 2147483648) % 4294967296 - 2147483648 := by rw [ez46]; exact i_add x198_6 1
                have lz46 := Int32.le_toInt z46
                have uz46 := Int32.toInt_lt z46
                try replace tz46 : z46.toInt = x198_6.toInt + 1 := by omega
                refine lv_iinc (v := z46) (lv' := [(6, .int z46), (5, .int 1), (7, .int 0), (0, .ref mo), (1, .int p0), (2, .int p1), (3, .int p2), (4, .int p3)]) S.x S.b d_Mo_run_251 hl (k := 7) rfl (by rw [ez46]; rfl) (by decide) rfl (fun ls hl => ?_)
                refine lv_goto (tgt := 198) S.x S.b d_Mo_run_254 (by decide) ?_
                have hw : pw D A s.heap _ _ [wd_Mo cs mo mr (fun _ => none) mf_198 md_198 (gMo PG hq), fm 8 (fPg cs PG), fm 13 (fPr cs hq qr QO_198 QF_198 QA_198)] := fm_back (pr := [wd_Mo cs mo mr (fun _ => none) mf_198 md_198 (gMo PG hq), fm 8 (fPg cs PG)]) (T := fPr cs hq qr QO_198 QF_198 QA_198) hw hi36
                have hw : pw D A s.heap _ _ [wd_Mo cs mo mr (fun _ => none) mf_198 md_198 (gMo PG hq), fm 13 (fPr cs hq qr QO_198 QF_198 QA_198), fm 8 (fPg cs PG)] := hw.sub [0, 2, 1] rfl rfl
                exact ih198 mf_198 md_198 QO_198 QF_198 QA_198 RR_198 (1 : Int32) z46 _ _ ls (show PrA PG RR_198 QO_198 QF_198 QA_198 from hpr) (show (mf_198 7).toInt = p2.toInt from by first | exact k198_1 | omega) (show (mf_198 8).toInt = p3.toInt from by first | exact k198_2 | omega) (show 0 ≤ p2.toInt from by first | exact k187_3 | omega) (show p2.toInt ≤ 100 from by first | exact k187_4 | omega) (show 0 ≤ p3.toInt from by first | exact k187_5 | omega) (show p3.toInt ≤ 512 from by first | exact k187_6 | omega) (show (mf_198 2).toInt = (mf 2).toInt from by first | exact k198_7 | omega) (show 0 ≤ (mf_198 10).toInt from by first | exact k198_8 | omega) (show (mf_198 10).toInt ≤ (mf 10).toInt from by first | exact k198_9 | omega) (show 0 ≤ p0.toInt from by first | exact k187_10 | omega) (show p0.toInt < 8 from by first | exact k187_11 | omega) (show (mf_198 3).toInt = (mf 3).toInt from by first | exact k198_12 | omega) (show 0 ≤ (1 : Int) from by first | decide | omega) (show (1 : Int) ≤ 1 from by first | decide | omega) (show 0 ≤ z46.toInt from by first | exact oz_ae613611c0 tz46 k198_15 | omega) (show z46.toInt ≤ 13 from by first | exact oz_d342e04a5c tz46 nc35 | omega) (show sumR RR_198 13 + (1 : Int) ≤ sumR RR_187 13 from by first | exact oz_5c6028159b k198_17 k198_13 nc45 | omega) (show 1 ≤ x187_5.toInt from by first | exact k198_18 | omega) (show 13 - z46.toInt < (n_198 : Int) from by first | exact oz_6680d080b4 hm tz46 | omega) hw (lv_sub hl [3, 4, 5, 6, 7, 1, 0] rfl)
              · have nc45 : x198_5.toInt = (0 : Int) := (i_eq (x := x198_5) (y := 0)).mp c45
                refine lv_iload S.x S.b d_Mo_run_239 (lv_at hl 0 rfl) ?_
                refine lv_if_eq (tgt := 248) S.x S.b d_Mo_run_241 (by decide) (fun c47 => ?_) (fun c47 => ?_)
                ·
                  refine lv_iconst (v := 0) S.x S.b d_Mo_run_248 (by decide) ?_
                  refine lv_istore (lv' := [(5, .int 0), (7, .int 0), (0, .ref mo), (1, .int p0), (2, .int p1), (3, .int p2), (4, .int p3), (6, .int x198_6)]) S.x S.b d_Mo_run_249 hl (by decide) rfl (fun ls hl => ?_)
                  obtain ⟨z48, ez48⟩ : ∃ y : Int32, y = x198_6 + 1 := ⟨_, rfl⟩
                  have tz48 : z48.toInt = (x198_6.toInt + 1 + 2147483648) % 4294967296 - 2147483648 := by rw [ez48]; exact i_add x198_6 1
                  have lz48 := Int32.le_toInt z48
                  have uz48 := Int32.toInt_lt z48
                  try replace tz48 : z48.toInt = x198_6.toInt + 1 := by omega
                  refine lv_iinc (v := z48) (lv' := [(6, .int z48), (5, .int 0), (7, .int 0), (0, .ref mo), (1, .int p0), (2, .int p1), (3, .int p2), (4, .int p3)]) S.x S.b d_Mo_run_251 hl (k := 7) rfl (by rw [ez48]; rfl) (by decide) rfl (fun ls hl => ?_)
                  refine lv_goto (tgt := 198) S.x S.b d_Mo_run_254 (by decide) ?_
                  have hw : pw D A s.heap _ _ [wd_Mo cs mo mr (fun _ => none) mf_198 md_198 (gMo PG hq), fm 8 (fPg cs PG), fm 13 (fPr cs hq qr QO_198 QF_198 QA_198)] := fm_back (pr := [wd_Mo cs mo mr (fun _ => none) mf_198 md_198 (gMo PG hq), fm 8 (fPg cs PG)]) (T := fPr cs hq qr QO_198 QF_198 QA_198) hw hi36
                  have hw : pw D A s.heap _ _ [wd_Mo cs mo mr (fun _ => none) mf_198 md_198 (gMo PG hq), fm 13 (fPr cs hq qr QO_198 QF_198 QA_198), fm 8 (fPg cs PG)] := hw.sub [0, 2, 1] rfl rfl
                  exact ih198 mf_198 md_198 QO_198 QF_198 QA_198 RR_198 (0 : Int32) z48 _ _ ls (show PrA PG RR_198 QO_198 QF_198 QA_198 from hpr) (show (mf_198 7).toInt = p2.toInt from by first | exact k198_1 | omega) (show (mf_198 8).toInt = p3.toInt from by first | exact k198_2 | omega) (show 0 ≤ p2.toInt from by first | exact k187_3 | omega) (show p2.toInt ≤ 100 from by first | exact k187_4 | omega) (show 0 ≤ p3.toInt from by first | exact k187_5 | omega) (show p3.toInt ≤ 512 from by first | exact k187_6 | omega) (show (mf_198 2).toInt = (mf 2).toInt from by first | exact k198_7 | omega) (show 0 ≤ (mf_198 10).toInt from by first | exact k198_8 | omega) (show (mf_198 10).toInt ≤ (mf 10).toInt from by first | exact k198_9 | omega) (show 0 ≤ p0.toInt from by first | exact k187_10 | omega) (show p0.toInt < 8 from by first | exact k187_11 | omega) (show (mf_198 3).toInt = (mf 3).toInt from by first | exact k198_12 | omega) (show 0 ≤ (0 : Int) from by first | decide | omega) (show (0 : Int) ≤ 1 from by first | decide | omega) (show 0 ≤ z48.toInt from by first | exact oz_ae613611c0 tz48 k198_15 | omega) (show z48.toInt ≤ 13 from by first | exact oz_d342e04a5c tz48 nc35 | omega) (show sumR RR_198 13 + (0 : Int) ≤ sumR RR_187 13 from by first | exact oz_114f3a14bc k198_17 k198_13 | omega) (show 1 ≤ x187_5.toInt from by first | exact k198_18 | omega) (show 13 - z48.toInt < (n_198 : Int) from by first | exact oz_6680d080b4 hm tz48 | omega) hw (lv_sub hl [3, 4, 5, 6, 7, 1, 0] rfl)
                · exact absurd c47 (by decide)
            · have nc44 : ¬ v38.toInt = (0 : Int) := mt (i_eq (x := v38) (y := 0)).mpr c44
              refine lv_aload_n S.x S.b d_Mo_run_218 rfl (lv_at hl 0 rfl) ?_
              refine lv_iload S.x S.b d_Mo_run_219 (lv_at hl 6 rfl) ?_
              have hw : pw D A s.heap _ _ [wd_Mo cs mo mr (fun _ => none) mf_198 md_198 (gMo PG hq), fm 8 (fPg cs PG), fm 13 (fPr cs hq qr QO_198 QF_198 QA_198)] := fm_back (pr := [wd_Mo cs mo mr (fun _ => none) mf_198 md_198 (gMo PG hq), fm 8 (fPg cs PG)]) (T := fPr cs hq qr QO_198 QF_198 QA_198) hw hi36
              have hw : pw D A s.heap _ _ [wd_Mo cs mo mr (fun _ => none) mf_198 md_198 (gMo PG hq), fm 13 (fPr cs hq qr QO_198 QF_198 QA_198), fm 8 (fPg cs PG)] := hw.sub [0, 2, 1] rfl rfl
              refine px_calli (pr := []) (px_runV (As := [.int x198_6]) (rest := []) S (c_mo_goOn l D cs RR_198 mo mr mf_198 md_198 hq qr QO_198 QF_198 QA_198 PG x198_6  (show 0 ≤ x198_6.toInt from by first | exact k198_15 | omega) (show x198_6.toInt < 13 from by first | exact oz_c0b67ff80b nc35 | omega) (show 0 ≤ (mf_198 7).toInt from by first | exact oz_f3ebed1ad0 k198_1 k187_3 | omega) (show (mf_198 7).toInt ≤ 100 from by first | exact oz_b2552476a0 k198_1 k187_4 | omega) (show 0 ≤ (mf_198 8).toInt from by first | exact oz_f3ebed1ad0 k198_2 k187_5 | omega) (show (mf_198 8).toInt ≤ 512 from by first | exact oz_5926d5b85b k198_2 k187_6 | omega) hpr hpg _) hT (pr := []) (pcs := [wd_Mo cs mo mr (fun _ => none) mf_198 md_198 (gMo PG hq), fm 13 (fPr cs hq qr QO_198 QF_198 QA_198), fm 8 (fPg cs PG)]) hw (oX_call (P := (fun A U H => (∀ j : Nat, j < 8 → oP A (PG j).g U H) ∧ (oLW A U H))) (pr := []) (oG_and oG_G oG_LW) hw hA ⟨hGG, hSh⟩) (px_recv hT hw 0 0 rfl rfl rfl) m13_169 m13_166 m13_168 ms_14_15 m1_20 q_Mo_goOn ⟨Nat.le_of_ble_eq_true rfl, Nat.le_of_ble_eq_true rfl⟩ hl.1 rfl (Nat.le_of_ble_eq_true rfl) d_Mo_run_221 ⟨Nat.le_of_ble_eq_true rfl, Nat.le_of_ble_eq_true rfl⟩) hw hA (fun v60 p59 H locs hp59 hw => ?_)
              obtain ⟨mf54, md55, QO56, QF57, QA58, rfl, e61, e62, e63, e64, e65, e66, e67, e68, e69⟩ := hp59
              replace e61 : 0 ≤ v60.toInt := e61
              replace e62 : v60.toInt ≤ 1 := e62
              replace e63 : PrA PG (va_up RR_198 x198_6.toNatClampNeg (RR_198 x198_6.toNatClampNeg - v60.toInt)) QO56 QF57 QA58 := e63
              have hpr := e63
              have hcl9 := cl_nat (x := x198_6) (by first | exact k198_15 | omega)
              have hsu := sum_up (RR := RR_198) (p := x198_6.toNatClampNeg) (x := RR_198 x198_6.toNatClampNeg - v60.toInt) (m := 13) (by omega)
              replace e64 : (mf54 0).toInt = (mf_198 0).toInt := e64
              replace e65 : (mf54 2).toInt = (mf_198 2).toInt := e65
              replace e66 : (mf54 3).toInt = (mf_198 3).toInt := e66
              replace e67 : (mf54 7).toInt = (mf_198 7).toInt := e67
              replace e68 : (mf54 8).toInt = (mf_198 8).toInt := e68
              replace e69 : (mf54 10).toInt = (mf_198 10).toInt := e69
              replace hw : pw D A s.heap H locs [wd_Mo cs mo mr (fun _ => none) mf54 md55 (gMo PG hq), fm 13 (fPr cs hq qr QO56 QF57 QA58), fm 8 (fPg cs PG)] := hw
              have lv60 := Int32.le_toInt v60
              have uv60 := Int32.toInt_lt v60
              refine lv_if_eq (tgt := 231) S.x S.b d_Mo_run_224 (by decide) (fun c70 => ?_) (fun c70 => ?_)
              · have nc70 : v60.toInt = (0 : Int) := (i_eq (x := v60) (y := 0)).mp c70
                refine lv_iconst (v := 0) S.x S.b d_Mo_run_231 (by decide) ?_
                refine lv_istore (lv' := [(7, .int 0), (0, .ref mo), (1, .int p0), (2, .int p1), (3, .int p2), (4, .int p3), (5, .int x198_5), (6, .int x198_6)]) S.x S.b d_Mo_run_232 hl (by decide) rfl (fun ls hl => ?_)
                refine lv_iload S.x S.b d_Mo_run_234 (lv_at hl 6 rfl) ?_
                refine lv_if_ne (tgt := 244) S.x S.b d_Mo_run_236 (by decide) (fun c71 => ?_) (fun c71 => ?_)
                · have nc71 : ¬ x198_5.toInt = (0 : Int) := mt (i_eq (x := x198_5) (y := 0)).mpr c71
                  refine lv_iconst (v := 1) S.x S.b d_Mo_run_244 (by decide) ?_
                  refine lv_goto (tgt := 249) S.x S.b d_Mo_run_245 (by decide) ?_
                  refine lv_istore (lv' := [(5, .int 1), (7, .int 0), (0, .ref mo), (1, .int p0), (2, .int p1), (3, .int p2), (4, .int p3), (6, .int x198_6)]) S.x S.b d_Mo_run_249 hl (by decide) rfl (fun ls hl => ?_)
                  obtain ⟨z72, ez72⟩ : ∃ y : Int32, y = x198_6 + 1 := ⟨_, rfl⟩
                  have tz72 : z72.toInt = (x198_6.toInt + 1 + 2147483648) % 4294967296 - 2147483648 := by rw [ez72]; exact i_add x198_6 1
                  have lz72 := Int32.le_toInt z72
                  have uz72 := Int32.toInt_lt z72
                  try replace tz72 : z72.toInt = x198_6.toInt + 1 := by omega
                  refine lv_iinc (v := z72) (lv' := [(6, .int z72), (5, .int 1), (7, .int 0), (0, .ref mo), (1, .int p0), (2, .int p1), (3, .int p2), (4, .int p3)]) S.x S.b d_Mo_run_251 hl (k := 7) rfl (by rw [ez72]; rfl) (by decide) rfl (fun ls hl => ?_)
                  refine lv_goto (tgt := 198) S.x S.b d_Mo_run_254 (by decide) ?_
                  exact ih198 mf54 md55 QO56 QF57 QA58 (va_up RR_198 x198_6.toNatClampNeg (RR_198 x198_6.toNatClampNeg - v60.toInt)) (1 : Int32) z72 _ _ ls (show PrA PG (va_up RR_198 x198_6.toNatClampNeg (RR_198 x198_6.toNatClampNeg - v60.toInt)) QO56 QF57 QA58 from hpr) (show (mf54 7).toInt = p2.toInt from by first | exact oz_1687f4cc65 k198_1 e67 | omega) (show (mf54 8).toInt = p3.toInt from by first | exact oz_1687f4cc65 k198_2 e68 | omega) (show 0 ≤ p2.toInt from by first | exact k187_3 | omega) (show p2.toInt ≤ 100 from by first | exact k187_4 | omega) (show 0 ≤ p3.toInt from by first | exact k187_5 | omega) (show p3.toInt ≤ 512 from by first | exact k187_6 | omega) (show (mf54 2).toInt = (mf 2).toInt from by first | exact oz_1687f4cc65 k198_7 e65 | omega) (show 0 ≤ (mf54 10).toInt from by first | exact oz_f3ebed1ad0 e69 k198_8 | omega) (show (mf54 10).toInt ≤ (mf 10).toInt from by first | exact oz_f3c9c51538 k198_9 e69 | omega) (show 0 ≤ p0.toInt from by first | exact k187_10 | omega) (show p0.toInt < 8 from by first | exact k187_11 | omega) (show (mf54 3).toInt = (mf 3).toInt from by first | exact oz_1687f4cc65 k198_12 e66 | omega) (show 0 ≤ (1 : Int) from by first | decide | omega) (show (1 : Int) ≤ 1 from by first | decide | omega) (show 0 ≤ z72.toInt from by first | exact oz_ae613611c0 tz72 k198_15 | omega) (show z72.toInt ≤ 13 from by first | exact oz_d342e04a5c tz72 nc35 | omega) (show sumR (va_up RR_198 x198_6.toNatClampNeg (RR_198 x198_6.toNatClampNeg - v60.toInt)) 13 + (1 : Int) ≤ sumR RR_187 13 from by first | with_reducible rfl | with_reducible assumption | omega) (show 1 ≤ x187_5.toInt from by first | exact k198_18 | omega) (show 13 - z72.toInt < (n_198 : Int) from by first | exact oz_6680d080b4 hm tz72 | omega) hw (lv_sub hl [3, 4, 5, 6, 7, 1, 0] rfl)
                · have nc71 : x198_5.toInt = (0 : Int) := (i_eq (x := x198_5) (y := 0)).mp c71
                  refine lv_iload S.x S.b d_Mo_run_239 (lv_at hl 0 rfl) ?_
                  refine lv_if_eq (tgt := 248) S.x S.b d_Mo_run_241 (by decide) (fun c73 => ?_) (fun c73 => ?_)
                  ·
                    refine lv_iconst (v := 0) S.x S.b d_Mo_run_248 (by decide) ?_
                    refine lv_istore (lv' := [(5, .int 0), (7, .int 0), (0, .ref mo), (1, .int p0), (2, .int p1), (3, .int p2), (4, .int p3), (6, .int x198_6)]) S.x S.b d_Mo_run_249 hl (by decide) rfl (fun ls hl => ?_)
                    obtain ⟨z74, ez74⟩ : ∃ y : Int32, y = x198_6 + 1 := ⟨_, rfl⟩
                    have tz74 : z74.toInt = (x198_6.toInt + 1 + 2147483648) % 4294967296 - 2147483648 := by rw [ez74]; exact i_add x198_6 1
                    have lz74 := Int32.le_toInt z74
                    have uz74 := Int32.toInt_lt z74
                    try replace tz74 : z74.toInt = x198_6.toInt + 1 := by omega
                    refine lv_iinc (v := z74) (lv' := [(6, .int z74), (5, .int 0), (7, .int 0), (0, .ref mo), (1, .int p0), (2, .int p1), (3, .int p2), (4, .int p3)]) S.x S.b d_Mo_run_251 hl (k := 7) rfl (by rw [ez74]; rfl) (by decide) rfl (fun ls hl => ?_)
                    refine lv_goto (tgt := 198) S.x S.b d_Mo_run_254 (by decide) ?_
                    exact ih198 mf54 md55 QO56 QF57 QA58 (va_up RR_198 x198_6.toNatClampNeg (RR_198 x198_6.toNatClampNeg - v60.toInt)) (0 : Int32) z74 _ _ ls (show PrA PG (va_up RR_198 x198_6.toNatClampNeg (RR_198 x198_6.toNatClampNeg - v60.toInt)) QO56 QF57 QA58 from hpr) (show (mf54 7).toInt = p2.toInt from by first | exact oz_1687f4cc65 k198_1 e67 | omega) (show (mf54 8).toInt = p3.toInt from by first | exact oz_1687f4cc65 k198_2 e68 | omega) (show 0 ≤ p2.toInt from by first | exact k187_3 | omega) (show p2.toInt ≤ 100 from by first | exact k187_4 | omega) (show 0 ≤ p3.toInt from by first | exact k187_5 | omega) (show p3.toInt ≤ 512 from by first | exact k187_6 | omega) (show (mf54 2).toInt = (mf 2).toInt from by first | exact oz_1687f4cc65 k198_7 e65 | omega) (show 0 ≤ (mf54 10).toInt from by first | exact oz_f3ebed1ad0 e69 k198_8 | omega) (show (mf54 10).toInt ≤ (mf 10).toInt from by first | exact oz_f3c9c51538 k198_9 e69 | omega) (show 0 ≤ p0.toInt from by first | exact k187_10 | omega) (show p0.toInt < 8 from by first | exact k187_11 | omega) (show (mf54 3).toInt = (mf 3).toInt from by first | exact oz_1687f4cc65 k198_12 e66 | omega) (show 0 ≤ (0 : Int) from by first | decide | omega) (show (0 : Int) ≤ 1 from by first | decide | omega) (show 0 ≤ z74.toInt from by first | exact oz_ae613611c0 tz74 k198_15 | omega) (show z74.toInt ≤ 13 from by first | exact oz_d342e04a5c tz74 nc35 | omega) (show sumR (va_up RR_198 x198_6.toNatClampNeg (RR_198 x198_6.toNatClampNeg - v60.toInt)) 13 + (0 : Int) ≤ sumR RR_187 13 from by first | with_reducible rfl | with_reducible assumption | omega) (show 1 ≤ x187_5.toInt from by first | exact k198_18 | omega) (show 13 - z74.toInt < (n_198 : Int) from by first | exact oz_6680d080b4 hm tz74 | omega) hw (lv_sub hl [3, 4, 5, 6, 7, 1, 0] rfl)
                  · exact absurd c73 (by decide)
              · have nc70 : ¬ v60.toInt = (0 : Int) := mt (i_eq (x := v60) (y := 0)).mpr c70
                refine lv_iconst (v := 1) S.x S.b d_Mo_run_227 (by decide) ?_
                refine lv_goto (tgt := 232) S.x S.b d_Mo_run_228 (by decide) ?_
                refine lv_istore (lv' := [(7, .int 1), (0, .ref mo), (1, .int p0), (2, .int p1), (3, .int p2), (4, .int p3), (5, .int x198_5), (6, .int x198_6)]) S.x S.b d_Mo_run_232 hl (by decide) rfl (fun ls hl => ?_)
                refine lv_iload S.x S.b d_Mo_run_234 (lv_at hl 6 rfl) ?_
                refine lv_if_ne (tgt := 244) S.x S.b d_Mo_run_236 (by decide) (fun c75 => ?_) (fun c75 => ?_)
                · have nc75 : ¬ x198_5.toInt = (0 : Int) := mt (i_eq (x := x198_5) (y := 0)).mpr c75
                  refine lv_iconst (v := 1) S.x S.b d_Mo_run_244 (by decide) ?_
                  refine lv_goto (tgt := 249) S.x S.b d_Mo_run_245 (by decide) ?_
                  refine lv_istore (lv' := [(5, .int 1), (7, .int 1), (0, .ref mo), (1, .int p0), (2, .int p1), (3, .int p2), (4, .int p3), (6, .int x198_6)]) S.x S.b d_Mo_run_249 hl (by decide) rfl (fun ls hl => ?_)
                  obtain ⟨z76, ez76⟩ : ∃ y : Int32, y = x198_6 + 1 := ⟨_, rfl⟩
                  have tz76 : z76.toInt = (x198_6.toInt + 1 + 2147483648) % 4294967296 - 2147483648 := by rw [ez76]; exact i_add x198_6 1
                  have lz76 := Int32.le_toInt z76
                  have uz76 := Int32.toInt_lt z76
                  try replace tz76 : z76.toInt = x198_6.toInt + 1 := by omega
                  refine lv_iinc (v := z76) (lv' := [(6, .int z76), (5, .int 1), (7, .int 1), (0, .ref mo), (1, .int p0), (2, .int p1), (3, .int p2), (4, .int p3)]) S.x S.b d_Mo_run_251 hl (k := 7) rfl (by rw [ez76]; rfl) (by decide) rfl (fun ls hl => ?_)
                  refine lv_goto (tgt := 198) S.x S.b d_Mo_run_254 (by decide) ?_
                  exact ih198 mf54 md55 QO56 QF57 QA58 (va_up RR_198 x198_6.toNatClampNeg (RR_198 x198_6.toNatClampNeg - v60.toInt)) (1 : Int32) z76 _ _ ls (show PrA PG (va_up RR_198 x198_6.toNatClampNeg (RR_198 x198_6.toNatClampNeg - v60.toInt)) QO56 QF57 QA58 from hpr) (show (mf54 7).toInt = p2.toInt from by first | exact oz_1687f4cc65 k198_1 e67 | omega) (show (mf54 8).toInt = p3.toInt from by first | exact oz_1687f4cc65 k198_2 e68 | omega) (show 0 ≤ p2.toInt from by first | exact k187_3 | omega) (show p2.toInt ≤ 100 from by first | exact k187_4 | omega) (show 0 ≤ p3.toInt from by first | exact k187_5 | omega) (show p3.toInt ≤ 512 from by first | exact k187_6 | omega) (show (mf54 2).toInt = (mf 2).toInt from by first | exact oz_1687f4cc65 k198_7 e65 | omega) (show 0 ≤ (mf54 10).toInt from by first | exact oz_f3ebed1ad0 e69 k198_8 | omega) (show (mf54 10).toInt ≤ (mf 10).toInt from by first | exact oz_f3c9c51538 k198_9 e69 | omega) (show 0 ≤ p0.toInt from by first | exact k187_10 | omega) (show p0.toInt < 8 from by first | exact k187_11 | omega) (show (mf54 3).toInt = (mf 3).toInt from by first | exact oz_1687f4cc65 k198_12 e66 | omega) (show 0 ≤ (1 : Int) from by first | decide | omega) (show (1 : Int) ≤ 1 from by first | decide | omega) (show 0 ≤ z76.toInt from by first | exact oz_ae613611c0 tz76 k198_15 | omega) (show z76.toInt ≤ 13 from by first | exact oz_d342e04a5c tz76 nc35 | omega) (show sumR (va_up RR_198 x198_6.toNatClampNeg (RR_198 x198_6.toNatClampNeg - v60.toInt)) 13 + (1 : Int) ≤ sumR RR_187 13 from by first | with_reducible rfl | with_reducible assumption | omega) (show 1 ≤ x187_5.toInt from by first | exact k198_18 | omega) (show 13 - z76.toInt < (n_198 : Int) from by first | exact oz_6680d080b4 hm tz76 | omega) hw (lv_sub hl [3, 4, 5, 6, 7, 1, 0] rfl)
                · have nc75 : x198_5.toInt = (0 : Int) := (i_eq (x := x198_5) (y := 0)).mp c75
                  refine lv_iload S.x S.b d_Mo_run_239 (lv_at hl 0 rfl) ?_
                  refine lv_if_eq (tgt := 248) S.x S.b d_Mo_run_241 (by decide) (fun c77 => ?_) (fun c77 => ?_)
                  · exact absurd c77 (by decide)
                  ·
                    refine lv_iconst (v := 1) S.x S.b d_Mo_run_244 (by decide) ?_
                    refine lv_goto (tgt := 249) S.x S.b d_Mo_run_245 (by decide) ?_
                    refine lv_istore (lv' := [(5, .int 1), (7, .int 1), (0, .ref mo), (1, .int p0), (2, .int p1), (3, .int p2), (4, .int p3), (6, .int x198_6)]) S.x S.b d_Mo_run_249 hl (by decide) rfl (fun ls hl => ?_)
                    obtain ⟨z78, ez78⟩ : ∃ y : Int32, y = x198_6 + 1 := ⟨_, rfl⟩
                    have tz78 : z78.toInt = (x198_6.toInt + 1 + 2147483648) % 4294967296 - 2147483648 := by rw [ez78]; exact i_add x198_6 1
                    have lz78 := Int32.le_toInt z78
                    have uz78 := Int32.toInt_lt z78
                    try replace tz78 : z78.toInt = x198_6.toInt + 1 := by omega
                    refine lv_iinc (v := z78) (lv' := [(6, .int z78), (5, .int 1), (7, .int 1), (0, .ref mo), (1, .int p0), (2, .int p1), (3, .int p2), (4, .int p3)]) S.x S.b d_Mo_run_251 hl (k := 7) rfl (by rw [ez78]; rfl) (by decide) rfl (fun ls hl => ?_)
                    refine lv_goto (tgt := 198) S.x S.b d_Mo_run_254 (by decide) ?_
                    exact ih198 mf54 md55 QO56 QF57 QA58 (va_up RR_198 x198_6.toNatClampNeg (RR_198 x198_6.toNatClampNeg - v60.toInt)) (1 : Int32) z78 _ _ ls (show PrA PG (va_up RR_198 x198_6.toNatClampNeg (RR_198 x198_6.toNatClampNeg - v60.toInt)) QO56 QF57 QA58 from hpr) (show (mf54 7).toInt = p2.toInt from by first | exact oz_1687f4cc65 k198_1 e67 | omega) (show (mf54 8).toInt = p3.toInt from by first | exact oz_1687f4cc65 k198_2 e68 | omega) (show 0 ≤ p2.toInt from by first | exact k187_3 | omega) (show p2.toInt ≤ 100 from by first | exact k187_4 | omega) (show 0 ≤ p3.toInt from by first | exact k187_5 | omega) (show p3.toInt ≤ 512 from by first | exact k187_6 | omega) (show (mf54 2).toInt = (mf 2).toInt from by first | exact oz_1687f4cc65 k198_7 e65 | omega) (show 0 ≤ (mf54 10).toInt from by first | exact oz_f3ebed1ad0 e69 k198_8 | omega) (show (mf54 10).toInt ≤ (mf 10).toInt from by first | exact oz_f3c9c51538 k198_9 e69 | omega) (show 0 ≤ p0.toInt from by first | exact k187_10 | omega) (show p0.toInt < 8 from by first | exact k187_11 | omega) (show (mf54 3).toInt = (mf 3).toInt from by first | exact oz_1687f4cc65 k198_12 e66 | omega) (show 0 ≤ (1 : Int) from by first | decide | omega) (show (1 : Int) ≤ 1 from by first | decide | omega) (show 0 ≤ z78.toInt from by first | exact oz_ae613611c0 tz78 k198_15 | omega) (show z78.toInt ≤ 13 from by first | exact oz_d342e04a5c tz78 nc35 | omega) (show sumR (va_up RR_198 x198_6.toNatClampNeg (RR_198 x198_6.toNatClampNeg - v60.toInt)) 13 + (1 : Int) ≤ sumR RR_187 13 from by first | with_reducible rfl | with_reducible assumption | omega) (show 1 ≤ x187_5.toInt from by first | exact k198_18 | omega) (show 13 - z78.toInt < (n_198 : Int) from by first | exact oz_6680d080b4 hm tz78 | omega) hw (lv_sub hl [3, 4, 5, 6, 7, 1, 0] rfl)
      refine lv_iload S.x S.b d_Mo_run_187 (lv_at hl 5 rfl) ?_
      refine lv_if_eq (tgt := 260) S.x S.b d_Mo_run_189 (by decide) (fun c79 => ?_) (fun c79 => ?_)
      · have nc79 : x187_5.toInt = (0 : Int) := (i_eq (x := x187_5) (y := 0)).mp c79
        refine lv_iconst (v := 0) S.x S.b d_Mo_run_260 (by decide) ?_
        refine lv_istore (lv' := [(6, .int 0), (0, .ref mo), (1, .int p0), (2, .int p1), (3, .int p2), (4, .int p3), (5, .int x187_5)]) S.x S.b d_Mo_run_261 hl (by decide) rfl (fun ls hl => ?_)
        exact J263 ((13 - (0 : Int)).toNat + 1) mf_187 md_187 QO_187 QF_187 QA_187 RR_187 (0 : Int32) _ _ ls (show PrA PG RR_187 QO_187 QF_187 QA_187 from hpr) (show (mf_187 7).toInt = p2.toInt from by first | exact k187_1 | omega) (show (mf_187 8).toInt = p3.toInt from by first | exact k187_2 | omega) (show 0 ≤ p2.toInt from by first | exact k187_3 | omega) (show p2.toInt ≤ 100 from by first | exact k187_4 | omega) (show 0 ≤ p3.toInt from by first | exact k187_5 | omega) (show p3.toInt ≤ 512 from by first | exact k187_6 | omega) (show (mf_187 2).toInt = (mf 2).toInt from by first | exact k187_7 | omega) (show 0 ≤ (mf_187 10).toInt from by first | exact k187_8 | omega) (show (mf_187 10).toInt ≤ (mf 10).toInt from by first | exact k187_9 | omega) (show 0 ≤ p0.toInt from by first | exact k187_10 | omega) (show p0.toInt < 8 from by first | exact k187_11 | omega) (show (mf_187 3).toInt = (mf 3).toInt from by first | exact k187_12 | omega) (show 0 ≤ (0 : Int) from by first | decide | omega) (show (0 : Int) ≤ 13 from by first | decide | omega) (show 13 - (0 : Int) < ((((13 - (0 : Int)).toNat + 1 : Nat) : Int) : Int) from by first | exact oz_natlt | omega) hw (lv_sub hl [1, 2, 3, 4, 5, 0] rfl)
      · have nc79 : ¬ x187_5.toInt = (0 : Int) := mt (i_eq (x := x187_5) (y := 0)).mpr c79
        refine lv_iconst (v := 0) S.x S.b d_Mo_run_192 (by decide) ?_
        refine lv_istore (lv' := [(5, .int 0), (0, .ref mo), (1, .int p0), (2, .int p1), (3, .int p2), (4, .int p3)]) S.x S.b d_Mo_run_193 hl (by decide) rfl (fun ls hl => ?_)
        refine lv_iconst (v := 0) S.x S.b d_Mo_run_195 (by decide) ?_
        refine lv_istore (lv' := [(6, .int 0), (5, .int 0), (0, .ref mo), (1, .int p0), (2, .int p1), (3, .int p2), (4, .int p3)]) S.x S.b d_Mo_run_196 hl (by decide) rfl (fun ls hl => ?_)
        exact J198 ((13 - (0 : Int)).toNat + 1) mf_187 md_187 QO_187 QF_187 QA_187 RR_187 (0 : Int32) (0 : Int32) _ _ ls (show PrA PG RR_187 QO_187 QF_187 QA_187 from hpr) (show (mf_187 7).toInt = p2.toInt from by first | exact k187_1 | omega) (show (mf_187 8).toInt = p3.toInt from by first | exact k187_2 | omega) (show 0 ≤ p2.toInt from by first | exact k187_3 | omega) (show p2.toInt ≤ 100 from by first | exact k187_4 | omega) (show 0 ≤ p3.toInt from by first | exact k187_5 | omega) (show p3.toInt ≤ 512 from by first | exact k187_6 | omega) (show (mf_187 2).toInt = (mf 2).toInt from by first | exact k187_7 | omega) (show 0 ≤ (mf_187 10).toInt from by first | exact k187_8 | omega) (show (mf_187 10).toInt ≤ (mf 10).toInt from by first | exact k187_9 | omega) (show 0 ≤ p0.toInt from by first | exact k187_10 | omega) (show p0.toInt < 8 from by first | exact k187_11 | omega) (show (mf_187 3).toInt = (mf 3).toInt from by first | exact k187_12 | omega) (show 0 ≤ (0 : Int) from by first | decide | omega) (show (0 : Int) ≤ 1 from by first | decide | omega) (show 0 ≤ (0 : Int) from by first | decide | omega) (show (0 : Int) ≤ 13 from by first | decide | omega) (show sumR RR_187 13 + (0 : Int) ≤ sumR RR_187 13 from by first | exact oz_9a4b2c0a69 | omega) (show 1 ≤ x187_5.toInt from by first | exact oz_70c2bdf1b6 k187_13 nc79 | omega) (show 13 - (0 : Int) < ((((13 - (0 : Int)).toNat + 1 : Nat) : Int) : Int) from by first | exact oz_natlt | omega) hw (lv_sub hl [2, 3, 4, 5, 6, 1, 0] rfl)
  have J108 : ∀ (n_108 : Nat) (mf_108 : Nat → Int32) (md_108 : Nat → Nat → Int32) (QO_108 : Nat → Option Nat) (QF_108 : Nat → Nat → Int32) (QA_108 : Nat → Nat → Nat → Int32) (x108_5 : Int32) (H : Heap) (locs : List Loc) (ls : Array Slot), (PrN QF_108) → (PrZ QF_108 x108_5.toInt) → ((mf_108 7).toInt = p2.toInt) → ((mf_108 8).toInt = p3.toInt) → (0 ≤ p2.toInt) → (p2.toInt ≤ 100) → (0 ≤ p3.toInt) → (p3.toInt ≤ 512) → ((mf_108 2).toInt = (mf 2).toInt) → (0 ≤ (mf_108 10).toInt) → ((mf_108 10).toInt ≤ (mf 10).toInt) → (0 ≤ p0.toInt) → (p0.toInt < 8) → ((mf_108 3).toInt = (mf 3).toInt) → (0 ≤ x108_5.toInt) → (x108_5.toInt ≤ 13) → (1 ≤ ((PG p0.toNatClampNeg).xf 66).toInt) → (((PG p0.toNatClampNeg).xf 66).toInt ≤ 2) → 13 - x108_5.toInt < (n_108 : Int) → pw D A s.heap H locs [wd_Mo cs mo mr (fun _ => none) mf_108 md_108 (gMo PG hq), fm 13 (fPr cs hq qr QO_108 QF_108 QA_108), fm 8 (fPg cs PG)] → lv_has ls 8 [(0, .ref mo), (1, .int p0), (2, .int p1), (3, .int p2), (4, .int p3), (5, .int x108_5)] → W p l e { frames := 14, cells := 0, slots := 0, locals := 600 } s m [.ref mo, .int p0, .int p1, .int p2, .int p3].toArray below meth c H locs 0 0 (MQ below (va_Qi (fun v ps => ∃ (mf' : Nat → Int32) (md' : Nat → Nat → Int32) (QO' : Nat → Option Nat) (QF' : Nat → Nat → Int32) (QA' : Nat → Nat → Nat → Int32), (ps = [wd_Mo cs mo mr (fun _ => none) mf' md' (gMo PG hq), fm 13 (fPr cs hq qr QO' QF' QA'), fm 8 (fPg cs PG)]) ∧ (PrN QF') ∧ ((mf' 2).toInt = (mf 2).toInt) ∧ (0 ≤ (mf' 10).toInt) ∧ ((mf' 10).toInt ≤ (mf 10).toInt) ∧ ((mf' 3).toInt = (mf 3).toInt)) (pc_B D (va_A ([wd_Mo cs mo mr (fun _ => none) mf md (gMo PG hq), fm 13 (fPr cs hq qr QO QF QA), fm 8 (fPg cs PG)] : List va_W).flatten s.heap.size)) (va_A ([wd_Mo cs mo mr (fun _ => none) mf md (gMo PG hq), fm 13 (fPr cs hq qr QO QF QA), fm 8 (fPg cs PG)] : List va_W).flatten s.heap.size)) [.ref mo, .int p0, .int p1, .int p2, .int p3].toArray s 0 0 A) (F0 m 108 ls []) := by
    intro  n_108
    induction n_108 with
    | zero =>
      intro mf_108 md_108 QO_108 QF_108 QA_108 x108_5 H locs ls k108_0 k108_1 k108_2 k108_3 k108_4 k108_5 k108_6 k108_7 k108_8 k108_9 k108_10 k108_11 k108_12 k108_13 k108_14 k108_15 k108_16 k108_17 hm hw hl
      have lx108_5 := Int32.le_toInt x108_5
      have ux108_5 := Int32.toInt_lt x108_5
      have hpn := k108_0
      have hpz := k108_1
      exact absurd hm (by omega)
    | succ n_108 ih108 =>
      intro mf_108 md_108 QO_108 QF_108 QA_108 x108_5 H locs ls k108_0 k108_1 k108_2 k108_3 k108_4 k108_5 k108_6 k108_7 k108_8 k108_9 k108_10 k108_11 k108_12 k108_13 k108_14 k108_15 k108_16 k108_17 hm hw hl
      have lx108_5 := Int32.le_toInt x108_5
      have ux108_5 := Int32.toInt_lt x108_5
      have hpn := k108_0
      have hpz := k108_1
      refine lv_iload S.x S.b d_Mo_run_108 (lv_at hl 5 rfl) ?_
      refine lv_bipush (v := 13) S.x S.b d_Mo_run_110 (by decide) ?_
      refine lv_icmp_ge (tgt := 165) S.x S.b d_Mo_run_112 (by decide) (fun c80 => ?_) (fun c80 => ?_)
      · have nc80 : (13 : Int) ≤ x108_5.toInt := (i_le (x := 13) (y := x108_5)).mp c80
        refine lv_aload_n S.x S.b d_Mo_run_165 rfl (lv_at hl 0 rfl) ?_
        have hpz8 : PrZ QF_108 13 := (fun i9 q9 => hpz i9 (by omega)); have hpr : PrA PG (fun _ => RMX) QO_108 QF_108 QA_108 := pra_0 hpn hpz8
        refine px_get S k_Mo hT hw 0 0 5 (v := .ref (mr 5)) rfl rfl rfl (by decide) m11_83 d_Mo_run_166 ?_
        refine lv_iconst (v := 0) S.x S.b d_Mo_run_169 (by decide) ?_
        refine px_aaldS S hT hw 0 3 10 (n := 13) (f := ((gMo PG hq) 5)) rfl rfl rfl (x := 0) (vp_in_iff.mpr (by constructor <;> omega)) (sk := (hq (0 : Int32).toNatClampNeg)) rfl d_Mo_run_170 ?_
        refine lv_aload_n S.x S.b d_Mo_run_171 rfl (lv_at hl 0 rfl) ?_
        refine px_get S k_Mo hT hw 0 0 4 (v := .ref (mr 4)) rfl rfl rfl (by decide) m11_82 d_Mo_run_172 ?_
        refine lv_iload_n S.x S.b d_Mo_run_175 rfl (lv_at hl 1 rfl) ?_
        refine px_aaldS S hT hw 0 2 9 (n := 8) (f := ((gMo PG hq) 4)) rfl rfl rfl (x := p0) (vp_in_iff.mpr (by first | exact oz_b8f25a55ed k108_11 k108_12 | (constructor <;> omega))) (sk := (PG p0.toNatClampNeg).h) rfl d_Mo_run_176 ?_
        have hc81 := cl_nat (x := p0) (by first | exact k108_11 | omega)
        have hj81 : p0.toNatClampNeg < 8 := by first | exact oz_988ece23c5 hc81 k108_12 | omega
        have hw : pw D A s.heap _ _ [wd_Mo cs mo mr (fun _ => none) mf_108 md_108 (gMo PG hq), fm 13 (fPr cs hq qr QO_108 QF_108 QA_108), fo 8 (fPg cs PG) p0.toNatClampNeg, wdP cs (PG p0.toNatClampNeg).h (PG p0.toNatClampNeg).r (PG p0.toNatClampNeg).g (PG p0.toNatClampNeg).tf (PG p0.toNatClampNeg).ta (PG p0.toNatClampNeg).pf (PG p0.toNatClampNeg).na (PG p0.toNatClampNeg).ma (PG p0.toNatClampNeg).wa (PG p0.toNatClampNeg).cf (PG p0.toNatClampNeg).ca (PG p0.toNatClampNeg).ef (PG p0.toNatClampNeg).ea (PG p0.toNatClampNeg).xf (PG p0.toNatClampNeg).xa] := fm_out (pr := [wd_Mo cs mo mr (fun _ => none) mf_108 md_108 (gMo PG hq), fm 13 (fPr cs hq qr QO_108 QF_108 QA_108)]) (T := fPg cs PG) hw hj81
        have hpo82 := hpg p0.toNatClampNeg hj81
        have hp182 := hpo82.1
        have hp282 := hpo82.2.1
        have hP := hGG p0.toNatClampNeg hj81
        refine lv_iload_n S.x S.b d_Mo_run_177 rfl (lv_at hl 2 rfl) ?_
        refine lv_iload_n S.x S.b d_Mo_run_178 rfl (lv_at hl 3 rfl) ?_
        refine lv_iload S.x S.b d_Mo_run_179 (lv_at hl 4 rfl) ?_
        have hw : pw D A s.heap _ _ [wd_Mo cs mo mr (fun _ => none) mf_108 md_108 (gMo PG hq), fo 8 (fPg cs PG) p0.toNatClampNeg, wdP cs (PG p0.toNatClampNeg).h (PG p0.toNatClampNeg).r (PG p0.toNatClampNeg).g (PG p0.toNatClampNeg).tf (PG p0.toNatClampNeg).ta (PG p0.toNatClampNeg).pf (PG p0.toNatClampNeg).na (PG p0.toNatClampNeg).ma (PG p0.toNatClampNeg).wa (PG p0.toNatClampNeg).cf (PG p0.toNatClampNeg).ca (PG p0.toNatClampNeg).ef (PG p0.toNatClampNeg).ea (PG p0.toNatClampNeg).xf (PG p0.toNatClampNeg).xa, fm 13 (fPr cs hq qr QO_108 QF_108 QA_108)] := hw.sub [0, 2, 3, 1] rfl rfl
        have hc83 := cl_nat (x := (0 : Int32)) (by first | exact oz_b1de7dbe7e cst0 | omega)
        have hi83 : (0 : Int32).toNatClampNeg < 13 := by first | exact oz_a63a387477 hc83 cst0 | omega
        have hw : pw D A s.heap _ _ [wd_Mo cs mo mr (fun _ => none) mf_108 md_108 (gMo PG hq), fo 8 (fPg cs PG) p0.toNatClampNeg, wdP cs (PG p0.toNatClampNeg).h (PG p0.toNatClampNeg).r (PG p0.toNatClampNeg).g (PG p0.toNatClampNeg).tf (PG p0.toNatClampNeg).ta (PG p0.toNatClampNeg).pf (PG p0.toNatClampNeg).na (PG p0.toNatClampNeg).ma (PG p0.toNatClampNeg).wa (PG p0.toNatClampNeg).cf (PG p0.toNatClampNeg).ca (PG p0.toNatClampNeg).ef (PG p0.toNatClampNeg).ea (PG p0.toNatClampNeg).xf (PG p0.toNatClampNeg).xa, fo 13 (fPr cs hq qr QO_108 QF_108 QA_108) (0 : Int32).toNatClampNeg, wd_Mpr cs (hq (0 : Int32).toNatClampNeg) (qr (0 : Int32).toNatClampNeg) (fun _ => QO_108 (0 : Int32).toNatClampNeg) (QF_108 (0 : Int32).toNatClampNeg) (QA_108 (0 : Int32).toNatClampNeg) (fun _ _ => none)] := fm_out (pr := [wd_Mo cs mo mr (fun _ => none) mf_108 md_108 (gMo PG hq), fo 8 (fPg cs PG) p0.toNatClampNeg, wdP cs (PG p0.toNatClampNeg).h (PG p0.toNatClampNeg).r (PG p0.toNatClampNeg).g (PG p0.toNatClampNeg).tf (PG p0.toNatClampNeg).ta (PG p0.toNatClampNeg).pf (PG p0.toNatClampNeg).na (PG p0.toNatClampNeg).ma (PG p0.toNatClampNeg).wa (PG p0.toNatClampNeg).cf (PG p0.toNatClampNeg).ca (PG p0.toNatClampNeg).ef (PG p0.toNatClampNeg).ea (PG p0.toNatClampNeg).xf (PG p0.toNatClampNeg).xa]) (T := fPr cs hq qr QO_108 QF_108 QA_108) hw hi83
        have hps83 := hpr.1 (0 : Int32).toNatClampNeg hi83
        have hpb83 := hps83.1
        unfold PsB at hpb83
        have hw : pw D A s.heap _ _ [wd_Mo cs mo mr (fun _ => none) mf_108 md_108 (gMo PG hq), fo 8 (fPg cs PG) p0.toNatClampNeg, fo 13 (fPr cs hq qr QO_108 QF_108 QA_108) (0 : Int32).toNatClampNeg, wd_Mpr cs (hq (0 : Int32).toNatClampNeg) (qr (0 : Int32).toNatClampNeg) (fun _ => QO_108 (0 : Int32).toNatClampNeg) (QF_108 (0 : Int32).toNatClampNeg) (QA_108 (0 : Int32).toNatClampNeg) (fun _ _ => none), wdP cs (PG p0.toNatClampNeg).h (PG p0.toNatClampNeg).r (PG p0.toNatClampNeg).g (PG p0.toNatClampNeg).tf (PG p0.toNatClampNeg).ta (PG p0.toNatClampNeg).pf (PG p0.toNatClampNeg).na (PG p0.toNatClampNeg).ma (PG p0.toNatClampNeg).wa (PG p0.toNatClampNeg).cf (PG p0.toNatClampNeg).ca (PG p0.toNatClampNeg).ef (PG p0.toNatClampNeg).ea (PG p0.toNatClampNeg).xf (PG p0.toNatClampNeg).xa] := hw.sub [0, 1, 3, 4, 2] rfl rfl
        refine px_callv (pr := [wd_Mo cs mo mr (fun _ => none) mf_108 md_108 (gMo PG hq), fo 8 (fPg cs PG) p0.toNatClampNeg, fo 13 (fPr cs hq qr QO_108 QF_108 QA_108) (0 : Int32).toNatClampNeg]) (px_runV (As := [.ref (PG p0.toNatClampNeg).h, .int p1, .int p2, .int p3]) (rest := []) S (c_mq_begin l D cs (hq (0 : Int32).toNatClampNeg) (qr (0 : Int32).toNatClampNeg) (fun _ _ => none) (fun _ => QO_108 (0 : Int32).toNatClampNeg) (QF_108 (0 : Int32).toNatClampNeg) (QA_108 (0 : Int32).toNatClampNeg) (PG p0.toNatClampNeg).h (PG p0.toNatClampNeg).r (PG p0.toNatClampNeg).g (PG p0.toNatClampNeg).tf (PG p0.toNatClampNeg).ta (PG p0.toNatClampNeg).pf (PG p0.toNatClampNeg).na (PG p0.toNatClampNeg).ma (PG p0.toNatClampNeg).wa (PG p0.toNatClampNeg).cf (PG p0.toNatClampNeg).ca (PG p0.toNatClampNeg).ef (PG p0.toNatClampNeg).ea (PG p0.toNatClampNeg).xf (PG p0.toNatClampNeg).xa p1 p2 p3  (show 0 ≤ p2.toInt from by first | exact k108_4 | omega) (show p2.toInt ≤ 100 from by first | exact k108_5 | omega) (show 0 ≤ p3.toInt from by first | exact k108_6 | omega) (show p3.toInt ≤ 512 from by first | exact k108_7 | omega) hpo82.2.2 _) hT (pr := [wd_Mo cs mo mr (fun _ => none) mf_108 md_108 (gMo PG hq), fo 8 (fPg cs PG) p0.toNatClampNeg, fo 13 (fPr cs hq qr QO_108 QF_108 QA_108) (0 : Int32).toNatClampNeg]) (pcs := [wd_Mpr cs (hq (0 : Int32).toNatClampNeg) (qr (0 : Int32).toNatClampNeg) (fun _ => QO_108 (0 : Int32).toNatClampNeg) (QF_108 (0 : Int32).toNatClampNeg) (QA_108 (0 : Int32).toNatClampNeg) (fun _ _ => none), wdP cs (PG p0.toNatClampNeg).h (PG p0.toNatClampNeg).r (PG p0.toNatClampNeg).g (PG p0.toNatClampNeg).tf (PG p0.toNatClampNeg).ta (PG p0.toNatClampNeg).pf (PG p0.toNatClampNeg).na (PG p0.toNatClampNeg).ma (PG p0.toNatClampNeg).wa (PG p0.toNatClampNeg).cf (PG p0.toNatClampNeg).ca (PG p0.toNatClampNeg).ef (PG p0.toNatClampNeg).ea (PG p0.toNatClampNeg).xf (PG p0.toNatClampNeg).xa]) hw px_X.tt (px_recv hT hw 3 0 rfl rfl rfl) m13_155 m13_152 m13_153 m13_154 m1_22 q_Mpr_begin ⟨Nat.le_of_ble_eq_true rfl, Nat.le_of_ble_eq_true rfl⟩ hl.1 rfl (Nat.le_of_ble_eq_true rfl) d_Mo_run_181 ⟨Nat.le_of_ble_eq_true rfl, Nat.le_of_ble_eq_true rfl⟩) hw hA (fun p90 H locs hp90 hw => ?_)
        obtain ⟨qo87, qf88, qa89, rfl, e92, e93, e94, e95, e96, e97, e98, e99, e100, e101, e102⟩ := hp90
        replace e92 : OpS qo87 (PG p0.toNatClampNeg).h := e92
        have hop := e92
        replace e93 : (qf88 1).toInt = 1 := e93
        replace e94 : (qf88 2).toInt = -2 := e94
        replace e95 : (qf88 3).toInt = 0 := e95
        replace e96 : (qf88 6).toInt = 0 := e96
        replace e97 : (qf88 7).toInt = 0 := e97
        replace e98 : (qf88 21).toInt = 0 := e98
        replace e99 : (qf88 23).toInt = 0 := e99
        replace e100 : (qf88 24).toInt = 0 := e100
        replace e101 : ((PG p0.toNatClampNeg).xf 66).toInt = 2 → 0 ≤ (qf88 4).toInt ∧ (qf88 4).toInt ≤ 1600 := e101
        replace e102 : PsQ ((PG p0.toNatClampNeg).xf 66).toInt (PsT ⟨(PG p0.toNatClampNeg).h, (PG p0.toNatClampNeg).r, (PG p0.toNatClampNeg).g, (PG p0.toNatClampNeg).tf, (PG p0.toNatClampNeg).ta, (PG p0.toNatClampNeg).pf, (PG p0.toNatClampNeg).na, (PG p0.toNatClampNeg).ma, (PG p0.toNatClampNeg).wa, (PG p0.toNatClampNeg).cf, (PG p0.toNatClampNeg).ca, (PG p0.toNatClampNeg).ef, (PG p0.toNatClampNeg).ea, (PG p0.toNatClampNeg).xf, (PG p0.toNatClampNeg).xa⟩ (RMX - 1) qf88 qa89) := e102
        skip
        replace hw : pw D A s.heap H locs [wd_Mo cs mo mr (fun _ => none) mf_108 md_108 (gMo PG hq), fo 8 (fPg cs PG) p0.toNatClampNeg, fo 13 (fPr cs hq qr QO_108 QF_108 QA_108) (0 : Int32).toNatClampNeg, wd_Mpr cs (hq (0 : Int32).toNatClampNeg) (qr (0 : Int32).toNatClampNeg) qo87 qf88 qa89 (fun _ _ => none), wdP cs (PG p0.toNatClampNeg).h (PG p0.toNatClampNeg).r (PG p0.toNatClampNeg).g (PG p0.toNatClampNeg).tf (PG p0.toNatClampNeg).ta (PG p0.toNatClampNeg).pf (PG p0.toNatClampNeg).na (PG p0.toNatClampNeg).ma (PG p0.toNatClampNeg).wa (PG p0.toNatClampNeg).cf (PG p0.toNatClampNeg).ca (PG p0.toNatClampNeg).ef (PG p0.toNatClampNeg).ea (PG p0.toNatClampNeg).xf (PG p0.toNatClampNeg).xa] := hw
        refine lv_iconst (v := 1) S.x S.b d_Mo_run_184 (by decide) ?_
        refine lv_istore (lv' := [(5, .int 1), (0, .ref mo), (1, .int p0), (2, .int p1), (3, .int p2), (4, .int p3)]) S.x S.b d_Mo_run_185 hl (by decide) rfl (fun ls hl => ?_)
        have hw : pw D A s.heap _ _ [wd_Mo cs mo mr (fun _ => none) mf_108 md_108 (gMo PG hq), fo 8 (fPg cs PG) p0.toNatClampNeg, wdP cs (PG p0.toNatClampNeg).h (PG p0.toNatClampNeg).r (PG p0.toNatClampNeg).g (PG p0.toNatClampNeg).tf (PG p0.toNatClampNeg).ta (PG p0.toNatClampNeg).pf (PG p0.toNatClampNeg).na (PG p0.toNatClampNeg).ma (PG p0.toNatClampNeg).wa (PG p0.toNatClampNeg).cf (PG p0.toNatClampNeg).ca (PG p0.toNatClampNeg).ef (PG p0.toNatClampNeg).ea (PG p0.toNatClampNeg).xf (PG p0.toNatClampNeg).xa, fo 13 (fPr cs hq qr QO_108 QF_108 QA_108) (0 : Int32).toNatClampNeg, wd_Mpr cs (hq (0 : Int32).toNatClampNeg) (qr (0 : Int32).toNatClampNeg) qo87 qf88 qa89 (fun _ _ => none)] := hw.sub [0, 1, 4, 2, 3] rfl rfl
        have hw := fpr_in (pr := [wd_Mo cs mo mr (fun _ => none) mf_108 md_108 (gMo PG hq), fo 8 (fPg cs PG) p0.toNatClampNeg, wdP cs (PG p0.toNatClampNeg).h (PG p0.toNatClampNeg).r (PG p0.toNatClampNeg).g (PG p0.toNatClampNeg).tf (PG p0.toNatClampNeg).ta (PG p0.toNatClampNeg).pf (PG p0.toNatClampNeg).na (PG p0.toNatClampNeg).ma (PG p0.toNatClampNeg).wa (PG p0.toNatClampNeg).cf (PG p0.toNatClampNeg).ca (PG p0.toNatClampNeg).ef (PG p0.toNatClampNeg).ea (PG p0.toNatClampNeg).xf (PG p0.toNatClampNeg).xa]) hw hi83
        obtain ⟨QO103, hu_QO103⟩ : ∃ y : Nat → Option Nat, y = va_up QO_108 (0 : Int32).toNatClampNeg (qo87 0) := ⟨_, rfl⟩
        obtain ⟨QF104, hu_QF104⟩ : ∃ y : Nat → Nat → Int32, y = va_up QF_108 (0 : Int32).toNatClampNeg qf88 := ⟨_, rfl⟩
        obtain ⟨QA105, hu_QA105⟩ : ∃ y : Nat → Nat → Nat → Int32, y = va_up QA_108 (0 : Int32).toNatClampNeg qa89 := ⟨_, rfl⟩
        have hw : pw D A s.heap _ _ [wd_Mo cs mo mr (fun _ => none) mf_108 md_108 (gMo PG hq), fo 8 (fPg cs PG) p0.toNatClampNeg, wdP cs (PG p0.toNatClampNeg).h (PG p0.toNatClampNeg).r (PG p0.toNatClampNeg).g (PG p0.toNatClampNeg).tf (PG p0.toNatClampNeg).ta (PG p0.toNatClampNeg).pf (PG p0.toNatClampNeg).na (PG p0.toNatClampNeg).ma (PG p0.toNatClampNeg).wa (PG p0.toNatClampNeg).cf (PG p0.toNatClampNeg).ca (PG p0.toNatClampNeg).ef (PG p0.toNatClampNeg).ea (PG p0.toNatClampNeg).xf (PG p0.toNatClampNeg).xa, fm 13 (fPr cs hq qr QO103 QF104 QA105)] := (by rw [hu_QO103, hu_QF104, hu_QA105]; exact hw)
        have hpr : PrA PG (fun _ => RMX) QO103 QF104 QA105 := (by rw [hu_QO103, hu_QF104, hu_QA105]; exact PrA.upT hpr (psr_bg (j := p0.toNatClampNeg) hj81 hop (show (0 ≤ (qf88 1).toInt ∧ (qf88 1).toInt ≤ 1) ∧ (0 ≤ (qf88 21).toInt ∧ (qf88 21).toInt ≤ 4) ∧ (0 ≤ (qf88 23).toInt ∧ (qf88 23).toInt ≤ 4) ∧ (0 ≤ (qf88 24).toInt ∧ (qf88 24).toInt ≤ 1000000) ∧ (0 ≤ (qf88 6).toInt ∧ (qf88 6).toInt ≤ 3) ∧ (0 ≤ (qf88 7).toInt ∧ (qf88 7).toInt ≤ 1) from by first | with_reducible rfl | with_reducible assumption | omega) (Int.le_refl _) (by omega) (by omega) (by omega) (fun q9 => by omega) e102) (tri_0 hpz8 (by omega)))
        have hw : pw D A s.heap _ _ [wd_Mo cs mo mr (fun _ => none) mf_108 md_108 (gMo PG hq), fm 13 (fPr cs hq qr QO103 QF104 QA105), fo 8 (fPg cs PG) p0.toNatClampNeg, wdP cs (PG p0.toNatClampNeg).h (PG p0.toNatClampNeg).r (PG p0.toNatClampNeg).g (PG p0.toNatClampNeg).tf (PG p0.toNatClampNeg).ta (PG p0.toNatClampNeg).pf (PG p0.toNatClampNeg).na (PG p0.toNatClampNeg).ma (PG p0.toNatClampNeg).wa (PG p0.toNatClampNeg).cf (PG p0.toNatClampNeg).ca (PG p0.toNatClampNeg).ef (PG p0.toNatClampNeg).ea (PG p0.toNatClampNeg).xf (PG p0.toNatClampNeg).xa] := hw.sub [0, 3, 1, 2] rfl rfl
        have hw : pw D A s.heap _ _ [wd_Mo cs mo mr (fun _ => none) mf_108 md_108 (gMo PG hq), fm 13 (fPr cs hq qr QO103 QF104 QA105), fm 8 (fPg cs PG)] := fm_back (pr := [wd_Mo cs mo mr (fun _ => none) mf_108 md_108 (gMo PG hq), fm 13 (fPr cs hq qr QO103 QF104 QA105)]) (T := fPg cs PG) hw hj81
        exact J187 ((2 * sumR (fun _ => RMX) 13 + (1 : Int)).toNat + 1) mf_108 md_108 QO103 QF104 QA105 (fun _ => RMX) (1 : Int32) _ _ ls (show PrA PG (fun _ => RMX) QO103 QF104 QA105 from hpr) (show (mf_108 7).toInt = p2.toInt from by first | exact k108_2 | omega) (show (mf_108 8).toInt = p3.toInt from by first | exact k108_3 | omega) (show 0 ≤ p2.toInt from by first | exact k108_4 | omega) (show p2.toInt ≤ 100 from by first | exact k108_5 | omega) (show 0 ≤ p3.toInt from by first | exact k108_6 | omega) (show p3.toInt ≤ 512 from by first | exact k108_7 | omega) (show (mf_108 2).toInt = (mf 2).toInt from by first | exact k108_8 | omega) (show 0 ≤ (mf_108 10).toInt from by first | exact k108_9 | omega) (show (mf_108 10).toInt ≤ (mf 10).toInt from by first | exact k108_10 | omega) (show 0 ≤ p0.toInt from by first | exact k108_11 | omega) (show p0.toInt < 8 from by first | exact k108_12 | omega) (show (mf_108 3).toInt = (mf 3).toInt from by first | exact k108_13 | omega) (show 0 ≤ (1 : Int) from by first | decide | omega) (show (1 : Int) ≤ 1 from by first | decide | omega) (show 2 * sumR (fun _ => RMX) 13 + (1 : Int) < ((((2 * sumR (fun _ => RMX) 13 + (1 : Int)).toNat + 1 : Nat) : Int) : Int) from by first | exact oz_natlt | omega) hw (lv_sub hl [1, 2, 3, 4, 5, 0] rfl)
      · have nc80 : ¬ (13 : Int) ≤ x108_5.toInt := mt (i_le (x := 13) (y := x108_5)).mpr c80
        refine lv_aload_n S.x S.b d_Mo_run_115 rfl (lv_at hl 0 rfl) ?_
        refine px_get S k_Mo hT hw 0 0 5 (v := .ref (mr 5)) rfl rfl rfl (by decide) m11_83 d_Mo_run_116 ?_
        refine lv_iload S.x S.b d_Mo_run_119 (lv_at hl 5 rfl) ?_
        refine px_aaldS S hT hw 0 3 10 (n := 13) (f := ((gMo PG hq) 5)) rfl rfl rfl (x := x108_5) (vp_in_iff.mpr (by first | exact oz_10a7a22e11 k108_14 nc80 | (constructor <;> omega))) (sk := (hq x108_5.toNatClampNeg)) rfl d_Mo_run_121 ?_
        refine lv_iconst (v := 0) S.x S.b d_Mo_run_122 (by decide) ?_
        have hw : pw D A s.heap _ _ [wd_Mo cs mo mr (fun _ => none) mf_108 md_108 (gMo PG hq), fm 8 (fPg cs PG), fm 13 (fPr cs hq qr QO_108 QF_108 QA_108)] := hw.sub [0, 2, 1] rfl rfl
        have hc106 := cl_nat (x := x108_5) (by first | exact k108_14 | omega)
        have hi106 : x108_5.toNatClampNeg < 13 := by first | exact oz_81bc16641b hc106 nc80 | omega
        have hw : pw D A s.heap _ _ [wd_Mo cs mo mr (fun _ => none) mf_108 md_108 (gMo PG hq), fm 8 (fPg cs PG), fo 13 (fPr cs hq qr QO_108 QF_108 QA_108) x108_5.toNatClampNeg, wd_Mpr cs (hq x108_5.toNatClampNeg) (qr x108_5.toNatClampNeg) (fun _ => QO_108 x108_5.toNatClampNeg) (QF_108 x108_5.toNatClampNeg) (QA_108 x108_5.toNatClampNeg) (fun _ _ => none)] := fm_out (pr := [wd_Mo cs mo mr (fun _ => none) mf_108 md_108 (gMo PG hq), fm 8 (fPg cs PG)]) (T := fPr cs hq qr QO_108 QF_108 QA_108) hw hi106
        have hpb106 := hpn x108_5.toNatClampNeg hi106
        unfold PsB at hpb106
        refine px_put S k_Mpr hT hw 3 0 1 rfl rfl (by decide) m10_224 rfl rfl rfl (Nat.le_of_ble_eq_true rfl) d_Mo_run_123 (w' := wd_Mpr cs (hq x108_5.toNatClampNeg) (qr x108_5.toNatClampNeg) (fun _ => QO_108 x108_5.toNatClampNeg) (upd (QF_108 x108_5.toNatClampNeg) 1 0) (QA_108 x108_5.toNatClampNeg) (fun _ _ => none)) (ps' := [wd_Mo cs mo mr (fun _ => none) mf_108 md_108 (gMo PG hq), fm 8 (fPg cs PG), fo 13 (fPr cs hq qr QO_108 QF_108 QA_108) x108_5.toNatClampNeg, wd_Mpr cs (hq x108_5.toNatClampNeg) (qr x108_5.toNatClampNeg) (fun _ => QO_108 x108_5.toNatClampNeg) (upd (QF_108 x108_5.toNatClampNeg) 1 0) (QA_108 x108_5.toNatClampNeg) (fun _ _ => none)]) rfl rfl (fun H locs hw => ?_)
        refine lv_aload_n S.x S.b d_Mo_run_126 rfl (lv_at hl 0 rfl) ?_
        refine px_get S k_Mo hT hw 0 0 5 (v := .ref (mr 5)) rfl rfl rfl (by decide) m11_83 d_Mo_run_127 ?_
        refine lv_iload S.x S.b d_Mo_run_130 (lv_at hl 5 rfl) ?_
        refine px_aaldS S hT hw 0 3 10 (n := 13) (f := ((gMo PG hq) 5)) rfl rfl rfl (x := x108_5) (vp_in_iff.mpr (by first | exact oz_10a7a22e11 k108_14 nc80 | (constructor <;> omega))) (sk := (hq x108_5.toNatClampNeg)) rfl d_Mo_run_132 ?_
        refine lv_iconst (v := 0) S.x S.b d_Mo_run_133 (by decide) ?_
        refine px_put S k_Mpr hT hw 3 0 21 rfl rfl (by decide) m11_16 rfl rfl rfl (Nat.le_of_ble_eq_true rfl) d_Mo_run_134 (w' := wd_Mpr cs (hq x108_5.toNatClampNeg) (qr x108_5.toNatClampNeg) (fun _ => QO_108 x108_5.toNatClampNeg) (upd (upd (QF_108 x108_5.toNatClampNeg) 1 0) 21 0) (QA_108 x108_5.toNatClampNeg) (fun _ _ => none)) (ps' := [wd_Mo cs mo mr (fun _ => none) mf_108 md_108 (gMo PG hq), fm 8 (fPg cs PG), fo 13 (fPr cs hq qr QO_108 QF_108 QA_108) x108_5.toNatClampNeg, wd_Mpr cs (hq x108_5.toNatClampNeg) (qr x108_5.toNatClampNeg) (fun _ => QO_108 x108_5.toNatClampNeg) (upd (upd (QF_108 x108_5.toNatClampNeg) 1 0) 21 0) (QA_108 x108_5.toNatClampNeg) (fun _ _ => none)]) rfl rfl (fun H locs hw => ?_)
        refine lv_aload_n S.x S.b d_Mo_run_137 rfl (lv_at hl 0 rfl) ?_
        refine px_get S k_Mo hT hw 0 0 5 (v := .ref (mr 5)) rfl rfl rfl (by decide) m11_83 d_Mo_run_138 ?_
        refine lv_iload S.x S.b d_Mo_run_141 (lv_at hl 5 rfl) ?_
        refine px_aaldS S hT hw 0 3 10 (n := 13) (f := ((gMo PG hq) 5)) rfl rfl rfl (x := x108_5) (vp_in_iff.mpr (by first | exact oz_10a7a22e11 k108_14 nc80 | (constructor <;> omega))) (sk := (hq x108_5.toNatClampNeg)) rfl d_Mo_run_143 ?_
        refine lv_iconst (v := 0) S.x S.b d_Mo_run_144 (by decide) ?_
        refine px_put S k_Mpr hT hw 3 0 23 rfl rfl (by decide) m11_20 rfl rfl rfl (Nat.le_of_ble_eq_true rfl) d_Mo_run_145 (w' := wd_Mpr cs (hq x108_5.toNatClampNeg) (qr x108_5.toNatClampNeg) (fun _ => QO_108 x108_5.toNatClampNeg) (upd (upd (upd (QF_108 x108_5.toNatClampNeg) 1 0) 21 0) 23 0) (QA_108 x108_5.toNatClampNeg) (fun _ _ => none)) (ps' := [wd_Mo cs mo mr (fun _ => none) mf_108 md_108 (gMo PG hq), fm 8 (fPg cs PG), fo 13 (fPr cs hq qr QO_108 QF_108 QA_108) x108_5.toNatClampNeg, wd_Mpr cs (hq x108_5.toNatClampNeg) (qr x108_5.toNatClampNeg) (fun _ => QO_108 x108_5.toNatClampNeg) (upd (upd (upd (QF_108 x108_5.toNatClampNeg) 1 0) 21 0) 23 0) (QA_108 x108_5.toNatClampNeg) (fun _ _ => none)]) rfl rfl (fun H locs hw => ?_)
        refine lv_aload_n S.x S.b d_Mo_run_148 rfl (lv_at hl 0 rfl) ?_
        refine px_get S k_Mo hT hw 0 0 5 (v := .ref (mr 5)) rfl rfl rfl (by decide) m11_83 d_Mo_run_149 ?_
        refine lv_iload S.x S.b d_Mo_run_152 (lv_at hl 5 rfl) ?_
        refine px_aaldS S hT hw 0 3 10 (n := 13) (f := ((gMo PG hq) 5)) rfl rfl rfl (x := x108_5) (vp_in_iff.mpr (by first | exact oz_10a7a22e11 k108_14 nc80 | (constructor <;> omega))) (sk := (hq x108_5.toNatClampNeg)) rfl d_Mo_run_154 ?_
        refine lv_iconst (v := 0) S.x S.b d_Mo_run_155 (by decide) ?_
        refine px_put S k_Mpr hT hw 3 0 24 rfl rfl (by decide) m11_22 rfl rfl rfl (Nat.le_of_ble_eq_true rfl) d_Mo_run_156 (w' := wd_Mpr cs (hq x108_5.toNatClampNeg) (qr x108_5.toNatClampNeg) (fun _ => QO_108 x108_5.toNatClampNeg) (upd (upd (upd (upd (QF_108 x108_5.toNatClampNeg) 1 0) 21 0) 23 0) 24 0) (QA_108 x108_5.toNatClampNeg) (fun _ _ => none)) (ps' := [wd_Mo cs mo mr (fun _ => none) mf_108 md_108 (gMo PG hq), fm 8 (fPg cs PG), fo 13 (fPr cs hq qr QO_108 QF_108 QA_108) x108_5.toNatClampNeg, wd_Mpr cs (hq x108_5.toNatClampNeg) (qr x108_5.toNatClampNeg) (fun _ => QO_108 x108_5.toNatClampNeg) (upd (upd (upd (upd (QF_108 x108_5.toNatClampNeg) 1 0) 21 0) 23 0) 24 0) (QA_108 x108_5.toNatClampNeg) (fun _ _ => none)]) rfl rfl (fun H locs hw => ?_)
        obtain ⟨z107, ez107⟩ : ∃ y : Int32, y = x108_5 + 1 := ⟨_, rfl⟩
        have tz107 : z107.toInt = (x108_5.toInt + 1 + 2147483648) % 4294967296 - 2147483648 := by rw [ez107]; exact i_add x108_5 1
        have lz107 := Int32.le_toInt z107
        have uz107 := Int32.toInt_lt z107
        try replace tz107 : z107.toInt = x108_5.toInt + 1 := by omega
        refine lv_iinc (v := z107) (lv' := [(5, .int z107), (0, .ref mo), (1, .int p0), (2, .int p1), (3, .int p2), (4, .int p3)]) S.x S.b d_Mo_run_159 hl (k := 5) rfl (by rw [ez107]; rfl) (by decide) rfl (fun ls hl => ?_)
        refine lv_goto (tgt := 108) S.x S.b d_Mo_run_162 (by decide) ?_
        have hw := fpr_in (pr := [wd_Mo cs mo mr (fun _ => none) mf_108 md_108 (gMo PG hq), fm 8 (fPg cs PG)]) hw hi106
        obtain ⟨QO108, hu_QO108⟩ : ∃ y : Nat → Option Nat, y = va_up QO_108 x108_5.toNatClampNeg ((fun _ => QO_108 x108_5.toNatClampNeg) 0) := ⟨_, rfl⟩
        obtain ⟨QF109, hu_QF109⟩ : ∃ y : Nat → Nat → Int32, y = va_up QF_108 x108_5.toNatClampNeg (upd (upd (upd (upd (QF_108 x108_5.toNatClampNeg) 1 0) 21 0) 23 0) 24 0) := ⟨_, rfl⟩
        obtain ⟨QA110, hu_QA110⟩ : ∃ y : Nat → Nat → Nat → Int32, y = va_up QA_108 x108_5.toNatClampNeg (QA_108 x108_5.toNatClampNeg) := ⟨_, rfl⟩
        have hw : pw D A s.heap _ _ [wd_Mo cs mo mr (fun _ => none) mf_108 md_108 (gMo PG hq), fm 8 (fPg cs PG), fm 13 (fPr cs hq qr QO108 QF109 QA110)] := (by rw [hu_QO108, hu_QF109, hu_QA110]; exact hw)
        have hpn : PrN QF109 := (by rw [hu_QF109]; exact PrN.up hpn (show (0 ≤ (0 : Int) ∧ (0 : Int) ≤ 1) ∧ (0 ≤ (0 : Int) ∧ (0 : Int) ≤ 4) ∧ (0 ≤ (0 : Int) ∧ (0 : Int) ≤ 4) ∧ (0 ≤ (0 : Int) ∧ (0 : Int) ≤ 1000000) ∧ (0 ≤ ((QF_108 x108_5.toNatClampNeg) 6).toInt ∧ ((QF_108 x108_5.toNatClampNeg) 6).toInt ≤ 3) ∧ (0 ≤ ((QF_108 x108_5.toNatClampNeg) 7).toInt ∧ ((QF_108 x108_5.toNatClampNeg) 7).toInt ≤ 1) from by first | with_reducible rfl | with_reducible assumption | omega))
        have hpz : PrZ QF109 (x108_5.toInt + 1) := (by rw [hu_QF109]; exact PrZ.up hpz (show (0 : Int) = 0 from rfl) (by omega) rfl)
        have hw : pw D A s.heap _ _ [wd_Mo cs mo mr (fun _ => none) mf_108 md_108 (gMo PG hq), fm 13 (fPr cs hq qr QO108 QF109 QA110), fm 8 (fPg cs PG)] := hw.sub [0, 2, 1] rfl rfl
        exact ih108 mf_108 md_108 QO108 QF109 QA110 z107 _ _ ls (show PrN QF109 from hpn) (show PrZ QF109 z107.toInt from (fun i9 q9 => hpz i9 (by omega))) (show (mf_108 7).toInt = p2.toInt from by first | exact k108_2 | omega) (show (mf_108 8).toInt = p3.toInt from by first | exact k108_3 | omega) (show 0 ≤ p2.toInt from by first | exact k108_4 | omega) (show p2.toInt ≤ 100 from by first | exact k108_5 | omega) (show 0 ≤ p3.toInt from by first | exact k108_6 | omega) (show p3.toInt ≤ 512 from by first | exact k108_7 | omega) (show (mf_108 2).toInt = (mf 2).toInt from by first | exact k108_8 | omega) (show 0 ≤ (mf_108 10).toInt from by first | exact k108_9 | omega) (show (mf_108 10).toInt ≤ (mf 10).toInt from by first | exact k108_10 | omega) (show 0 ≤ p0.toInt from by first | exact k108_11 | omega) (show p0.toInt < 8 from by first | exact k108_12 | omega) (show (mf_108 3).toInt = (mf 3).toInt from by first | exact k108_13 | omega) (show 0 ≤ z107.toInt from by first | exact oz_ae613611c0 tz107 k108_14 | omega) (show z107.toInt ≤ 13 from by first | exact oz_d342e04a5c tz107 nc80 | omega) (show 1 ≤ ((PG p0.toNatClampNeg).xf 66).toInt from by first | exact k108_16 | omega) (show ((PG p0.toNatClampNeg).xf 66).toInt ≤ 2 from by first | exact k108_17 | omega) (show 13 - z107.toInt < (n_108 : Int) from by first | exact oz_6680d080b4 hm tz107 | omega) hw (lv_sub hl [1, 2, 3, 4, 5, 0] rfl)
  refine lv_aload_n S.x S.b d_Mo_run_0 rfl (lv_at hl 0 rfl) ?_
  refine lv_iload_n S.x S.b d_Mo_run_1 rfl (lv_at hl 1 rfl) ?_
  refine px_calli (pr := [wd_Mo cs mo mr (fun _ => none) mf md (gMo PG hq), fm 13 (fPr cs hq qr QO QF QA), fm 8 (fPg cs PG)]) (px_runS (As := [.int p0]) (rest := [.ref mo]) S (c_mo_isProgram l D cs  p0   _) hT (pr := [wd_Mo cs mo mr (fun _ => none) mf md (gMo PG hq), fm 13 (fPr cs hq qr QO QF QA), fm 8 (fPg cs PG)]) (pcs := []) hw px_X.tt m11_126 m11_124 m11_125 m1_20 q_Mo_isProgram ⟨Nat.le_of_ble_eq_true rfl, Nat.le_of_ble_eq_true rfl⟩ hl.1 rfl (Nat.le_of_ble_eq_true rfl) d_Mo_run_2 ⟨Nat.le_of_ble_eq_true rfl, Nat.le_of_ble_eq_true rfl⟩) hw hA (fun v112 p111 H locs hp111 hw => ?_)
  obtain ⟨rfl, e113, e114, e115⟩ := hp111
  replace e113 : 0 ≤ v112.toInt := e113
  replace e114 : v112.toInt ≤ 1 := e114
  replace e115 : v112.toInt = 1 → 0 ≤ p0.toInt ∧ p0.toInt < 8 := e115
  replace hw : pw D A s.heap H locs [wd_Mo cs mo mr (fun _ => none) mf md (gMo PG hq), fm 13 (fPr cs hq qr QO QF QA), fm 8 (fPg cs PG)] := hw
  have lv112 := Int32.le_toInt v112
  have uv112 := Int32.toInt_lt v112
  refine lv_if_ne (tgt := 12) S.x S.b d_Mo_run_5 (by decide) (fun c116 => ?_) (fun c116 => ?_)
  · have nc116 : ¬ v112.toInt = (0 : Int) := mt (i_eq (x := v112) (y := 0)).mpr c116
    refine lv_iload_n S.x S.b d_Mo_run_12 rfl (lv_at hl 3 rfl) ?_
    refine lv_if_lt (tgt := 35) S.x S.b d_Mo_run_13 (by decide) (fun c117 => ?_) (fun c117 => ?_)
    · have nc117 : p2.toInt < (0 : Int) := (i_lt (x := p2) (y := 0)).mp c117
      refine lv_iconst (v := 2) S.x S.b d_Mo_run_35 (by decide) ?_
      refine lv_goto (tgt := 55) S.x S.b d_Mo_run_36 (by decide) ?_
      refine px_put S k_Mo hT hw 0 0 0 rfl rfl (by decide) m11_78 rfl rfl rfl (Nat.le_of_ble_eq_true rfl) d_Mo_run_55 (w' := wd_Mo cs mo mr (fun _ => none) (upd mf 0 2) md (gMo PG hq)) (ps' := [wd_Mo cs mo mr (fun _ => none) (upd mf 0 2) md (gMo PG hq), fm 13 (fPr cs hq qr QO QF QA), fm 8 (fPg cs PG)]) rfl rfl (fun H locs hw => ?_)
      refine lv_aload_n S.x S.b d_Mo_run_58 rfl (lv_at hl 0 rfl) ?_
      refine px_get S k_Mo hT hw 0 0 0 (v := .int 2) rfl rfl rfl (by decide) m11_78 d_Mo_run_59 ?_
      refine lv_if_le (tgt := 67) S.x S.b d_Mo_run_62 (by decide) (fun c118 => ?_) (fun c118 => ?_)
      · exact absurd c118 (by decide)
      ·
        refine lv_iconst (v := 0) S.x S.b d_Mo_run_65 (by decide) ?_
        exact px_iret (v := 0) S hr rfl hlk hAe hw (Nat.le_of_ble_eq_true rfl) (Nat.le_of_ble_eq_true rfl) (⟨(upd mf 0 2), md, QO, QF, QA, rfl, (show PrN QF from hpn), (show (mf 2).toInt = (mf 2).toInt from rfl), (show 0 ≤ (mf 10).toInt from by first | exact g0 | omega), (show (mf 10).toInt ≤ (mf 10).toInt from by first | exact oz_1cb5f934a5 | omega), (show (mf 3).toInt = (mf 3).toInt from rfl)⟩) d_Mo_run_66
    · have nc117 : ¬ p2.toInt < (0 : Int) := mt (i_lt (x := p2) (y := 0)).mpr c117
      refine lv_iload_n S.x S.b d_Mo_run_16 rfl (lv_at hl 3 rfl) ?_
      refine lv_bipush (v := 100) S.x S.b d_Mo_run_17 (by decide) ?_
      refine lv_icmp_gt (tgt := 35) S.x S.b d_Mo_run_19 (by decide) (fun c119 => ?_) (fun c119 => ?_)
      · have nc119 : (100 : Int) < p2.toInt := (i_lt (x := 100) (y := p2)).mp c119
        refine lv_iconst (v := 2) S.x S.b d_Mo_run_35 (by decide) ?_
        refine lv_goto (tgt := 55) S.x S.b d_Mo_run_36 (by decide) ?_
        refine px_put S k_Mo hT hw 0 0 0 rfl rfl (by decide) m11_78 rfl rfl rfl (Nat.le_of_ble_eq_true rfl) d_Mo_run_55 (w' := wd_Mo cs mo mr (fun _ => none) (upd mf 0 2) md (gMo PG hq)) (ps' := [wd_Mo cs mo mr (fun _ => none) (upd mf 0 2) md (gMo PG hq), fm 13 (fPr cs hq qr QO QF QA), fm 8 (fPg cs PG)]) rfl rfl (fun H locs hw => ?_)
        refine lv_aload_n S.x S.b d_Mo_run_58 rfl (lv_at hl 0 rfl) ?_
        refine px_get S k_Mo hT hw 0 0 0 (v := .int 2) rfl rfl rfl (by decide) m11_78 d_Mo_run_59 ?_
        refine lv_if_le (tgt := 67) S.x S.b d_Mo_run_62 (by decide) (fun c120 => ?_) (fun c120 => ?_)
        · exact absurd c120 (by decide)
        ·
          refine lv_iconst (v := 0) S.x S.b d_Mo_run_65 (by decide) ?_
          exact px_iret (v := 0) S hr rfl hlk hAe hw (Nat.le_of_ble_eq_true rfl) (Nat.le_of_ble_eq_true rfl) (⟨(upd mf 0 2), md, QO, QF, QA, rfl, (show PrN QF from hpn), (show (mf 2).toInt = (mf 2).toInt from rfl), (show 0 ≤ (mf 10).toInt from by first | exact g0 | omega), (show (mf 10).toInt ≤ (mf 10).toInt from by first | exact oz_1cb5f934a5 | omega), (show (mf 3).toInt = (mf 3).toInt from rfl)⟩) d_Mo_run_66
      · have nc119 : ¬ (100 : Int) < p2.toInt := mt (i_lt (x := 100) (y := p2)).mpr c119
        refine lv_iload S.x S.b d_Mo_run_22 (lv_at hl 4 rfl) ?_
        refine lv_if_lt (tgt := 35) S.x S.b d_Mo_run_24 (by decide) (fun c121 => ?_) (fun c121 => ?_)
        · have nc121 : p3.toInt < (0 : Int) := (i_lt (x := p3) (y := 0)).mp c121
          refine lv_iconst (v := 2) S.x S.b d_Mo_run_35 (by decide) ?_
          refine lv_goto (tgt := 55) S.x S.b d_Mo_run_36 (by decide) ?_
          refine px_put S k_Mo hT hw 0 0 0 rfl rfl (by decide) m11_78 rfl rfl rfl (Nat.le_of_ble_eq_true rfl) d_Mo_run_55 (w' := wd_Mo cs mo mr (fun _ => none) (upd mf 0 2) md (gMo PG hq)) (ps' := [wd_Mo cs mo mr (fun _ => none) (upd mf 0 2) md (gMo PG hq), fm 13 (fPr cs hq qr QO QF QA), fm 8 (fPg cs PG)]) rfl rfl (fun H locs hw => ?_)
          refine lv_aload_n S.x S.b d_Mo_run_58 rfl (lv_at hl 0 rfl) ?_
          refine px_get S k_Mo hT hw 0 0 0 (v := .int 2) rfl rfl rfl (by decide) m11_78 d_Mo_run_59 ?_
          refine lv_if_le (tgt := 67) S.x S.b d_Mo_run_62 (by decide) (fun c122 => ?_) (fun c122 => ?_)
          · exact absurd c122 (by decide)
          ·
            refine lv_iconst (v := 0) S.x S.b d_Mo_run_65 (by decide) ?_
            exact px_iret (v := 0) S hr rfl hlk hAe hw (Nat.le_of_ble_eq_true rfl) (Nat.le_of_ble_eq_true rfl) (⟨(upd mf 0 2), md, QO, QF, QA, rfl, (show PrN QF from hpn), (show (mf 2).toInt = (mf 2).toInt from rfl), (show 0 ≤ (mf 10).toInt from by first | exact g0 | omega), (show (mf 10).toInt ≤ (mf 10).toInt from by first | exact oz_1cb5f934a5 | omega), (show (mf 3).toInt = (mf 3).toInt from rfl)⟩) d_Mo_run_66
        · have nc121 : ¬ p3.toInt < (0 : Int) := mt (i_lt (x := p3) (y := 0)).mpr c121
          refine lv_iload S.x S.b d_Mo_run_27 (lv_at hl 4 rfl) ?_
          refine lv_sipush (v := 512) S.x S.b d_Mo_run_29 (by decide) ?_
          refine lv_icmp_le (tgt := 39) S.x S.b d_Mo_run_32 (by decide) (fun c123 => ?_) (fun c123 => ?_)
          · have nc123 : p3.toInt ≤ (512 : Int) := (i_le (x := p3) (y := 512)).mp c123
            refine lv_aload_n S.x S.b d_Mo_run_39 rfl (lv_at hl 0 rfl) ?_
            refine px_get S k_Mo hT hw 0 0 10 (v := .int (mf 10)) rfl rfl rfl (by decide) m11_88 d_Mo_run_40 ?_
            refine lv_iload_n S.x S.b d_Mo_run_43 rfl (lv_at hl 3 rfl) ?_
            refine lv_bipush (v := 30) S.x S.b d_Mo_run_44 (by decide) ?_
            refine lv_iadd S.x S.b d_Mo_run_46 ?_
            refine lv_topi (fun z124 ez124 => ?_)
            have tz124 : z124.toInt = (p2.toInt + (30 : Int) + 2147483648) % 4294967296 - 2147483648 := by rw [ez124]; exact i_add p2 30
            have lz124 := Int32.le_toInt z124
            have uz124 := Int32.toInt_lt z124
            try replace tz124 : z124.toInt = p2.toInt + (30 : Int) := by omega
            refine lv_icmp_ge (tgt := 54) S.x S.b d_Mo_run_47 (by decide) (fun c125 => ?_) (fun c125 => ?_)
            · have nc125 : z124.toInt ≤ (mf 10).toInt := (i_le (x := z124) (y := (mf 10))).mp c125
              refine lv_iconst (v := 0) S.x S.b d_Mo_run_54 (by decide) ?_
              refine px_put S k_Mo hT hw 0 0 0 rfl rfl (by decide) m11_78 rfl rfl rfl (Nat.le_of_ble_eq_true rfl) d_Mo_run_55 (w' := wd_Mo cs mo mr (fun _ => none) (upd mf 0 0) md (gMo PG hq)) (ps' := [wd_Mo cs mo mr (fun _ => none) (upd mf 0 0) md (gMo PG hq), fm 13 (fPr cs hq qr QO QF QA), fm 8 (fPg cs PG)]) rfl rfl (fun H locs hw => ?_)
              refine lv_aload_n S.x S.b d_Mo_run_58 rfl (lv_at hl 0 rfl) ?_
              refine px_get S k_Mo hT hw 0 0 0 (v := .int 0) rfl rfl rfl (by decide) m11_78 d_Mo_run_59 ?_
              refine lv_if_le (tgt := 67) S.x S.b d_Mo_run_62 (by decide) (fun c126 => ?_) (fun c126 => ?_)
              ·
                refine lv_aload_n S.x S.b d_Mo_run_67 rfl (lv_at hl 0 rfl) ?_
                refine px_get S k_Mo hT hw 0 0 4 (v := .ref (mr 4)) rfl rfl rfl (by decide) m11_82 d_Mo_run_68 ?_
                refine lv_iload_n S.x S.b d_Mo_run_71 rfl (lv_at hl 1 rfl) ?_
                refine px_aaldS S hT hw 0 2 9 (n := 8) (f := ((gMo PG hq) 4)) rfl rfl rfl (x := p0) (vp_in_iff.mpr (by constructor <;> omega)) (sk := (PG p0.toNatClampNeg).h) rfl d_Mo_run_72 ?_
                have hc127 := cl_nat (x := p0) (by first | exact oz_016f458179 hc127 | omega)
                have hj127 : p0.toNatClampNeg < 8 := by omega
                have hw : pw D A s.heap _ _ [wd_Mo cs mo mr (fun _ => none) (upd mf 0 0) md (gMo PG hq), fm 13 (fPr cs hq qr QO QF QA), fo 8 (fPg cs PG) p0.toNatClampNeg, wdP cs (PG p0.toNatClampNeg).h (PG p0.toNatClampNeg).r (PG p0.toNatClampNeg).g (PG p0.toNatClampNeg).tf (PG p0.toNatClampNeg).ta (PG p0.toNatClampNeg).pf (PG p0.toNatClampNeg).na (PG p0.toNatClampNeg).ma (PG p0.toNatClampNeg).wa (PG p0.toNatClampNeg).cf (PG p0.toNatClampNeg).ca (PG p0.toNatClampNeg).ef (PG p0.toNatClampNeg).ea (PG p0.toNatClampNeg).xf (PG p0.toNatClampNeg).xa] := fm_out (pr := [wd_Mo cs mo mr (fun _ => none) (upd mf 0 0) md (gMo PG hq), fm 13 (fPr cs hq qr QO QF QA)]) (T := fPg cs PG) hw hj127
                have hpo128 := hpg p0.toNatClampNeg hj127
                have hp1128 := hpo128.1
                have hp2128 := hpo128.2.1
                have hP := hGG p0.toNatClampNeg hj127
                refine px_get S k_Mpg hT hw 3 0 66 (v := .int ((PG p0.toNatClampNeg).xf 66)) rfl rfl rfl (by decide) m10_67 d_Mo_run_73 ?_
                refine lv_if_ne (tgt := 81) S.x S.b d_Mo_run_76 (by decide) (fun c129 => ?_) (fun c129 => ?_)
                · have nc129 : ¬ ((PG p0.toNatClampNeg).xf 66).toInt = (0 : Int) := mt (i_eq (x := ((PG p0.toNatClampNeg).xf 66)) (y := 0)).mpr c129
                  refine lv_aload_n S.x S.b d_Mo_run_81 rfl (lv_at hl 0 rfl) ?_
                  refine lv_aload_n S.x S.b d_Mo_run_82 rfl (lv_at hl 0 rfl) ?_
                  refine px_get S k_Mo hT hw 0 0 10 (v := .int (mf 10)) rfl rfl rfl (by decide) m11_88 d_Mo_run_83 ?_
                  refine lv_iload_n S.x S.b d_Mo_run_86 rfl (lv_at hl 3 rfl) ?_
                  refine lv_isub S.x S.b d_Mo_run_87 ?_
                  have lr130 := Int32.le_toInt (mf 10)
                  have ur130 := Int32.toInt_lt (mf 10)
                  refine lv_topi (fun z131 ez131 => ?_)
                  have tz131 : z131.toInt = ((mf 10).toInt - p2.toInt + 2147483648) % 4294967296 - 2147483648 := by rw [ez131]; exact i_sub (mf 10) p2
                  have lz131 := Int32.le_toInt z131
                  have uz131 := Int32.toInt_lt z131
                  try replace tz131 : z131.toInt = (mf 10).toInt - p2.toInt := by omega
                  refine lv_bipush (v := 30) S.x S.b d_Mo_run_88 (by decide) ?_
                  refine lv_isub S.x S.b d_Mo_run_90 ?_
                  refine lv_topi (fun z132 ez132 => ?_)
                  have tz132 : z132.toInt = (z131.toInt - (30 : Int) + 2147483648) % 4294967296 - 2147483648 := by rw [ez132]; exact i_sub z131 30
                  have lz132 := Int32.le_toInt z132
                  have uz132 := Int32.toInt_lt z132
                  try replace tz132 : z132.toInt = z131.toInt - (30 : Int) := by omega
                  refine px_put S k_Mo hT hw 0 0 10 rfl rfl (by decide) m11_88 rfl rfl rfl (Nat.le_of_ble_eq_true rfl) d_Mo_run_91 (w' := wd_Mo cs mo mr (fun _ => none) (upd (upd mf 0 0) 10 z132) md (gMo PG hq)) (ps' := [wd_Mo cs mo mr (fun _ => none) (upd (upd mf 0 0) 10 z132) md (gMo PG hq), fm 13 (fPr cs hq qr QO QF QA), fo 8 (fPg cs PG) p0.toNatClampNeg, wdP cs (PG p0.toNatClampNeg).h (PG p0.toNatClampNeg).r (PG p0.toNatClampNeg).g (PG p0.toNatClampNeg).tf (PG p0.toNatClampNeg).ta (PG p0.toNatClampNeg).pf (PG p0.toNatClampNeg).na (PG p0.toNatClampNeg).ma (PG p0.toNatClampNeg).wa (PG p0.toNatClampNeg).cf (PG p0.toNatClampNeg).ca (PG p0.toNatClampNeg).ef (PG p0.toNatClampNeg).ea (PG p0.toNatClampNeg).xf (PG p0.toNatClampNeg).xa]) rfl rfl (fun H locs hw => ?_)
                  refine lv_aload_n S.x S.b d_Mo_run_94 rfl (lv_at hl 0 rfl) ?_
                  refine lv_iload_n S.x S.b d_Mo_run_95 rfl (lv_at hl 3 rfl) ?_
                  refine px_put S k_Mo hT hw 0 0 7 rfl rfl (by decide) m11_85 rfl rfl rfl (Nat.le_of_ble_eq_true rfl) d_Mo_run_96 (w' := wd_Mo cs mo mr (fun _ => none) (upd (upd (upd mf 0 0) 7 p2) 10 z132) md (gMo PG hq)) (ps' := [wd_Mo cs mo mr (fun _ => none) (upd (upd (upd mf 0 0) 7 p2) 10 z132) md (gMo PG hq), fm 13 (fPr cs hq qr QO QF QA), fo 8 (fPg cs PG) p0.toNatClampNeg, wdP cs (PG p0.toNatClampNeg).h (PG p0.toNatClampNeg).r (PG p0.toNatClampNeg).g (PG p0.toNatClampNeg).tf (PG p0.toNatClampNeg).ta (PG p0.toNatClampNeg).pf (PG p0.toNatClampNeg).na (PG p0.toNatClampNeg).ma (PG p0.toNatClampNeg).wa (PG p0.toNatClampNeg).cf (PG p0.toNatClampNeg).ca (PG p0.toNatClampNeg).ef (PG p0.toNatClampNeg).ea (PG p0.toNatClampNeg).xf (PG p0.toNatClampNeg).xa]) rfl rfl (fun H locs hw => ?_)
                  refine lv_aload_n S.x S.b d_Mo_run_99 rfl (lv_at hl 0 rfl) ?_
                  refine lv_iload S.x S.b d_Mo_run_100 (lv_at hl 4 rfl) ?_
                  refine px_put S k_Mo hT hw 0 0 8 rfl rfl (by decide) m11_86 rfl rfl rfl (Nat.le_of_ble_eq_true rfl) d_Mo_run_102 (w' := wd_Mo cs mo mr (fun _ => none) (upd (upd (upd (upd mf 0 0) 7 p2) 8 p3) 10 z132) md (gMo PG hq)) (ps' := [wd_Mo cs mo mr (fun _ => none) (upd (upd (upd (upd mf 0 0) 7 p2) 8 p3) 10 z132) md (gMo PG hq), fm 13 (fPr cs hq qr QO QF QA), fo 8 (fPg cs PG) p0.toNatClampNeg, wdP cs (PG p0.toNatClampNeg).h (PG p0.toNatClampNeg).r (PG p0.toNatClampNeg).g (PG p0.toNatClampNeg).tf (PG p0.toNatClampNeg).ta (PG p0.toNatClampNeg).pf (PG p0.toNatClampNeg).na (PG p0.toNatClampNeg).ma (PG p0.toNatClampNeg).wa (PG p0.toNatClampNeg).cf (PG p0.toNatClampNeg).ca (PG p0.toNatClampNeg).ef (PG p0.toNatClampNeg).ea (PG p0.toNatClampNeg).xf (PG p0.toNatClampNeg).xa]) rfl rfl (fun H locs hw => ?_)
                  refine lv_iconst (v := 0) S.x S.b d_Mo_run_105 (by decide) ?_
                  refine lv_istore (lv' := [(5, .int 0), (0, .ref mo), (1, .int p0), (2, .int p1), (3, .int p2), (4, .int p3)]) S.x S.b d_Mo_run_106 hl (by decide) rfl (fun ls hl => ?_)
                  have hw : pw D A s.heap _ _ [wd_Mo cs mo mr (fun _ => none) (upd (upd (upd (upd mf 0 0) 7 p2) 8 p3) 10 z132) md (gMo PG hq), fm 13 (fPr cs hq qr QO QF QA), fm 8 (fPg cs PG)] := fm_back (pr := [wd_Mo cs mo mr (fun _ => none) (upd (upd (upd (upd mf 0 0) 7 p2) 8 p3) 10 z132) md (gMo PG hq), fm 13 (fPr cs hq qr QO QF QA)]) (T := fPg cs PG) hw hj127
                  exact J108 ((13 - (0 : Int)).toNat + 1) (upd (upd (upd (upd mf 0 0) 7 p2) 8 p3) 10 z132) md QO QF QA (0 : Int32) _ _ ls (show PrN QF from hpn) (show PrZ QF (0 : Int) from (fun i9 q9 => absurd q9 (by omega))) (show p2.toInt = p2.toInt from rfl) (show p3.toInt = p3.toInt from rfl) (show 0 ≤ p2.toInt from by first | exact oz_18a5c06a28 nc117 | omega) (show p2.toInt ≤ 100 from by first | exact oz_694b8e2913 nc119 | omega) (show 0 ≤ p3.toInt from by first | exact oz_18a5c06a28 nc121 | omega) (show p3.toInt ≤ 512 from by first | exact oz_8100819c59 nc123 | omega) (show (mf 2).toInt = (mf 2).toInt from rfl) (show 0 ≤ z132.toInt from by first | exact oz_493e98d437 tz132 tz131 tz124 nc125 | omega) (show z132.toInt ≤ (mf 10).toInt from by first | exact oz_5aae3ef4c0 tz131 tz132 nc117 | omega) (show 0 ≤ p0.toInt from by first | exact oz_016f458179 hc127 | omega) (show p0.toInt < 8 from by first | exact oz_a7c5241a94 hc127 hj127 | omega) (show (mf 3).toInt = (mf 3).toInt from rfl) (show 0 ≤ (0 : Int) from by first | decide | omega) (show (0 : Int) ≤ 13 from by first | decide | omega) (show 1 ≤ ((PG p0.toNatClampNeg).xf 66).toInt from by first | with_reducible rfl | with_reducible assumption | omega) (show ((PG p0.toNatClampNeg).xf 66).toInt ≤ 2 from by first | with_reducible rfl | with_reducible assumption | omega) (show 13 - (0 : Int) < ((((13 - (0 : Int)).toNat + 1 : Nat) : Int) : Int) from by first | exact oz_natlt | omega) hw (lv_sub hl [1, 2, 3, 4, 5, 0] rfl)
                · have nc129 : ((PG p0.toNatClampNeg).xf 66).toInt = (0 : Int) := (i_eq (x := ((PG p0.toNatClampNeg).xf 66)) (y := 0)).mp c129
                  refine lv_iconst (v := (-1)) S.x S.b d_Mo_run_79 (by decide) ?_
                  have hw : pw D A s.heap _ _ [wd_Mo cs mo mr (fun _ => none) (upd mf 0 0) md (gMo PG hq), fm 13 (fPr cs hq qr QO QF QA), fm 8 (fPg cs PG)] := fm_back (pr := [wd_Mo cs mo mr (fun _ => none) (upd mf 0 0) md (gMo PG hq), fm 13 (fPr cs hq qr QO QF QA)]) (T := fPg cs PG) hw hj127
                  exact px_iret (v := (-1)) S hr rfl hlk hAe hw (Nat.le_of_ble_eq_true rfl) (Nat.le_of_ble_eq_true rfl) (⟨(upd mf 0 0), md, QO, QF, QA, rfl, (show PrN QF from hpn), (show (mf 2).toInt = (mf 2).toInt from rfl), (show 0 ≤ (mf 10).toInt from by first | exact g0 | omega), (show (mf 10).toInt ≤ (mf 10).toInt from by first | exact oz_1cb5f934a5 | omega), (show (mf 3).toInt = (mf 3).toInt from rfl)⟩) d_Mo_run_80
              · exact absurd c126 (by decide)
            · have nc125 : ¬ z124.toInt ≤ (mf 10).toInt := mt (i_le (x := z124) (y := (mf 10))).mpr c125
              refine lv_iconst (v := 3) S.x S.b d_Mo_run_50 (by decide) ?_
              refine lv_goto (tgt := 55) S.x S.b d_Mo_run_51 (by decide) ?_
              refine px_put S k_Mo hT hw 0 0 0 rfl rfl (by decide) m11_78 rfl rfl rfl (Nat.le_of_ble_eq_true rfl) d_Mo_run_55 (w' := wd_Mo cs mo mr (fun _ => none) (upd mf 0 3) md (gMo PG hq)) (ps' := [wd_Mo cs mo mr (fun _ => none) (upd mf 0 3) md (gMo PG hq), fm 13 (fPr cs hq qr QO QF QA), fm 8 (fPg cs PG)]) rfl rfl (fun H locs hw => ?_)
              refine lv_aload_n S.x S.b d_Mo_run_58 rfl (lv_at hl 0 rfl) ?_
              refine px_get S k_Mo hT hw 0 0 0 (v := .int 3) rfl rfl rfl (by decide) m11_78 d_Mo_run_59 ?_
              refine lv_if_le (tgt := 67) S.x S.b d_Mo_run_62 (by decide) (fun c133 => ?_) (fun c133 => ?_)
              · exact absurd c133 (by decide)
              ·
                refine lv_iconst (v := 0) S.x S.b d_Mo_run_65 (by decide) ?_
                exact px_iret (v := 0) S hr rfl hlk hAe hw (Nat.le_of_ble_eq_true rfl) (Nat.le_of_ble_eq_true rfl) (⟨(upd mf 0 3), md, QO, QF, QA, rfl, (show PrN QF from hpn), (show (mf 2).toInt = (mf 2).toInt from rfl), (show 0 ≤ (mf 10).toInt from by first | exact g0 | omega), (show (mf 10).toInt ≤ (mf 10).toInt from by first | exact oz_1cb5f934a5 | omega), (show (mf 3).toInt = (mf 3).toInt from rfl)⟩) d_Mo_run_66
          · have nc123 : ¬ p3.toInt ≤ (512 : Int) := mt (i_le (x := p3) (y := 512)).mpr c123
            refine lv_iconst (v := 2) S.x S.b d_Mo_run_35 (by decide) ?_
            refine lv_goto (tgt := 55) S.x S.b d_Mo_run_36 (by decide) ?_
            refine px_put S k_Mo hT hw 0 0 0 rfl rfl (by decide) m11_78 rfl rfl rfl (Nat.le_of_ble_eq_true rfl) d_Mo_run_55 (w' := wd_Mo cs mo mr (fun _ => none) (upd mf 0 2) md (gMo PG hq)) (ps' := [wd_Mo cs mo mr (fun _ => none) (upd mf 0 2) md (gMo PG hq), fm 13 (fPr cs hq qr QO QF QA), fm 8 (fPg cs PG)]) rfl rfl (fun H locs hw => ?_)
            refine lv_aload_n S.x S.b d_Mo_run_58 rfl (lv_at hl 0 rfl) ?_
            refine px_get S k_Mo hT hw 0 0 0 (v := .int 2) rfl rfl rfl (by decide) m11_78 d_Mo_run_59 ?_
            refine lv_if_le (tgt := 67) S.x S.b d_Mo_run_62 (by decide) (fun c134 => ?_) (fun c134 => ?_)
            · exact absurd c134 (by decide)
            ·
              refine lv_iconst (v := 0) S.x S.b d_Mo_run_65 (by decide) ?_
              exact px_iret (v := 0) S hr rfl hlk hAe hw (Nat.le_of_ble_eq_true rfl) (Nat.le_of_ble_eq_true rfl) (⟨(upd mf 0 2), md, QO, QF, QA, rfl, (show PrN QF from hpn), (show (mf 2).toInt = (mf 2).toInt from rfl), (show 0 ≤ (mf 10).toInt from by first | exact g0 | omega), (show (mf 10).toInt ≤ (mf 10).toInt from by first | exact oz_1cb5f934a5 | omega), (show (mf 3).toInt = (mf 3).toInt from rfl)⟩) d_Mo_run_66
  · have nc116 : v112.toInt = (0 : Int) := (i_eq (x := v112) (y := 0)).mp c116
    refine lv_iconst (v := 1) S.x S.b d_Mo_run_8 (by decide) ?_
    refine lv_goto (tgt := 55) S.x S.b d_Mo_run_9 (by decide) ?_
    refine px_put S k_Mo hT hw 0 0 0 rfl rfl (by decide) m11_78 rfl rfl rfl (Nat.le_of_ble_eq_true rfl) d_Mo_run_55 (w' := wd_Mo cs mo mr (fun _ => none) (upd mf 0 1) md (gMo PG hq)) (ps' := [wd_Mo cs mo mr (fun _ => none) (upd mf 0 1) md (gMo PG hq), fm 13 (fPr cs hq qr QO QF QA), fm 8 (fPg cs PG)]) rfl rfl (fun H locs hw => ?_)
    refine lv_aload_n S.x S.b d_Mo_run_58 rfl (lv_at hl 0 rfl) ?_
    refine px_get S k_Mo hT hw 0 0 0 (v := .int 1) rfl rfl rfl (by decide) m11_78 d_Mo_run_59 ?_
    refine lv_if_le (tgt := 67) S.x S.b d_Mo_run_62 (by decide) (fun c135 => ?_) (fun c135 => ?_)
    · exact absurd c135 (by decide)
    ·
      refine lv_iconst (v := 0) S.x S.b d_Mo_run_65 (by decide) ?_
      exact px_iret (v := 0) S hr rfl hlk hAe hw (Nat.le_of_ble_eq_true rfl) (Nat.le_of_ble_eq_true rfl) (⟨(upd mf 0 1), md, QO, QF, QA, rfl, (show PrN QF from hpn), (show (mf 2).toInt = (mf 2).toInt from rfl), (show 0 ≤ (mf 10).toInt from by first | exact g0 | omega), (show (mf 10).toInt ≤ (mf 10).toInt from by first | exact oz_1cb5f934a5 | omega), (show (mf 3).toInt = (mf 3).toInt from rfl)⟩) d_Mo_run_66
