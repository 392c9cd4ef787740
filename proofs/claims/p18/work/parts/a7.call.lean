theorem oz_8797106de7 {n0 : Nat}  : (4 * n0 + 12) + 1 ≤ (4 * n0 + 13) := by omega
theorem oz_0b8056306d {n0 : Nat}  : 8 + (8 + 11) + (200 * n0 + 420) ≤ (200 * n0 + 470) := by omega
theorem oz_18c2ec885a {n0 : Nat}  : 0 + 1 ≤ (4 * n0 + 13) := by omega
theorem oz_d9dc1a06a4 {n0 : Nat}  : 8 + (2 + 11) + 0 ≤ (200 * n0 + 470) := by omega
theorem oz_31e643ed72 {n0 : Nat}  : 8 + (3 + 11) + 0 ≤ (200 * n0 + 470) := by omega
theorem oz_0f2ac8ea3f {a0 a1 a2 a3 : Int} (h0 : a1 = a2) (h1 : a0 < a3) (h2 : a2 = a3) : a0 < a1 := by omega
theorem oz_ec25f4eec3 {a0 a1 a2 a3 a4 a5 : Int} (h0 : a0 = a1 - (1 : Int)) (h1 : a1 + a2 + 1 ≤ a3) (h2 : 0 ≤ a2) (h3 : a3 ≤ a4) (h4 : a4 ≤ a5) (h5 : a5 ≤ 2100) : a0 ≤ 4000 := by omega
theorem oz_0cd0036c91 {n0 : Nat}  : 4 + 1 ≤ (4 * n0 + 14) := by omega
theorem oz_dff5f80a3a {n0 : Nat}  : 8 + (6 + 11) + 140 ≤ (200 * n0 + 540) := by omega
theorem oz_3c03087ebf  : 1 ≤ (4 : Int) := by omega
theorem oz_90c46cace3 {n0 : Nat}  : 0 + 1 ≤ (4 * n0 + 14) := by omega
theorem oz_2ba881113e {n0 : Nat}  : 8 + (3 + 11) + 0 ≤ (200 * n0 + 540) := by omega
theorem oz_39f46dc397  : (1 : Int) ≤ 4 := by omega
theorem oz_00eea3d1ab  : (4 : Int) ≤ 4 := by omega
theorem oz_891c5e5184 {a0 : Int} (h0 : ¬ a0 < (0 : Int)) (h1 : a0 ≤ 9) : 0 ≤ a0 ∧ a0 < ((15 : Nat) : Int) := by omega
theorem oz_87f60782ea {n0 : Nat}  : 3 + 1 ≤ (4 * n0 + 14) := by omega
theorem oz_6a6d2d7d66 {n0 : Nat}  : 8 + (2 + 11) + 90 ≤ (200 * n0 + 540) := by omega
theorem oz_2634073f30 {a0 a1 a2 a3 a4 : Int} (h0 : a0 + a1 + 1 ≤ a2) (h1 : 0 ≤ a1) (h2 : a2 ≤ a3) (h3 : a3 ≤ a4) (h4 : a4 ≤ 2100) : a0 ≤ 4000 := by omega
theorem oz_bf976ee9ac  : (0 : Int) ≤ 4000 := by omega
theorem oz_9a2dd02853  : (0 : Int) ≤ 4 := by omega
theorem oz_bbb5b20c1a {a0 a1 a2 : Int} (h0 : a2 ≤ a1) (h1 : a0 ≤ a2) : a0 ≤ a1 := by omega
theorem oz_dc032a77dd {n0 : Nat}  : (4 * n0 + 13) + 1 ≤ (4 * n0 + 14) := by omega
theorem oz_ef3b614611 {n0 : Nat}  : 8 + (5 + 11) + (200 * n0 + 470) ≤ (200 * n0 + 540) := by omega
theorem oz_178248617f {n0 : Nat}  : 6 + 1 ≤ (4 * n0 + 14) := by omega
theorem oz_70e39588d5 {n0 : Nat}  : 8 + (3 + 11) + 230 ≤ (200 * n0 + 540) := by omega
theorem oz_f9828a4075 {n0 : Nat}  : 1 + 1 ≤ (4 * n0 + 14) := by omega
theorem oz_f0debb13c5 {n0 : Nat}  : 8 + (3 + 11) + 40 ≤ (200 * n0 + 540) := by omega
theorem oz_cd3f3fad86 {n0 : Nat}  : 8 + (4 + 11) + 40 ≤ (200 * n0 + 540) := by omega
theorem oz_3b93307734 {a0 a1 a2 : Int} (h0 : a2 = a1) (h1 : a0 < a2) : a0 < a1 := by omega
theorem oz_5323360a91 {a0 : Int}  : (0 : Int) + a0 + 1 ≤ (a0 + 1) := by omega
theorem oz_a1bc7e1f12 {a0 : Int}  : a0 + 1 ≤ (a0 + 1) := by omega
theorem oz_8cd8185cc8 {a0 a1 : Int} (h0 : a0 < a1) : (a0 + 1) ≤ a1 := by omega
theorem oz_f437a3dc8c {a0 a1 : Int} (h0 : 0 ≤ a1) (h1 : a0 < (0 : Int)) : a0 < a1 := by omega
theorem oz_46b89dfbf6 {a0 : Int} (h0 : 0 ≤ a0) : (-1 : Int) < a0 := by omega
theorem m12_214 : Cond.methodLink "HomeSystemModel$Program" 577 ⟨"HomeSystemModel$Program", "check", "(IZ)I"⟩ ∈ AL := AL_12 (List.mem_of_getElem? (i := 214) rfl) rfl
theorem m12_217 : Cond.code ⟨"HomeSystemModel$Program", "check", "(IZ)I"⟩ prog_16_method_74_code 8 (Option.some FieldType.int) ∈ AL := AL_12 (List.mem_of_getElem? (i := 217) rfl) rfl
theorem ms_12_7 : Cond.selects "HomeSystemModel$Program" ⟨"HomeSystemModel$Program", "check", "(IZ)I"⟩ ⟨"HomeSystemModel$Program", "check", "(IZ)I"⟩ ∈ AL := AL_p (q := (⟨"HomeSystemModel$Program", "check", "(IZ)I"⟩, 69)) (by unfold lw_privs; exact List.mem_append_right _ (List.mem_append_right _ (List.mem_append_right _ (List.mem_append_right _ (List.mem_append_right _ (List.mem_append_right _ (List.mem_append_right _ (List.mem_append_right _ (List.mem_append_right _ (List.mem_append_right _ (List.mem_append_right _ (List.mem_append_left _ (List.mem_of_getElem? (i := 7) rfl)))))))))))))
theorem m12_216 : Cond.instanceMethod ⟨"HomeSystemModel$Program", "check", "(IZ)I"⟩ ∈ AL := AL_12 (List.mem_of_getElem? (i := 216) rfl) rfl
theorem m12_226 : Cond.methodLink "HomeSystemModel$Program" 587 ⟨"HomeSystemModel$Program", "taken", "(III)I"⟩ ∈ AL := AL_12 (List.mem_of_getElem? (i := 226) rfl) rfl
theorem m12_229 : Cond.code ⟨"HomeSystemModel$Program", "taken", "(III)I"⟩ prog_16_method_78_code 6 (Option.some FieldType.int) ∈ AL := AL_12 (List.mem_of_getElem? (i := 229) rfl) rfl
theorem ms_12_10 : Cond.selects "HomeSystemModel$Program" ⟨"HomeSystemModel$Program", "taken", "(III)I"⟩ ⟨"HomeSystemModel$Program", "taken", "(III)I"⟩ ∈ AL := AL_p (q := (⟨"HomeSystemModel$Program", "taken", "(III)I"⟩, 69)) (by unfold lw_privs; exact List.mem_append_right _ (List.mem_append_right _ (List.mem_append_right _ (List.mem_append_right _ (List.mem_append_right _ (List.mem_append_right _ (List.mem_append_right _ (List.mem_append_right _ (List.mem_append_right _ (List.mem_append_right _ (List.mem_append_right _ (List.mem_append_left _ (List.mem_of_getElem? (i := 10) rfl)))))))))))))
theorem m12_228 : Cond.instanceMethod ⟨"HomeSystemModel$Program", "taken", "(III)I"⟩ ∈ AL := AL_12 (List.mem_of_getElem? (i := 228) rfl) rfl
theorem m12_230 : Cond.methodLink "HomeSystemModel$Program" 590 ⟨"HomeSystemModel$Program", "checkArgument", "(II)V"⟩ ∈ AL := AL_12 (List.mem_of_getElem? (i := 230) rfl) rfl
theorem m12_233 : Cond.code ⟨"HomeSystemModel$Program", "checkArgument", "(II)V"⟩ prog_16_method_80_code 5 (Option.none : Option Jvm.ClassFile.FieldType) ∈ AL := AL_12 (List.mem_of_getElem? (i := 233) rfl) rfl
theorem ms_12_11 : Cond.selects "HomeSystemModel$Program" ⟨"HomeSystemModel$Program", "checkArgument", "(II)V"⟩ ⟨"HomeSystemModel$Program", "checkArgument", "(II)V"⟩ ∈ AL := AL_p (q := (⟨"HomeSystemModel$Program", "checkArgument", "(II)V"⟩, 69)) (by unfold lw_privs; exact List.mem_append_right _ (List.mem_append_right _ (List.mem_append_right _ (List.mem_append_right _ (List.mem_append_right _ (List.mem_append_right _ (List.mem_append_right _ (List.mem_append_right _ (List.mem_append_right _ (List.mem_append_right _ (List.mem_append_right _ (List.mem_append_left _ (List.mem_of_getElem? (i := 11) rfl)))))))))))))
theorem m12_232 : Cond.instanceMethod ⟨"HomeSystemModel$Program", "checkArgument", "(II)V"⟩ ∈ AL := AL_12 (List.mem_of_getElem? (i := 232) rfl) rfl
abbrev b_Mpg_check : ByteArray := prog_16_method_74_code
def y_Mpg_check : MethodName := ⟨"HomeSystemModel$Program", "check", "(IZ)I"⟩
theorem d_Mpg_check_0 : decode b_Mpg_check 0 = .ok (.iconst 1, 1) := by decide +kernel
theorem d_Mpg_check_1 : decode b_Mpg_check 1 = .ok (.istore_n 3, 1) := by decide +kernel
theorem d_Mpg_check_2 : decode b_Mpg_check 2 = .ok (.aload_n 0, 1) := by decide +kernel
theorem d_Mpg_check_3 : decode b_Mpg_check 3 = .ok (.getfield 207, 3) := by decide +kernel
theorem d_Mpg_check_6 : decode b_Mpg_check 6 = .ok (.iload_n 1, 1) := by decide +kernel
theorem d_Mpg_check_7 : decode b_Mpg_check 7 = .ok (.baload, 1) := by decide +kernel
theorem d_Mpg_check_8 : decode b_Mpg_check 8 = .ok (.tableswitch 256 1 8 #[48, 51, 60, 69, 89, 153, 181, 217], 48) := by decide +kernel
theorem d_Mpg_check_56 : decode b_Mpg_check 56 = .ok (.goto 245, 3) := by decide +kernel
theorem d_Mpg_check_59 : decode b_Mpg_check 59 = .ok (.aload_n 0, 1) := by decide +kernel
theorem d_Mpg_check_60 : decode b_Mpg_check 60 = .ok (.iload_n 1, 1) := by decide +kernel
theorem d_Mpg_check_61 : decode b_Mpg_check 61 = .ok (.invokevirtual 568, 3) := by decide +kernel
theorem d_Mpg_check_64 : decode b_Mpg_check 64 = .ok (.istore_n 3, 1) := by decide +kernel
theorem d_Mpg_check_65 : decode b_Mpg_check 65 = .ok (.goto 236, 3) := by decide +kernel
theorem d_Mpg_check_68 : decode b_Mpg_check 68 = .ok (.aload_n 0, 1) := by decide +kernel
theorem d_Mpg_check_69 : decode b_Mpg_check 69 = .ok (.iload_n 1, 1) := by decide +kernel
theorem d_Mpg_check_70 : decode b_Mpg_check 70 = .ok (.invokevirtual 571, 3) := by decide +kernel
theorem d_Mpg_check_73 : decode b_Mpg_check 73 = .ok (.istore_n 3, 1) := by decide +kernel
theorem d_Mpg_check_74 : decode b_Mpg_check 74 = .ok (.goto 227, 3) := by decide +kernel
theorem d_Mpg_check_77 : decode b_Mpg_check 77 = .ok (.aload_n 0, 1) := by decide +kernel
theorem d_Mpg_check_78 : decode b_Mpg_check 78 = .ok (.iload_n 1, 1) := by decide +kernel
theorem d_Mpg_check_79 : decode b_Mpg_check 79 = .ok (.invokevirtual 574, 3) := by decide +kernel
theorem d_Mpg_check_82 : decode b_Mpg_check 82 = .ok (.aload_n 0, 1) := by decide +kernel
theorem d_Mpg_check_83 : decode b_Mpg_check 83 = .ok (.aload_n 0, 1) := by decide +kernel
theorem d_Mpg_check_84 : decode b_Mpg_check 84 = .ok (.getfield 216, 3) := by decide +kernel
theorem d_Mpg_check_87 : decode b_Mpg_check 87 = .ok (.iload_n 1, 1) := by decide +kernel
theorem d_Mpg_check_88 : decode b_Mpg_check 88 = .ok (.iaload, 1) := by decide +kernel
theorem d_Mpg_check_89 : decode b_Mpg_check 89 = .ok (.iconst 1, 1) := by decide +kernel
theorem d_Mpg_check_90 : decode b_Mpg_check 90 = .ok (.invokevirtual 577, 3) := by decide +kernel
theorem d_Mpg_check_93 : decode b_Mpg_check 93 = .ok (.pop, 1) := by decide +kernel
theorem d_Mpg_check_94 : decode b_Mpg_check 94 = .ok (.goto 207, 3) := by decide +kernel
theorem d_Mpg_check_97 : decode b_Mpg_check 97 = .ok (.aload_n 0, 1) := by decide +kernel
theorem d_Mpg_check_98 : decode b_Mpg_check 98 = .ok (.getfield 198, 3) := by decide +kernel
theorem d_Mpg_check_101 : decode b_Mpg_check 101 = .ok (.aload_n 0, 1) := by decide +kernel
theorem d_Mpg_check_102 : decode b_Mpg_check 102 = .ok (.getfield 210, 3) := by decide +kernel
theorem d_Mpg_check_105 : decode b_Mpg_check 105 = .ok (.iload_n 1, 1) := by decide +kernel
theorem d_Mpg_check_106 : decode b_Mpg_check 106 = .ok (.iaload, 1) := by decide +kernel
theorem d_Mpg_check_107 : decode b_Mpg_check 107 = .ok (.iaload, 1) := by decide +kernel
theorem d_Mpg_check_108 : decode b_Mpg_check 108 = .ok (.iconst 2, 1) := by decide +kernel
theorem d_Mpg_check_109 : decode b_Mpg_check 109 = .ok (.if_icmp .ne 7, 3) := by decide +kernel
theorem d_Mpg_check_112 : decode b_Mpg_check 112 = .ok (.iconst 1, 1) := by decide +kernel
theorem d_Mpg_check_113 : decode b_Mpg_check 113 = .ok (.goto 4, 3) := by decide +kernel
theorem d_Mpg_check_116 : decode b_Mpg_check 116 = .ok (.iconst 0, 1) := by decide +kernel
theorem d_Mpg_check_117 : decode b_Mpg_check 117 = .ok (.istore 4, 2) := by decide +kernel
theorem d_Mpg_check_119 : decode b_Mpg_check 119 = .ok (.aload_n 0, 1) := by decide +kernel
theorem d_Mpg_check_120 : decode b_Mpg_check 120 = .ok (.aload_n 0, 1) := by decide +kernel
theorem d_Mpg_check_121 : decode b_Mpg_check 121 = .ok (.getfield 216, 3) := by decide +kernel
theorem d_Mpg_check_124 : decode b_Mpg_check 124 = .ok (.iload_n 1, 1) := by decide +kernel
theorem d_Mpg_check_125 : decode b_Mpg_check 125 = .ok (.iaload, 1) := by decide +kernel
theorem d_Mpg_check_126 : decode b_Mpg_check 126 = .ok (.iload 4, 2) := by decide +kernel
theorem d_Mpg_check_128 : decode b_Mpg_check 128 = .ok (.ifCond .ne 7, 3) := by decide +kernel
theorem d_Mpg_check_131 : decode b_Mpg_check 131 = .ok (.iconst 1, 1) := by decide +kernel
theorem d_Mpg_check_132 : decode b_Mpg_check 132 = .ok (.goto 4, 3) := by decide +kernel
theorem d_Mpg_check_135 : decode b_Mpg_check 135 = .ok (.iconst 0, 1) := by decide +kernel
theorem d_Mpg_check_136 : decode b_Mpg_check 136 = .ok (.invokevirtual 577, 3) := by decide +kernel
theorem d_Mpg_check_139 : decode b_Mpg_check 139 = .ok (.istore 5, 2) := by decide +kernel
theorem d_Mpg_check_141 : decode b_Mpg_check 141 = .ok (.iload 4, 2) := by decide +kernel
theorem d_Mpg_check_143 : decode b_Mpg_check 143 = .ok (.ifCond .eq 158, 3) := by decide +kernel
theorem d_Mpg_check_146 : decode b_Mpg_check 146 = .ok (.aload_n 0, 1) := by decide +kernel
theorem d_Mpg_check_147 : decode b_Mpg_check 147 = .ok (.aload_n 0, 1) := by decide +kernel
theorem d_Mpg_check_148 : decode b_Mpg_check 148 = .ok (.getfield 216, 3) := by decide +kernel
theorem d_Mpg_check_151 : decode b_Mpg_check 151 = .ok (.iload_n 1, 1) := by decide +kernel
theorem d_Mpg_check_152 : decode b_Mpg_check 152 = .ok (.iaload, 1) := by decide +kernel
theorem d_Mpg_check_153 : decode b_Mpg_check 153 = .ok (.iload 5, 2) := by decide +kernel
theorem d_Mpg_check_155 : decode b_Mpg_check 155 = .ok (.invokevirtual 581, 3) := by decide +kernel
theorem d_Mpg_check_158 : decode b_Mpg_check 158 = .ok (.goto 143, 3) := by decide +kernel
theorem d_Mpg_check_161 : decode b_Mpg_check 161 = .ok (.aload_n 0, 1) := by decide +kernel
theorem d_Mpg_check_162 : decode b_Mpg_check 162 = .ok (.aload_n 0, 1) := by decide +kernel
theorem d_Mpg_check_163 : decode b_Mpg_check 163 = .ok (.getfield 216, 3) := by decide +kernel
theorem d_Mpg_check_166 : decode b_Mpg_check 166 = .ok (.iload_n 1, 1) := by decide +kernel
theorem d_Mpg_check_167 : decode b_Mpg_check 167 = .ok (.iaload, 1) := by decide +kernel
theorem d_Mpg_check_168 : decode b_Mpg_check 168 = .ok (.iconst 0, 1) := by decide +kernel
theorem d_Mpg_check_169 : decode b_Mpg_check 169 = .ok (.invokevirtual 577, 3) := by decide +kernel
theorem d_Mpg_check_172 : decode b_Mpg_check 172 = .ok (.istore 6, 2) := by decide +kernel
theorem d_Mpg_check_174 : decode b_Mpg_check 174 = .ok (.aload_n 0, 1) := by decide +kernel
theorem d_Mpg_check_175 : decode b_Mpg_check 175 = .ok (.aload_n 0, 1) := by decide +kernel
theorem d_Mpg_check_176 : decode b_Mpg_check 176 = .ok (.getfield 216, 3) := by decide +kernel
theorem d_Mpg_check_179 : decode b_Mpg_check 179 = .ok (.iload_n 1, 1) := by decide +kernel
theorem d_Mpg_check_180 : decode b_Mpg_check 180 = .ok (.iaload, 1) := by decide +kernel
theorem d_Mpg_check_181 : decode b_Mpg_check 181 = .ok (.iload 6, 2) := by decide +kernel
theorem d_Mpg_check_183 : decode b_Mpg_check 183 = .ok (.invokevirtual 581, 3) := by decide +kernel
theorem d_Mpg_check_186 : decode b_Mpg_check 186 = .ok (.goto 115, 3) := by decide +kernel
theorem d_Mpg_check_189 : decode b_Mpg_check 189 = .ok (.aload_n 0, 1) := by decide +kernel
theorem d_Mpg_check_190 : decode b_Mpg_check 190 = .ok (.getfield 216, 3) := by decide +kernel
theorem d_Mpg_check_193 : decode b_Mpg_check 193 = .ok (.iload_n 1, 1) := by decide +kernel
theorem d_Mpg_check_194 : decode b_Mpg_check 194 = .ok (.iaload, 1) := by decide +kernel
theorem d_Mpg_check_195 : decode b_Mpg_check 195 = .ok (.istore 7, 2) := by decide +kernel
theorem d_Mpg_check_197 : decode b_Mpg_check 197 = .ok (.iload 7, 2) := by decide +kernel
theorem d_Mpg_check_199 : decode b_Mpg_check 199 = .ok (.ifCond .lt 23, 3) := by decide +kernel
theorem d_Mpg_check_202 : decode b_Mpg_check 202 = .ok (.aload_n 0, 1) := by decide +kernel
theorem d_Mpg_check_203 : decode b_Mpg_check 203 = .ok (.iload 7, 2) := by decide +kernel
theorem d_Mpg_check_205 : decode b_Mpg_check 205 = .ok (.iconst 1, 1) := by decide +kernel
theorem d_Mpg_check_206 : decode b_Mpg_check 206 = .ok (.invokevirtual 577, 3) := by decide +kernel
theorem d_Mpg_check_209 : decode b_Mpg_check 209 = .ok (.pop, 1) := by decide +kernel
theorem d_Mpg_check_210 : decode b_Mpg_check 210 = .ok (.aload_n 0, 1) := by decide +kernel
theorem d_Mpg_check_211 : decode b_Mpg_check 211 = .ok (.getfield 228, 3) := by decide +kernel
theorem d_Mpg_check_214 : decode b_Mpg_check 214 = .ok (.iload 7, 2) := by decide +kernel
theorem d_Mpg_check_216 : decode b_Mpg_check 216 = .ok (.iaload, 1) := by decide +kernel
theorem d_Mpg_check_217 : decode b_Mpg_check 217 = .ok (.istore 7, 2) := by decide +kernel
theorem d_Mpg_check_219 : decode b_Mpg_check 219 = .ok (.goto (-22), 3) := by decide +kernel
theorem d_Mpg_check_222 : decode b_Mpg_check 222 = .ok (.goto 79, 3) := by decide +kernel
theorem d_Mpg_check_225 : decode b_Mpg_check 225 = .ok (.aload_n 0, 1) := by decide +kernel
theorem d_Mpg_check_226 : decode b_Mpg_check 226 = .ok (.aload_n 0, 1) := by decide +kernel
theorem d_Mpg_check_227 : decode b_Mpg_check 227 = .ok (.getfield 216, 3) := by decide +kernel
theorem d_Mpg_check_230 : decode b_Mpg_check 230 = .ok (.iload_n 1, 1) := by decide +kernel
theorem d_Mpg_check_231 : decode b_Mpg_check 231 = .ok (.iaload, 1) := by decide +kernel
theorem d_Mpg_check_232 : decode b_Mpg_check 232 = .ok (.iconst 1, 1) := by decide +kernel
theorem d_Mpg_check_233 : decode b_Mpg_check 233 = .ok (.invokevirtual 577, 3) := by decide +kernel
theorem d_Mpg_check_236 : decode b_Mpg_check 236 = .ok (.pop, 1) := by decide +kernel
theorem d_Mpg_check_237 : decode b_Mpg_check 237 = .ok (.aload_n 0, 1) := by decide +kernel
theorem d_Mpg_check_238 : decode b_Mpg_check 238 = .ok (.aload_n 0, 1) := by decide +kernel
theorem d_Mpg_check_239 : decode b_Mpg_check 239 = .ok (.getfield 219, 3) := by decide +kernel
theorem d_Mpg_check_242 : decode b_Mpg_check 242 = .ok (.iload_n 1, 1) := by decide +kernel
theorem d_Mpg_check_243 : decode b_Mpg_check 243 = .ok (.iaload, 1) := by decide +kernel
theorem d_Mpg_check_244 : decode b_Mpg_check 244 = .ok (.iconst 1, 1) := by decide +kernel
theorem d_Mpg_check_245 : decode b_Mpg_check 245 = .ok (.invokevirtual 577, 3) := by decide +kernel
theorem d_Mpg_check_248 : decode b_Mpg_check 248 = .ok (.pop, 1) := by decide +kernel
theorem d_Mpg_check_249 : decode b_Mpg_check 249 = .ok (.aload_n 0, 1) := by decide +kernel
theorem d_Mpg_check_250 : decode b_Mpg_check 250 = .ok (.aload_n 0, 1) := by decide +kernel
theorem d_Mpg_check_251 : decode b_Mpg_check 251 = .ok (.getfield 222, 3) := by decide +kernel
theorem d_Mpg_check_254 : decode b_Mpg_check 254 = .ok (.iload_n 1, 1) := by decide +kernel
theorem d_Mpg_check_255 : decode b_Mpg_check 255 = .ok (.iaload, 1) := by decide +kernel
theorem d_Mpg_check_256 : decode b_Mpg_check 256 = .ok (.iconst 1, 1) := by decide +kernel
theorem d_Mpg_check_257 : decode b_Mpg_check 257 = .ok (.invokevirtual 577, 3) := by decide +kernel
theorem d_Mpg_check_260 : decode b_Mpg_check 260 = .ok (.pop, 1) := by decide +kernel
theorem d_Mpg_check_261 : decode b_Mpg_check 261 = .ok (.goto 40, 3) := by decide +kernel
theorem d_Mpg_check_264 : decode b_Mpg_check 264 = .ok (.aload_n 0, 1) := by decide +kernel
theorem d_Mpg_check_265 : decode b_Mpg_check 265 = .ok (.aload_n 0, 1) := by decide +kernel
theorem d_Mpg_check_266 : decode b_Mpg_check 266 = .ok (.getfield 216, 3) := by decide +kernel
theorem d_Mpg_check_269 : decode b_Mpg_check 269 = .ok (.iload_n 1, 1) := by decide +kernel
theorem d_Mpg_check_270 : decode b_Mpg_check 270 = .ok (.iaload, 1) := by decide +kernel
theorem d_Mpg_check_271 : decode b_Mpg_check 271 = .ok (.iconst 0, 1) := by decide +kernel
theorem d_Mpg_check_272 : decode b_Mpg_check 272 = .ok (.invokevirtual 577, 3) := by decide +kernel
theorem d_Mpg_check_275 : decode b_Mpg_check 275 = .ok (.istore 7, 2) := by decide +kernel
theorem d_Mpg_check_277 : decode b_Mpg_check 277 = .ok (.aload_n 0, 1) := by decide +kernel
theorem d_Mpg_check_278 : decode b_Mpg_check 278 = .ok (.aload_n 0, 1) := by decide +kernel
theorem d_Mpg_check_279 : decode b_Mpg_check 279 = .ok (.getfield 216, 3) := by decide +kernel
theorem d_Mpg_check_282 : decode b_Mpg_check 282 = .ok (.iload_n 1, 1) := by decide +kernel
theorem d_Mpg_check_283 : decode b_Mpg_check 283 = .ok (.iaload, 1) := by decide +kernel
theorem d_Mpg_check_284 : decode b_Mpg_check 284 = .ok (.iload 7, 2) := by decide +kernel
theorem d_Mpg_check_286 : decode b_Mpg_check 286 = .ok (.invokevirtual 581, 3) := by decide +kernel
theorem d_Mpg_check_289 : decode b_Mpg_check 289 = .ok (.aload_n 0, 1) := by decide +kernel
theorem d_Mpg_check_290 : decode b_Mpg_check 290 = .ok (.aload_n 0, 1) := by decide +kernel
theorem d_Mpg_check_291 : decode b_Mpg_check 291 = .ok (.getfield 219, 3) := by decide +kernel
theorem d_Mpg_check_294 : decode b_Mpg_check 294 = .ok (.iload_n 1, 1) := by decide +kernel
theorem d_Mpg_check_295 : decode b_Mpg_check 295 = .ok (.iaload, 1) := by decide +kernel
theorem d_Mpg_check_296 : decode b_Mpg_check 296 = .ok (.iconst 1, 1) := by decide +kernel
theorem d_Mpg_check_297 : decode b_Mpg_check 297 = .ok (.invokevirtual 577, 3) := by decide +kernel
theorem d_Mpg_check_300 : decode b_Mpg_check 300 = .ok (.pop, 1) := by decide +kernel
theorem d_Mpg_check_301 : decode b_Mpg_check 301 = .ok (.iload_n 2, 1) := by decide +kernel
theorem d_Mpg_check_302 : decode b_Mpg_check 302 = .ok (.ifCond .eq 26, 3) := by decide +kernel
theorem d_Mpg_check_305 : decode b_Mpg_check 305 = .ok (.iload_n 3, 1) := by decide +kernel
theorem d_Mpg_check_306 : decode b_Mpg_check 306 = .ok (.iconst 2, 1) := by decide +kernel
theorem d_Mpg_check_307 : decode b_Mpg_check 307 = .ok (.if_icmp .eq 8, 3) := by decide +kernel
theorem d_Mpg_check_310 : decode b_Mpg_check 310 = .ok (.iload_n 3, 1) := by decide +kernel
theorem d_Mpg_check_311 : decode b_Mpg_check 311 = .ok (.iconst 3, 1) := by decide +kernel
theorem d_Mpg_check_312 : decode b_Mpg_check 312 = .ok (.if_icmp .ne 16, 3) := by decide +kernel
theorem d_Mpg_check_315 : decode b_Mpg_check 315 = .ok (.aload_n 0, 1) := by decide +kernel
theorem d_Mpg_check_316 : decode b_Mpg_check 316 = .ok (.iconst 3, 1) := by decide +kernel
theorem d_Mpg_check_317 : decode b_Mpg_check 317 = .ok (.aload_n 0, 1) := by decide +kernel
theorem d_Mpg_check_318 : decode b_Mpg_check 318 = .ok (.iload_n 1, 1) := by decide +kernel
theorem d_Mpg_check_319 : decode b_Mpg_check 319 = .ok (.invokevirtual 584, 3) := by decide +kernel
theorem d_Mpg_check_322 : decode b_Mpg_check 322 = .ok (.invokevirtual 565, 3) := by decide +kernel
theorem d_Mpg_check_325 : decode b_Mpg_check 325 = .ok (.goto 23, 3) := by decide +kernel
theorem d_Mpg_check_328 : decode b_Mpg_check 328 = .ok (.iload_n 2, 1) := by decide +kernel
theorem d_Mpg_check_329 : decode b_Mpg_check 329 = .ok (.ifCond .eq 19, 3) := by decide +kernel
theorem d_Mpg_check_332 : decode b_Mpg_check 332 = .ok (.iload_n 3, 1) := by decide +kernel
theorem d_Mpg_check_333 : decode b_Mpg_check 333 = .ok (.iconst 4, 1) := by decide +kernel
theorem d_Mpg_check_334 : decode b_Mpg_check 334 = .ok (.if_icmp .ne 14, 3) := by decide +kernel
theorem d_Mpg_check_337 : decode b_Mpg_check 337 = .ok (.aload_n 0, 1) := by decide +kernel
theorem d_Mpg_check_338 : decode b_Mpg_check 338 = .ok (.iconst 5, 1) := by decide +kernel
theorem d_Mpg_check_339 : decode b_Mpg_check 339 = .ok (.aload_n 0, 1) := by decide +kernel
theorem d_Mpg_check_340 : decode b_Mpg_check 340 = .ok (.getfield 210, 3) := by decide +kernel
theorem d_Mpg_check_343 : decode b_Mpg_check 343 = .ok (.iload_n 1, 1) := by decide +kernel
theorem d_Mpg_check_344 : decode b_Mpg_check 344 = .ok (.iaload, 1) := by decide +kernel
theorem d_Mpg_check_345 : decode b_Mpg_check 345 = .ok (.invokevirtual 565, 3) := by decide +kernel
theorem d_Mpg_check_348 : decode b_Mpg_check 348 = .ok (.iload_n 3, 1) := by decide +kernel
theorem d_Mpg_check_349 : decode b_Mpg_check 349 = .ok (.ireturn, 1) := by decide +kernel
theorem q_Mpg_check : px_y y_Mpg_check 2 := by unfold px_y; decide +kernel
def ChkC (l : Launch) (D : va_G) (cs : Nat → ClassId) (d : Nat) : Prop := ∀ (ma0 : Nat → Nat → Int32) (ys : Int) (ns : Int) (nf : Int) (kn : Int) (lo : Int) (hi : Int) (h : Nat) (r : Nat → Nat) (g : Nat → Nat → Option Nat) (tf : Nat → Int32) (ta : Nat → Nat → Int32) (pf : Nat → Int32) (na : Nat → Nat → Int32) (wa : Nat → Nat → Int32) (ca : Nat → Nat → Int32) (ef : Nat → Int32) (ea : Nat → Nat → Int32) (xf : Nat → Int32) (xa : Nat → Nat → Int32) (ma : Nat → Nat → Int32) (cf : Nat → Int32) (p0 p1 : Int32)  (g0 : 0 ≤ lo) (g1 : hi ≤ (pf 13).toInt) (g2 : (pf 13).toInt ≤ 2100) (g3 : (tf 6).toInt ≤ 2049) (g4 : (cf 33).toInt = kn) (g5 : 0 ≤ kn) (g6 : (cf 48).toInt = ns) (g7 : (cf 38).toInt = nf) (g8 : 0 ≤ nf) (g9 : 0 ≤ p1.toInt) (g10 : p1.toInt ≤ 1) (htk : TkI tf ta) (hfs : FsI (tf 6).toInt (pf 13).toInt na) (hwr : WrV cf (tf 6).toInt) (hkt : KnT (tf 6).toInt ca (cf 33).toInt) (hft : FnT (tf 6).toInt na ca (cf 38).toInt) (hks : KnS ca kn ns ys) (hfp : FnP na ca nf) (han : Ann na ma0 ma) (hec : EcV ta (tf 6).toInt na ma0 d lo hi p0), MetI l y_Mpg_check b_Mpg_check 8 (.int) D cs (4 * d + 12) (200 * d + 420) (0) (0) [.ref h, .int p0, .int p1] [wdP cs h r g tf ta pf na ma wa cf ca ef ea xf xa] (oX (fun A U H => (oP A g U H)) [wdP cs h r g tf ta pf na ma wa cf ca ef ea xf xa]) (fun v ps => ∃ (ma' : Nat → Nat → Int32) (cf' : Nat → Int32), (ps = [wdP cs h r g tf ta pf na ma' wa cf' ca ef ea xf xa]) ∧ (KpE cf cf') ∧ (WrV cf' (tf 6).toInt) ∧ ((cf' 33).toInt = (cf 33).toInt) ∧ ((cf' 38).toInt = (cf 38).toInt) ∧ ((cf' 48).toInt = (cf 48).toInt) ∧ ((cf' 46).toInt = (cf 46).toInt) ∧ ((cf' 47).toInt = (cf 47).toInt) ∧ ((cf' 57).toInt = (cf 57).toInt) ∧ (Ann na ma0 ma') ∧ (FrC lo hi ma ma') ∧ (0 ≤ v.toInt) ∧ (v.toInt ≤ 4) ∧ (NmJ ta ca na ma' kn p0 v.toInt) ∧ (ZTy cf' (Gk ta ca na ma0 ns ys nf) na ma' lo hi p0 v.toInt) ∧ (ZNm cf' p1.toInt v.toInt) ∧ (RL_mp_check d tf ta na ca p0 p1 ma cf ma' cf' v))
abbrev b_Mpg_checkArgument : ByteArray := prog_16_method_80_code
def y_Mpg_checkArgument : MethodName := ⟨"HomeSystemModel$Program", "checkArgument", "(II)V"⟩
theorem d_Mpg_checkArgument_0 : decode b_Mpg_checkArgument 0 = .ok (.iload_n 2, 1) := by decide +kernel
theorem d_Mpg_checkArgument_1 : decode b_Mpg_checkArgument 1 = .ok (.bipush 105, 2) := by decide +kernel
theorem d_Mpg_checkArgument_3 : decode b_Mpg_checkArgument 3 = .ok (.if_icmp .ne 13, 3) := by decide +kernel
theorem d_Mpg_checkArgument_6 : decode b_Mpg_checkArgument 6 = .ok (.aload_n 0, 1) := by decide +kernel
theorem d_Mpg_checkArgument_7 : decode b_Mpg_checkArgument 7 = .ok (.iload_n 1, 1) := by decide +kernel
theorem d_Mpg_checkArgument_8 : decode b_Mpg_checkArgument 8 = .ok (.iconst 1, 1) := by decide +kernel
theorem d_Mpg_checkArgument_9 : decode b_Mpg_checkArgument 9 = .ok (.invokevirtual 577, 3) := by decide +kernel
theorem d_Mpg_checkArgument_12 : decode b_Mpg_checkArgument 12 = .ok (.pop, 1) := by decide +kernel
theorem d_Mpg_checkArgument_13 : decode b_Mpg_checkArgument 13 = .ok (.goto 79, 3) := by decide +kernel
theorem d_Mpg_checkArgument_16 : decode b_Mpg_checkArgument 16 = .ok (.iload_n 2, 1) := by decide +kernel
theorem d_Mpg_checkArgument_17 : decode b_Mpg_checkArgument 17 = .ok (.bipush 107, 2) := by decide +kernel
theorem d_Mpg_checkArgument_19 : decode b_Mpg_checkArgument 19 = .ok (.if_icmp .ne 12, 3) := by decide +kernel
theorem d_Mpg_checkArgument_22 : decode b_Mpg_checkArgument 22 = .ok (.aload_n 0, 1) := by decide +kernel
theorem d_Mpg_checkArgument_23 : decode b_Mpg_checkArgument 23 = .ok (.iload_n 1, 1) := by decide +kernel
theorem d_Mpg_checkArgument_24 : decode b_Mpg_checkArgument 24 = .ok (.invokevirtual 593, 3) := by decide +kernel
theorem d_Mpg_checkArgument_27 : decode b_Mpg_checkArgument 27 = .ok (.pop, 1) := by decide +kernel
theorem d_Mpg_checkArgument_28 : decode b_Mpg_checkArgument 28 = .ok (.goto 64, 3) := by decide +kernel
theorem d_Mpg_checkArgument_31 : decode b_Mpg_checkArgument 31 = .ok (.aload_n 0, 1) := by decide +kernel
theorem d_Mpg_checkArgument_32 : decode b_Mpg_checkArgument 32 = .ok (.iload_n 1, 1) := by decide +kernel
theorem d_Mpg_checkArgument_33 : decode b_Mpg_checkArgument 33 = .ok (.iconst 0, 1) := by decide +kernel
theorem d_Mpg_checkArgument_34 : decode b_Mpg_checkArgument 34 = .ok (.invokevirtual 577, 3) := by decide +kernel
theorem d_Mpg_checkArgument_37 : decode b_Mpg_checkArgument 37 = .ok (.istore_n 3, 1) := by decide +kernel
theorem d_Mpg_checkArgument_38 : decode b_Mpg_checkArgument 38 = .ok (.iload_n 2, 1) := by decide +kernel
theorem d_Mpg_checkArgument_39 : decode b_Mpg_checkArgument 39 = .ok (.bipush 32, 2) := by decide +kernel
theorem d_Mpg_checkArgument_41 : decode b_Mpg_checkArgument 41 = .ok (.if_icmp .eq 29, 3) := by decide +kernel
theorem d_Mpg_checkArgument_44 : decode b_Mpg_checkArgument 44 = .ok (.iload_n 3, 1) := by decide +kernel
theorem d_Mpg_checkArgument_45 : decode b_Mpg_checkArgument 45 = .ok (.ifCond .eq 25, 3) := by decide +kernel
theorem d_Mpg_checkArgument_48 : decode b_Mpg_checkArgument 48 = .ok (.iload_n 3, 1) := by decide +kernel
theorem d_Mpg_checkArgument_49 : decode b_Mpg_checkArgument 49 = .ok (.iconst 2, 1) := by decide +kernel
theorem d_Mpg_checkArgument_50 : decode b_Mpg_checkArgument 50 = .ok (.if_icmp .ne 9, 3) := by decide +kernel
theorem d_Mpg_checkArgument_53 : decode b_Mpg_checkArgument 53 = .ok (.iload_n 2, 1) := by decide +kernel
theorem d_Mpg_checkArgument_54 : decode b_Mpg_checkArgument 54 = .ok (.bipush 99, 2) := by decide +kernel
theorem d_Mpg_checkArgument_56 : decode b_Mpg_checkArgument 56 = .ok (.if_icmp .ne 14, 3) := by decide +kernel
theorem d_Mpg_checkArgument_59 : decode b_Mpg_checkArgument 59 = .ok (.iload_n 3, 1) := by decide +kernel
theorem d_Mpg_checkArgument_60 : decode b_Mpg_checkArgument 60 = .ok (.iconst 3, 1) := by decide +kernel
theorem d_Mpg_checkArgument_61 : decode b_Mpg_checkArgument 61 = .ok (.if_icmp .ne 13, 3) := by decide +kernel
theorem d_Mpg_checkArgument_64 : decode b_Mpg_checkArgument 64 = .ok (.iload_n 2, 1) := by decide +kernel
theorem d_Mpg_checkArgument_65 : decode b_Mpg_checkArgument 65 = .ok (.bipush 115, 2) := by decide +kernel
theorem d_Mpg_checkArgument_67 : decode b_Mpg_checkArgument 67 = .ok (.if_icmp .eq 7, 3) := by decide +kernel
theorem d_Mpg_checkArgument_70 : decode b_Mpg_checkArgument 70 = .ok (.iconst 1, 1) := by decide +kernel
theorem d_Mpg_checkArgument_71 : decode b_Mpg_checkArgument 71 = .ok (.goto 4, 3) := by decide +kernel
theorem d_Mpg_checkArgument_74 : decode b_Mpg_checkArgument 74 = .ok (.iconst 0, 1) := by decide +kernel
theorem d_Mpg_checkArgument_75 : decode b_Mpg_checkArgument 75 = .ok (.istore 4, 2) := by decide +kernel
theorem d_Mpg_checkArgument_77 : decode b_Mpg_checkArgument 77 = .ok (.iload 4, 2) := by decide +kernel
theorem d_Mpg_checkArgument_79 : decode b_Mpg_checkArgument 79 = .ok (.ifCond .ne 13, 3) := by decide +kernel
theorem d_Mpg_checkArgument_82 : decode b_Mpg_checkArgument 82 = .ok (.aload_n 0, 1) := by decide +kernel
theorem d_Mpg_checkArgument_83 : decode b_Mpg_checkArgument 83 = .ok (.iconst 3, 1) := by decide +kernel
theorem d_Mpg_checkArgument_84 : decode b_Mpg_checkArgument 84 = .ok (.aload_n 0, 1) := by decide +kernel
theorem d_Mpg_checkArgument_85 : decode b_Mpg_checkArgument 85 = .ok (.iload_n 1, 1) := by decide +kernel
theorem d_Mpg_checkArgument_86 : decode b_Mpg_checkArgument 86 = .ok (.invokevirtual 584, 3) := by decide +kernel
theorem d_Mpg_checkArgument_89 : decode b_Mpg_checkArgument 89 = .ok (.invokevirtual 565, 3) := by decide +kernel
theorem d_Mpg_checkArgument_92 : decode b_Mpg_checkArgument 92 = .ok (.return_, 1) := by decide +kernel
theorem q_Mpg_checkArgument : px_y y_Mpg_checkArgument 2 := by unfold px_y; decide +kernel
set_option maxHeartbeats 4000000 in
set_option maxRecDepth 100000 in
theorem c_mp_checkArgument (l : Launch) (D : va_G) (cs : Nat → ClassId) (ma0 : Nat → Nat → Int32) (ys : Int) (ns : Int) (nf : Int) (kn : Int) (d : Nat) (lo : Int) (hi : Int) (h : Nat) (r : Nat → Nat) (g : Nat → Nat → Option Nat) (tf : Nat → Int32) (ta : Nat → Nat → Int32) (pf : Nat → Int32) (na : Nat → Nat → Int32) (wa : Nat → Nat → Int32) (ca : Nat → Nat → Int32) (ef : Nat → Int32) (ea : Nat → Nat → Int32) (xf : Nat → Int32) (xa : Nat → Nat → Int32) (ma : Nat → Nat → Int32) (cf : Nat → Int32) (p0 p1 : Int32)  (g0 : 0 ≤ lo) (g1 : hi ≤ (pf 13).toInt) (g2 : (pf 13).toInt ≤ 2100) (g3 : (tf 6).toInt ≤ 2049) (g4 : (cf 33).toInt = kn) (g5 : 0 ≤ kn) (g6 : (cf 48).toInt = ns) (g7 : (cf 38).toInt = nf) (g8 : 0 ≤ nf) (g9 : p1.toInt = 32 ∨ p1.toInt = 105 ∨ p1.toInt = 115 ∨ p1.toInt = 97 ∨ p1.toInt = 99) (htk : TkI tf ta) (hfs : FsI (tf 6).toInt (pf 13).toInt na) (hwr : WrV cf (tf 6).toInt) (hkt : KnT (tf 6).toInt ca (cf 33).toInt) (hft : FnT (tf 6).toInt na ca (cf 38).toInt) (hks : KnS ca kn ns ys) (hfp : FnP na ca nf) (han : Ann na ma0 ma) (hec : EcV ta (tf 6).toInt na ma0 d lo hi p0) (hLC : ChkC l D cs d) : MetV l y_Mpg_checkArgument b_Mpg_checkArgument 5 D cs (4 * d + 13) (200 * d + 470) (0) (0) [.ref h, .int p0, .int p1] [wdP cs h r g tf ta pf na ma wa cf ca ef ea xf xa] (oX (fun A U H => (oP A g U H)) [wdP cs h r g tf ta pf na ma wa cf ca ef ea xf xa]) (fun ps => ∃ (ma' : Nat → Nat → Int32) (cf' : Nat → Int32), (ps = [wdP cs h r g tf ta pf na ma' wa cf' ca ef ea xf xa]) ∧ (KpE cf cf') ∧ (WrV cf' (tf 6).toInt) ∧ ((cf' 33).toInt = (cf 33).toInt) ∧ ((cf' 38).toInt = (cf 38).toInt) ∧ ((cf' 48).toInt = (cf 48).toInt) ∧ ((cf' 46).toInt = (cf 46).toInt) ∧ ((cf' 47).toInt = (cf 47).toInt) ∧ ((cf' 57).toInt = (cf 57).toInt) ∧ (Ann na ma0 ma') ∧ (FrC lo hi ma ma') ∧ (ZAr cf' (Gk ta ca na ma0 ns ys nf) na ma' lo hi p0 p1.toInt) ∧ (R_mp_checkArgument (RL_mp_check d) tf ta na ca p0 p1 ma cf ma' cf')) := by
  refine px_enter (by decide) (Nat.le_of_ble_eq_true rfl) ?_
  intro p e s m below meth c A ls hAe S hr hlk hnm hA hT hX hw hl
  have hl : lv_has ls 5 [(0, .ref h), (1, .int p0), (2, .int p1)] := hl
  have lp0 := Int32.le_toInt p0
  have up0 := Int32.toInt_lt p0
  have lp1 := Int32.le_toInt p1
  have up1 := Int32.toInt_lt p1
  have cst0 : (0 : Int32).toInt = 0 := rfl
  have cst1 : (1 : Int32).toInt = 1 := rfl
  have cst2 : (2 : Int32).toInt = 2 := rfl
  have cst3 : (3 : Int32).toInt = 3 := rfl
  have cst32 : (32 : Int32).toInt = 32 := rfl
  have cst99 : (99 : Int32).toInt = 99 := rfl
  have cst105 : (105 : Int32).toInt = 105 := rfl
  have cst107 : (107 : Int32).toInt = 107 := rfl
  have cst115 : (115 : Int32).toInt = 115 := rfl
  have hX : (fun A U H => (oP A g U H)) A s s.heap := by rw [hAe]; exact hX
  have hP := hX
  have hZ := hP.1
  have hF0 := hP.2.1
  have hke : KpE cf cf := KpE.rf
  have hfc : FrC lo hi ma ma := FrC.rf
  have hwr0 := hwr.1
  have hk11 := hkt.1
  have hf11 := hft.1
  have hec_p0 := hec
  have hrg := EcV.rng hec
  refine lv_iload_n S.x S.b d_Mpg_checkArgument_0 rfl (lv_at hl 2 rfl) ?_
  refine lv_bipush (v := 105) S.x S.b d_Mpg_checkArgument_1 (by decide) ?_
  refine lv_icmp_ne (tgt := 16) S.x S.b d_Mpg_checkArgument_3 (by decide) (fun c1 => ?_) (fun c1 => ?_)
  · have nc1 : ¬ p1.toInt = (105 : Int) := mt (i_eq (x := p1) (y := 105)).mpr c1
    refine lv_iload_n S.x S.b d_Mpg_checkArgument_16 rfl (lv_at hl 2 rfl) ?_
    refine lv_bipush (v := 107) S.x S.b d_Mpg_checkArgument_17 (by decide) ?_
    refine lv_icmp_ne (tgt := 31) S.x S.b d_Mpg_checkArgument_19 (by decide) (fun c3 => ?_) (fun c3 => ?_)
    · have nc3 : ¬ p1.toInt = (107 : Int) := mt (i_eq (x := p1) (y := 107)).mpr c3
      refine lv_aload_n S.x S.b d_Mpg_checkArgument_31 rfl (lv_at hl 0 rfl) ?_
      refine lv_iload_n S.x S.b d_Mpg_checkArgument_32 rfl (lv_at hl 1 rfl) ?_
      refine lv_iconst (v := 0) S.x S.b d_Mpg_checkArgument_33 (by decide) ?_
      first | refine px_calli (pr := []) (px_runV (As := [.int p0, .int 0]) (rest := []) S (hLC ma0 ys ns nf kn lo hi h r g tf ta pf na wa ca ef ea xf xa ma cf p0 0 (show 0 ≤ lo from g0) (show hi ≤ (pf 13).toInt from g1) (show (pf 13).toInt ≤ 2100 from g2) (show (tf 6).toInt ≤ 2049 from g3) (show (cf 33).toInt = kn from g4) (show 0 ≤ kn from g5) (show (cf 48).toInt = ns from g6) (show (cf 38).toInt = nf from g7) (show 0 ≤ nf from g8) (show 0 ≤ (0 : Int) from oz_5a341f00aa) (show (0 : Int) ≤ 1 from oz_6e68cd0f48) htk (FsI.le (N' := (pf 13).toInt) hfs (by omega)) hwr (KnT.eq hkt (by omega)) (FnT.eq hft (by omega)) hks hfp han hec_p0 _) hT (pr := []) (pcs := [wdP cs h r g tf ta pf na ma wa cf ca ef ea xf xa]) hw (oX_call (P := (fun A U H => (oP A g U H))) (pr := []) oG_P hw hA hP) (px_recv hT hw 0 0 rfl rfl rfl) m12_217 m12_214 m12_216 ms_12_7 m1_21 q_Mpg_check ⟨show (4 * d + 12) + 1 ≤ (4 * d + 13) from (oz_8797106de7), show 8 + (8 + 11) + (200 * d + 420) ≤ (200 * d + 470) from (oz_0b8056306d)⟩ hl.1 rfl (Nat.le_of_ble_eq_true rfl) d_Mpg_checkArgument_34 ⟨Nat.le_of_ble_eq_true rfl, Nat.le_of_ble_eq_true rfl⟩) hw hA (fun v10 p9 H locs hp9 hw => ?_) | (refine px_calli (pr := []) (px_runV (As := [.int p0, .int 0]) (rest := []) S (hLC ma0 ys ns nf kn lo hi h r g tf ta pf na wa ca ef ea xf xa ma cf p0 0 (show 0 ≤ lo from by first | exact g0 | omega) (show hi ≤ (pf 13).toInt from by first | exact g1 | omega) (show (pf 13).toInt ≤ 2100 from by first | exact g2 | omega) (show (tf 6).toInt ≤ 2049 from by first | exact g3 | omega) (show (cf 33).toInt = kn from by first | exact g4 | omega) (show 0 ≤ kn from by first | exact g5 | omega) (show (cf 48).toInt = ns from by first | exact g6 | omega) (show (cf 38).toInt = nf from by first | exact g7 | omega) (show 0 ≤ nf from by first | exact g8 | omega) (show 0 ≤ (0 : Int) from by first | exact oz_5a341f00aa | omega) (show (0 : Int) ≤ 1 from by first | exact oz_6e68cd0f48 | omega) htk (FsI.le (N' := (pf 13).toInt) hfs (by omega)) hwr (KnT.eq hkt (by omega)) (FnT.eq hft (by omega)) hks hfp han hec_p0 _) hT (pr := []) (pcs := [wdP cs h r g tf ta pf na ma wa cf ca ef ea xf xa]) hw (oX_call (P := (fun A U H => (oP A g U H))) (pr := []) oG_P hw hA hP) (px_recv hT hw 0 0 rfl rfl rfl) m12_217 m12_214 m12_216 ms_12_7 m1_21 q_Mpg_check ⟨show (4 * d + 12) + 1 ≤ (4 * d + 13) from (by first | exact oz_8797106de7 | omega), show 8 + (8 + 11) + (200 * d + 420) ≤ (200 * d + 470) from (by first | exact oz_0b8056306d | omega)⟩ hl.1 rfl (Nat.le_of_ble_eq_true rfl) d_Mpg_checkArgument_34 ⟨Nat.le_of_ble_eq_true rfl, Nat.le_of_ble_eq_true rfl⟩) hw hA (fun v10 p9 H locs hp9 hw => ?_))
      obtain ⟨ma7, cf8, rfl, e11, e12, e13, e14, e15, e16, e17, e18, e19, e20, e21, e22, e23, e24, e25, e26⟩ := hp9
      have e11 : KpE cf cf8 := e11
      have hke := (hke).tr e11
      have hkz_e11 := e11.2
      have e12 : WrV cf8 (tf 6).toInt := e12
      have hwr := e12
      have hw0_e12 := hwr.1
      have e13 : (cf8 33).toInt = (cf 33).toInt := e13
      have e14 : (cf8 38).toInt = (cf 38).toInt := e14
      have e15 : (cf8 48).toInt = (cf 48).toInt := e15
      have e16 : (cf8 46).toInt = (cf 46).toInt := e16
      have e17 : (cf8 47).toInt = (cf 47).toInt := e17
      have e18 : (cf8 57).toInt = (cf 57).toInt := e18
      have e19 : Ann na ma0 ma7 := e19
      have han := e19
      have e20 : FrC lo hi ma ma7 := e20
      have hfc := hfc.tr e20 (by omega) (by omega)
      have e21 : 0 ≤ v10.toInt := e21
      have e22 : v10.toInt ≤ 4 := e22
      have e23 : NmJ ta ca na ma7 kn p0 v10.toInt := e23
      have hnm_p0 := e23
      have e24 : ZTy cf8 (Gk ta ca na ma0 ns ys nf) na ma7 lo hi p0 v10.toInt := e24
      have hzt_p0 := e24
      have e25 : ZNm cf8 (0 : Int) v10.toInt := e25
      have e26 : RL_mp_check d tf ta na ca p0 (0 : Int32) ma cf ma7 cf8 v10 := e26
      have lv10 := Int32.le_toInt v10
      have uv10 := Int32.toInt_lt v10
      refine lv_istore_n (lv' := [(3, .int v10), (0, .ref h), (1, .int p0), (2, .int p1)]) S.x S.b d_Mpg_checkArgument_37 rfl hl (by decide) rfl (fun ls hl => ?_)
      refine lv_iload_n S.x S.b d_Mpg_checkArgument_38 rfl (lv_at hl 3 rfl) ?_
      refine lv_bipush (v := 32) S.x S.b d_Mpg_checkArgument_39 (by decide) ?_
      refine lv_icmp_eq (tgt := 70) S.x S.b d_Mpg_checkArgument_41 (by decide) (fun c27 => ?_) (fun c27 => ?_)
      · have nc27 : p1.toInt = (32 : Int) := (i_eq (x := p1) (y := 32)).mp c27
        refine lv_iconst (v := 1) S.x S.b d_Mpg_checkArgument_70 (by decide) ?_
        refine lv_goto (tgt := 75) S.x S.b d_Mpg_checkArgument_71 (by decide) ?_
        refine lv_istore (lv' := [(4, .int 1), (3, .int v10), (0, .ref h), (1, .int p0), (2, .int p1)]) S.x S.b d_Mpg_checkArgument_75 hl (by decide) rfl (fun ls hl => ?_)
        refine lv_iload S.x S.b d_Mpg_checkArgument_77 (lv_at hl 0 rfl) ?_
        refine lv_if_ne (tgt := 92) S.x S.b d_Mpg_checkArgument_79 (by decide) (fun c29 => ?_) (fun c29 => ?_)
        ·
          first | exact px_vret S hr hlk hAe hw (Nat.le_of_ble_eq_true rfl) (Nat.le_of_ble_eq_true rfl) (⟨ma7, cf8, rfl, (show KpE cf cf8 from hke), (show WrV cf8 (tf 6).toInt from hwr), (show (cf8 33).toInt = (cf 33).toInt from e13), (show (cf8 38).toInt = (cf 38).toInt from e14), (show (cf8 48).toInt = (cf 48).toInt from e15), (show (cf8 46).toInt = (cf 46).toInt from e16), (show (cf8 47).toInt = (cf 47).toInt from e17), (show (cf8 57).toInt = (cf 57).toInt from e18), (show Ann na ma0 ma7 from han), (show FrC lo hi ma ma7 from hfc), (show ZAr cf8 (Gk ta ca na ma0 ns ys nf) na ma7 lo hi p0 p1.toInt from (zar_mk hzt_p0 (by omega) (by omega))), (show R_mp_checkArgument (RL_mp_check d) tf ta na ca p0 p1 ma cf ma7 cf8 from (Or.inl (Or.inl ⟨nc1, nc3, ma7, cf8, v10, e26, Or.inl ⟨nc27, rfl, rfl⟩⟩)))⟩) d_Mpg_checkArgument_92 | (exact px_vret S hr hlk hAe hw (Nat.le_of_ble_eq_true rfl) (Nat.le_of_ble_eq_true rfl) (⟨ma7, cf8, rfl, (show KpE cf cf8 from hke), (show WrV cf8 (tf 6).toInt from hwr), (show (cf8 33).toInt = (cf 33).toInt from by first | exact e13 | omega), (show (cf8 38).toInt = (cf 38).toInt from by first | exact e14 | omega), (show (cf8 48).toInt = (cf 48).toInt from by first | exact e15 | omega), (show (cf8 46).toInt = (cf 46).toInt from by first | exact e16 | omega), (show (cf8 47).toInt = (cf 47).toInt from by first | exact e17 | omega), (show (cf8 57).toInt = (cf 57).toInt from by first | exact e18 | omega), (show Ann na ma0 ma7 from han), (show FrC lo hi ma ma7 from hfc), (show ZAr cf8 (Gk ta ca na ma0 ns ys nf) na ma7 lo hi p0 p1.toInt from (zar_mk hzt_p0 (by omega) (by omega))), (show R_mp_checkArgument (RL_mp_check d) tf ta na ca p0 p1 ma cf ma7 cf8 from (Or.inl (Or.inl ⟨nc1, nc3, ma7, cf8, v10, e26, Or.inl ⟨nc27, rfl, rfl⟩⟩)))⟩) d_Mpg_checkArgument_92)
        · exact absurd c29 (by decide)
      · have nc27 : ¬ p1.toInt = (32 : Int) := mt (i_eq (x := p1) (y := 32)).mpr c27
        refine lv_iload_n S.x S.b d_Mpg_checkArgument_44 rfl (lv_at hl 0 rfl) ?_
        refine lv_if_eq (tgt := 70) S.x S.b d_Mpg_checkArgument_45 (by decide) (fun c30 => ?_) (fun c30 => ?_)
        · have nc30 : v10.toInt = (0 : Int) := (i_eq (x := v10) (y := 0)).mp c30
          refine lv_iconst (v := 1) S.x S.b d_Mpg_checkArgument_70 (by decide) ?_
          refine lv_goto (tgt := 75) S.x S.b d_Mpg_checkArgument_71 (by decide) ?_
          refine lv_istore (lv' := [(4, .int 1), (3, .int v10), (0, .ref h), (1, .int p0), (2, .int p1)]) S.x S.b d_Mpg_checkArgument_75 hl (by decide) rfl (fun ls hl => ?_)
          refine lv_iload S.x S.b d_Mpg_checkArgument_77 (lv_at hl 0 rfl) ?_
          refine lv_if_ne (tgt := 92) S.x S.b d_Mpg_checkArgument_79 (by decide) (fun c32 => ?_) (fun c32 => ?_)
          ·
            first | exact px_vret S hr hlk hAe hw (Nat.le_of_ble_eq_true rfl) (Nat.le_of_ble_eq_true rfl) (⟨ma7, cf8, rfl, (show KpE cf cf8 from hke), (show WrV cf8 (tf 6).toInt from hwr), (show (cf8 33).toInt = (cf 33).toInt from e13), (show (cf8 38).toInt = (cf 38).toInt from e14), (show (cf8 48).toInt = (cf 48).toInt from e15), (show (cf8 46).toInt = (cf 46).toInt from e16), (show (cf8 47).toInt = (cf 47).toInt from e17), (show (cf8 57).toInt = (cf 57).toInt from e18), (show Ann na ma0 ma7 from han), (show FrC lo hi ma ma7 from hfc), (show ZAr cf8 (Gk ta ca na ma0 ns ys nf) na ma7 lo hi p0 p1.toInt from (zar_mk hzt_p0 (by omega) (by omega))), (show R_mp_checkArgument (RL_mp_check d) tf ta na ca p0 p1 ma cf ma7 cf8 from (Or.inl (Or.inl ⟨nc1, nc3, ma7, cf8, v10, e26, Or.inr ⟨nc27, Or.inl ⟨nc30, rfl, rfl⟩⟩⟩)))⟩) d_Mpg_checkArgument_92 | (exact px_vret S hr hlk hAe hw (Nat.le_of_ble_eq_true rfl) (Nat.le_of_ble_eq_true rfl) (⟨ma7, cf8, rfl, (show KpE cf cf8 from hke), (show WrV cf8 (tf 6).toInt from hwr), (show (cf8 33).toInt = (cf 33).toInt from by first | exact e13 | omega), (show (cf8 38).toInt = (cf 38).toInt from by first | exact e14 | omega), (show (cf8 48).toInt = (cf 48).toInt from by first | exact e15 | omega), (show (cf8 46).toInt = (cf 46).toInt from by first | exact e16 | omega), (show (cf8 47).toInt = (cf 47).toInt from by first | exact e17 | omega), (show (cf8 57).toInt = (cf 57).toInt from by first | exact e18 | omega), (show Ann na ma0 ma7 from han), (show FrC lo hi ma ma7 from hfc), (show ZAr cf8 (Gk ta ca na ma0 ns ys nf) na ma7 lo hi p0 p1.toInt from (zar_mk hzt_p0 (by omega) (by omega))), (show R_mp_checkArgument (RL_mp_check d) tf ta na ca p0 p1 ma cf ma7 cf8 from (Or.inl (Or.inl ⟨nc1, nc3, ma7, cf8, v10, e26, Or.inr ⟨nc27, Or.inl ⟨nc30, rfl, rfl⟩⟩⟩)))⟩) d_Mpg_checkArgument_92)
          · exact absurd c32 (by decide)
        · have nc30 : ¬ v10.toInt = (0 : Int) := mt (i_eq (x := v10) (y := 0)).mpr c30
          refine lv_iload_n S.x S.b d_Mpg_checkArgument_48 rfl (lv_at hl 0 rfl) ?_
          refine lv_iconst (v := 2) S.x S.b d_Mpg_checkArgument_49 (by decide) ?_
          refine lv_icmp_ne (tgt := 59) S.x S.b d_Mpg_checkArgument_50 (by decide) (fun c33 => ?_) (fun c33 => ?_)
          · have nc33 : ¬ v10.toInt = (2 : Int) := mt (i_eq (x := v10) (y := 2)).mpr c33
            refine lv_iload_n S.x S.b d_Mpg_checkArgument_59 rfl (lv_at hl 0 rfl) ?_
            refine lv_iconst (v := 3) S.x S.b d_Mpg_checkArgument_60 (by decide) ?_
            refine lv_icmp_ne (tgt := 74) S.x S.b d_Mpg_checkArgument_61 (by decide) (fun c35 => ?_) (fun c35 => ?_)
            · have nc35 : ¬ v10.toInt = (3 : Int) := mt (i_eq (x := v10) (y := 3)).mpr c35
              refine lv_iconst (v := 0) S.x S.b d_Mpg_checkArgument_74 (by decide) ?_
              refine lv_istore (lv' := [(4, .int 0), (3, .int v10), (0, .ref h), (1, .int p0), (2, .int p1)]) S.x S.b d_Mpg_checkArgument_75 hl (by decide) rfl (fun ls hl => ?_)
              refine lv_iload S.x S.b d_Mpg_checkArgument_77 (lv_at hl 0 rfl) ?_
              refine lv_if_ne (tgt := 92) S.x S.b d_Mpg_checkArgument_79 (by decide) (fun c37 => ?_) (fun c37 => ?_)
              · exact absurd c37 (by decide)
              ·
                refine lv_aload_n S.x S.b d_Mpg_checkArgument_82 rfl (lv_at hl 2 rfl) ?_
                refine lv_iconst (v := 3) S.x S.b d_Mpg_checkArgument_83 (by decide) ?_
                refine lv_aload_n S.x S.b d_Mpg_checkArgument_84 rfl (lv_at hl 2 rfl) ?_
                refine lv_iload_n S.x S.b d_Mpg_checkArgument_85 rfl (lv_at hl 3 rfl) ?_
                first | refine px_calli (pr := []) (px_runV (As := [.int p0]) (rest := [.int 3, .ref h]) S (c_mp_first l D cs h r g tf ta pf na ma7 wa cf8 ca ef ea xf xa p0  (show 0 ≤ p0.toInt from hrg.2.2) (show p0.toInt < (pf 13).toInt from (oz_7319c2f99d g1 hrg.2.1)) (show (pf 13).toInt ≤ 2100 from g2) htk (FsI.le (N' := (pf 13).toInt) hfs (by omega)) _) hT (pr := []) (pcs := [wdP cs h r g tf ta pf na ma7 wa cf8 ca ef ea xf xa]) hw px_X.tt (px_recv hT hw 0 0 rfl rfl rfl) m13_9 m13_6 m13_8 ms_12_15 m1_21 q_Mpg_first ⟨show 0 + 1 ≤ (4 * d + 13) from (oz_18c2ec885a), show 8 + (2 + 11) + 0 ≤ (200 * d + 470) from (oz_d9dc1a06a4)⟩ hl.1 rfl (Nat.le_of_ble_eq_true rfl) d_Mpg_checkArgument_86 ⟨Nat.le_of_ble_eq_true rfl, Nat.le_of_ble_eq_true rfl⟩) hw hA (fun v39 p38 H locs hp38 hw => ?_) | (refine px_calli (pr := []) (px_runV (As := [.int p0]) (rest := [.int 3, .ref h]) S (c_mp_first l D cs h r g tf ta pf na ma7 wa cf8 ca ef ea xf xa p0  (show 0 ≤ p0.toInt from by first | exact hrg.2.2 | omega) (show p0.toInt < (pf 13).toInt from by first | exact oz_7319c2f99d g1 hrg.2.1 | omega) (show (pf 13).toInt ≤ 2100 from by first | exact g2 | omega) htk (FsI.le (N' := (pf 13).toInt) hfs (by omega)) _) hT (pr := []) (pcs := [wdP cs h r g tf ta pf na ma7 wa cf8 ca ef ea xf xa]) hw px_X.tt (px_recv hT hw 0 0 rfl rfl rfl) m13_9 m13_6 m13_8 ms_12_15 m1_21 q_Mpg_first ⟨show 0 + 1 ≤ (4 * d + 13) from (by first | exact oz_18c2ec885a | omega), show 8 + (2 + 11) + 0 ≤ (200 * d + 470) from (by first | exact oz_d9dc1a06a4 | omega)⟩ hl.1 rfl (Nat.le_of_ble_eq_true rfl) d_Mpg_checkArgument_86 ⟨Nat.le_of_ble_eq_true rfl, Nat.le_of_ble_eq_true rfl⟩) hw hA (fun v39 p38 H locs hp38 hw => ?_))
                obtain ⟨rfl, e40, e41, e42⟩ := hp38
                have e40 : 0 ≤ v39.toInt := e40
                have e41 : v39.toInt < (tf 6).toInt := e41
                have e42 : R_mp_first na p0 v39 := e42
                have lv39 := Int32.le_toInt v39
                have uv39 := Int32.toInt_lt v39
                first | refine px_callv (pr := []) (px_runV (As := [.int 3, .int v39]) (rest := []) S (c_mp_bad l D cs h r g tf ta pf na ma7 wa ca ef ea xf xa cf8 3 v39  (show 1 ≤ (3 : Int) from oz_00a6fa0b0d) (show 0 ≤ v39.toInt from e40) (show v39.toInt < (tf 6).toInt from e41) htk hwr _) hT (pr := []) (pcs := [wdP cs h r g tf ta pf na ma7 wa cf8 ca ef ea xf xa]) hw px_X.tt (px_recv hT hw 0 0 rfl rfl rfl) m12_173 m12_170 m12_172 ms_11_12 m1_21 q_Mpg_bad ⟨show 0 + 1 ≤ (4 * d + 13) from (oz_18c2ec885a), show 8 + (3 + 11) + 0 ≤ (200 * d + 470) from (oz_31e643ed72)⟩ hl.1 rfl (Nat.le_of_ble_eq_true rfl) d_Mpg_checkArgument_89 ⟨Nat.le_of_ble_eq_true rfl, Nat.le_of_ble_eq_true rfl⟩) hw hA (fun p45 H locs hp45 hw => ?_) | (refine px_callv (pr := []) (px_runV (As := [.int 3, .int v39]) (rest := []) S (c_mp_bad l D cs h r g tf ta pf na ma7 wa ca ef ea xf xa cf8 3 v39  (show 1 ≤ (3 : Int) from by first | exact oz_00a6fa0b0d | omega) (show 0 ≤ v39.toInt from by first | exact e40 | omega) (show v39.toInt < (tf 6).toInt from by first | exact e41 | omega) htk hwr _) hT (pr := []) (pcs := [wdP cs h r g tf ta pf na ma7 wa cf8 ca ef ea xf xa]) hw px_X.tt (px_recv hT hw 0 0 rfl rfl rfl) m12_173 m12_170 m12_172 ms_11_12 m1_21 q_Mpg_bad ⟨show 0 + 1 ≤ (4 * d + 13) from (by first | exact oz_18c2ec885a | omega), show 8 + (3 + 11) + 0 ≤ (200 * d + 470) from (by first | exact oz_31e643ed72 | omega)⟩ hl.1 rfl (Nat.le_of_ble_eq_true rfl) d_Mpg_checkArgument_89 ⟨Nat.le_of_ble_eq_true rfl, Nat.le_of_ble_eq_true rfl⟩) hw hA (fun p45 H locs hp45 hw => ?_))
                obtain ⟨cf44, rfl, e47, e48, e49, e50, e51, e52, e53, e54, e55, e56, e57, e58, e59, e60, e61, e62, e63, e64, e65, e66⟩ := hp45
                have e47 : KpE cf8 cf44 := e47
                have hke := (hke).tr e47
                have hkz_e47 := e47.2
                have hzt_p0 := Zr.kp hzt_p0 e47 id
                have e48 : WrV cf44 (tf 6).toInt := e48
                have hwr := e48
                have hw0_e48 := hwr.1
                have e49 : 1 ≤ (cf44 30).toInt := e49
                have e50 : (cf44 33).toInt = (cf8 33).toInt := e50
                have e51 : (cf44 38).toInt = (cf8 38).toInt := e51
                have e52 : (cf44 48).toInt = (cf8 48).toInt := e52
                have e53 : (cf44 46).toInt = (cf8 46).toInt := e53
                have e54 : (cf44 47).toInt = (cf8 47).toInt := e54
                have e55 : (cf44 57).toInt = (cf8 57).toInt := e55
                have e56 : (cf44 37).toInt = (cf8 37).toInt := e56
                have e57 : (cf44 42).toInt = (cf8 42).toInt := e57
                have e58 : (cf44 43).toInt = (cf8 43).toInt := e58
                have e59 : (cf44 44).toInt = (cf8 44).toInt := e59
                have e60 : (cf44 45).toInt = (cf8 45).toInt := e60
                have e61 : (cf44 54).toInt = (cf8 54).toInt := e61
                have e62 : (cf44 55).toInt = (cf8 55).toInt := e62
                have e63 : (cf44 58).toInt = (cf8 58).toInt := e63
                have e64 : (cf44 59).toInt = (cf8 59).toInt := e64
                have e65 : (cf44 41).toInt = (cf8 41).toInt := e65
                have e66 : R_mp_bad (3 : Int32) v39 cf8 cf44 := e66
                first | exact px_vret S hr hlk hAe hw (Nat.le_of_ble_eq_true rfl) (Nat.le_of_ble_eq_true rfl) (⟨ma7, cf44, rfl, (show KpE cf cf44 from hke), (show WrV cf44 (tf 6).toInt from hwr), (show (cf44 33).toInt = (cf 33).toInt from (oz_1687f4cc65 e13 e50)), (show (cf44 38).toInt = (cf 38).toInt from (oz_1687f4cc65 e14 e51)), (show (cf44 48).toInt = (cf 48).toInt from (oz_1687f4cc65 e15 e52)), (show (cf44 46).toInt = (cf 46).toInt from (oz_1687f4cc65 e16 e53)), (show (cf44 47).toInt = (cf 47).toInt from (oz_1687f4cc65 e17 e54)), (show (cf44 57).toInt = (cf 57).toInt from (oz_1687f4cc65 e18 e55)), (show Ann na ma0 ma7 from han), (show FrC lo hi ma ma7 from hfc), (show ZAr cf44 (Gk ta ca na ma0 ns ys nf) na ma7 lo hi p0 p1.toInt from (zr_no (by omega))), (show R_mp_checkArgument (RL_mp_check d) tf ta na ca p0 p1 ma cf ma7 cf44 from (Or.inl (Or.inl ⟨nc1, nc3, ma7, cf8, v10, e26, Or.inr ⟨nc27, Or.inr ⟨nc30, Or.inl ⟨nc33, Or.inl ⟨nc35, v39, e42, cf44, e66, rfl, rfl⟩⟩⟩⟩⟩)))⟩) d_Mpg_checkArgument_92 | (exact px_vret S hr hlk hAe hw (Nat.le_of_ble_eq_true rfl) (Nat.le_of_ble_eq_true rfl) (⟨ma7, cf44, rfl, (show KpE cf cf44 from hke), (show WrV cf44 (tf 6).toInt from hwr), (show (cf44 33).toInt = (cf 33).toInt from by first | exact oz_1687f4cc65 e13 e50 | omega), (show (cf44 38).toInt = (cf 38).toInt from by first | exact oz_1687f4cc65 e14 e51 | omega), (show (cf44 48).toInt = (cf 48).toInt from by first | exact oz_1687f4cc65 e15 e52 | omega), (show (cf44 46).toInt = (cf 46).toInt from by first | exact oz_1687f4cc65 e16 e53 | omega), (show (cf44 47).toInt = (cf 47).toInt from by first | exact oz_1687f4cc65 e17 e54 | omega), (show (cf44 57).toInt = (cf 57).toInt from by first | exact oz_1687f4cc65 e18 e55 | omega), (show Ann na ma0 ma7 from han), (show FrC lo hi ma ma7 from hfc), (show ZAr cf44 (Gk ta ca na ma0 ns ys nf) na ma7 lo hi p0 p1.toInt from (zr_no (by omega))), (show R_mp_checkArgument (RL_mp_check d) tf ta na ca p0 p1 ma cf ma7 cf44 from (Or.inl (Or.inl ⟨nc1, nc3, ma7, cf8, v10, e26, Or.inr ⟨nc27, Or.inr ⟨nc30, Or.inl ⟨nc33, Or.inl ⟨nc35, v39, e42, cf44, e66, rfl, rfl⟩⟩⟩⟩⟩)))⟩) d_Mpg_checkArgument_92)
            · have nc35 : v10.toInt = (3 : Int) := (i_eq (x := v10) (y := 3)).mp c35
              refine lv_iload_n S.x S.b d_Mpg_checkArgument_64 rfl (lv_at hl 3 rfl) ?_
              refine lv_bipush (v := 115) S.x S.b d_Mpg_checkArgument_65 (by decide) ?_
              refine lv_icmp_eq (tgt := 74) S.x S.b d_Mpg_checkArgument_67 (by decide) (fun c67 => ?_) (fun c67 => ?_)
              · have nc67 : p1.toInt = (115 : Int) := (i_eq (x := p1) (y := 115)).mp c67
                refine lv_iconst (v := 0) S.x S.b d_Mpg_checkArgument_74 (by decide) ?_
                refine lv_istore (lv' := [(4, .int 0), (3, .int v10), (0, .ref h), (1, .int p0), (2, .int p1)]) S.x S.b d_Mpg_checkArgument_75 hl (by decide) rfl (fun ls hl => ?_)
                refine lv_iload S.x S.b d_Mpg_checkArgument_77 (lv_at hl 0 rfl) ?_
                refine lv_if_ne (tgt := 92) S.x S.b d_Mpg_checkArgument_79 (by decide) (fun c69 => ?_) (fun c69 => ?_)
                · exact absurd c69 (by decide)
                ·
                  refine lv_aload_n S.x S.b d_Mpg_checkArgument_82 rfl (lv_at hl 2 rfl) ?_
                  refine lv_iconst (v := 3) S.x S.b d_Mpg_checkArgument_83 (by decide) ?_
                  refine lv_aload_n S.x S.b d_Mpg_checkArgument_84 rfl (lv_at hl 2 rfl) ?_
                  refine lv_iload_n S.x S.b d_Mpg_checkArgument_85 rfl (lv_at hl 3 rfl) ?_
                  first | refine px_calli (pr := []) (px_runV (As := [.int p0]) (rest := [.int 3, .ref h]) S (c_mp_first l D cs h r g tf ta pf na ma7 wa cf8 ca ef ea xf xa p0  (show 0 ≤ p0.toInt from hrg.2.2) (show p0.toInt < (pf 13).toInt from (oz_7319c2f99d g1 hrg.2.1)) (show (pf 13).toInt ≤ 2100 from g2) htk (FsI.le (N' := (pf 13).toInt) hfs (by omega)) _) hT (pr := []) (pcs := [wdP cs h r g tf ta pf na ma7 wa cf8 ca ef ea xf xa]) hw px_X.tt (px_recv hT hw 0 0 rfl rfl rfl) m13_9 m13_6 m13_8 ms_12_15 m1_21 q_Mpg_first ⟨show 0 + 1 ≤ (4 * d + 13) from (oz_18c2ec885a), show 8 + (2 + 11) + 0 ≤ (200 * d + 470) from (oz_d9dc1a06a4)⟩ hl.1 rfl (Nat.le_of_ble_eq_true rfl) d_Mpg_checkArgument_86 ⟨Nat.le_of_ble_eq_true rfl, Nat.le_of_ble_eq_true rfl⟩) hw hA (fun v71 p70 H locs hp70 hw => ?_) | (refine px_calli (pr := []) (px_runV (As := [.int p0]) (rest := [.int 3, .ref h]) S (c_mp_first l D cs h r g tf ta pf na ma7 wa cf8 ca ef ea xf xa p0  (show 0 ≤ p0.toInt from by first | exact hrg.2.2 | omega) (show p0.toInt < (pf 13).toInt from by first | exact oz_7319c2f99d g1 hrg.2.1 | omega) (show (pf 13).toInt ≤ 2100 from by first | exact g2 | omega) htk (FsI.le (N' := (pf 13).toInt) hfs (by omega)) _) hT (pr := []) (pcs := [wdP cs h r g tf ta pf na ma7 wa cf8 ca ef ea xf xa]) hw px_X.tt (px_recv hT hw 0 0 rfl rfl rfl) m13_9 m13_6 m13_8 ms_12_15 m1_21 q_Mpg_first ⟨show 0 + 1 ≤ (4 * d + 13) from (by first | exact oz_18c2ec885a | omega), show 8 + (2 + 11) + 0 ≤ (200 * d + 470) from (by first | exact oz_d9dc1a06a4 | omega)⟩ hl.1 rfl (Nat.le_of_ble_eq_true rfl) d_Mpg_checkArgument_86 ⟨Nat.le_of_ble_eq_true rfl, Nat.le_of_ble_eq_true rfl⟩) hw hA (fun v71 p70 H locs hp70 hw => ?_))
                  obtain ⟨rfl, e72, e73, e74⟩ := hp70
                  have e72 : 0 ≤ v71.toInt := e72
                  have e73 : v71.toInt < (tf 6).toInt := e73
                  have e74 : R_mp_first na p0 v71 := e74
                  have lv71 := Int32.le_toInt v71
                  have uv71 := Int32.toInt_lt v71
                  first | refine px_callv (pr := []) (px_runV (As := [.int 3, .int v71]) (rest := []) S (c_mp_bad l D cs h r g tf ta pf na ma7 wa ca ef ea xf xa cf8 3 v71  (show 1 ≤ (3 : Int) from oz_00a6fa0b0d) (show 0 ≤ v71.toInt from e72) (show v71.toInt < (tf 6).toInt from e73) htk hwr _) hT (pr := []) (pcs := [wdP cs h r g tf ta pf na ma7 wa cf8 ca ef ea xf xa]) hw px_X.tt (px_recv hT hw 0 0 rfl rfl rfl) m12_173 m12_170 m12_172 ms_11_12 m1_21 q_Mpg_bad ⟨show 0 + 1 ≤ (4 * d + 13) from (oz_18c2ec885a), show 8 + (3 + 11) + 0 ≤ (200 * d + 470) from (oz_31e643ed72)⟩ hl.1 rfl (Nat.le_of_ble_eq_true rfl) d_Mpg_checkArgument_89 ⟨Nat.le_of_ble_eq_true rfl, Nat.le_of_ble_eq_true rfl⟩) hw hA (fun p77 H locs hp77 hw => ?_) | (refine px_callv (pr := []) (px_runV (As := [.int 3, .int v71]) (rest := []) S (c_mp_bad l D cs h r g tf ta pf na ma7 wa ca ef ea xf xa cf8 3 v71  (show 1 ≤ (3 : Int) from by first | exact oz_00a6fa0b0d | omega) (show 0 ≤ v71.toInt from by first | exact e72 | omega) (show v71.toInt < (tf 6).toInt from by first | exact e73 | omega) htk hwr _) hT (pr := []) (pcs := [wdP cs h r g tf ta pf na ma7 wa cf8 ca ef ea xf xa]) hw px_X.tt (px_recv hT hw 0 0 rfl rfl rfl) m12_173 m12_170 m12_172 ms_11_12 m1_21 q_Mpg_bad ⟨show 0 + 1 ≤ (4 * d + 13) from (by first | exact oz_18c2ec885a | omega), show 8 + (3 + 11) + 0 ≤ (200 * d + 470) from (by first | exact oz_31e643ed72 | omega)⟩ hl.1 rfl (Nat.le_of_ble_eq_true rfl) d_Mpg_checkArgument_89 ⟨Nat.le_of_ble_eq_true rfl, Nat.le_of_ble_eq_true rfl⟩) hw hA (fun p77 H locs hp77 hw => ?_))
                  obtain ⟨cf76, rfl, e79, e80, e81, e82, e83, e84, e85, e86, e87, e88, e89, e90, e91, e92, e93, e94, e95, e96, e97, e98⟩ := hp77
                  have e79 : KpE cf8 cf76 := e79
                  have hke := (hke).tr e79
                  have hkz_e79 := e79.2
                  have hzt_p0 := Zr.kp hzt_p0 e79 id
                  have e80 : WrV cf76 (tf 6).toInt := e80
                  have hwr := e80
                  have hw0_e80 := hwr.1
                  have e81 : 1 ≤ (cf76 30).toInt := e81
                  have e82 : (cf76 33).toInt = (cf8 33).toInt := e82
                  have e83 : (cf76 38).toInt = (cf8 38).toInt := e83
                  have e84 : (cf76 48).toInt = (cf8 48).toInt := e84
                  have e85 : (cf76 46).toInt = (cf8 46).toInt := e85
                  have e86 : (cf76 47).toInt = (cf8 47).toInt := e86
                  have e87 : (cf76 57).toInt = (cf8 57).toInt := e87
                  have e88 : (cf76 37).toInt = (cf8 37).toInt := e88
                  have e89 : (cf76 42).toInt = (cf8 42).toInt := e89
                  have e90 : (cf76 43).toInt = (cf8 43).toInt := e90
                  have e91 : (cf76 44).toInt = (cf8 44).toInt := e91
                  have e92 : (cf76 45).toInt = (cf8 45).toInt := e92
                  have e93 : (cf76 54).toInt = (cf8 54).toInt := e93
                  have e94 : (cf76 55).toInt = (cf8 55).toInt := e94
                  have e95 : (cf76 58).toInt = (cf8 58).toInt := e95
                  have e96 : (cf76 59).toInt = (cf8 59).toInt := e96
                  have e97 : (cf76 41).toInt = (cf8 41).toInt := e97
                  have e98 : R_mp_bad (3 : Int32) v71 cf8 cf76 := e98
                  first | exact px_vret S hr hlk hAe hw (Nat.le_of_ble_eq_true rfl) (Nat.le_of_ble_eq_true rfl) (⟨ma7, cf76, rfl, (show KpE cf cf76 from hke), (show WrV cf76 (tf 6).toInt from hwr), (show (cf76 33).toInt = (cf 33).toInt from (oz_1687f4cc65 e13 e82)), (show (cf76 38).toInt = (cf 38).toInt from (oz_1687f4cc65 e14 e83)), (show (cf76 48).toInt = (cf 48).toInt from (oz_1687f4cc65 e15 e84)), (show (cf76 46).toInt = (cf 46).toInt from (oz_1687f4cc65 e16 e85)), (show (cf76 47).toInt = (cf 47).toInt from (oz_1687f4cc65 e17 e86)), (show (cf76 57).toInt = (cf 57).toInt from (oz_1687f4cc65 e18 e87)), (show Ann na ma0 ma7 from han), (show FrC lo hi ma ma7 from hfc), (show ZAr cf76 (Gk ta ca na ma0 ns ys nf) na ma7 lo hi p0 p1.toInt from (zr_no (by omega))), (show R_mp_checkArgument (RL_mp_check d) tf ta na ca p0 p1 ma cf ma7 cf76 from (Or.inl (Or.inl ⟨nc1, nc3, ma7, cf8, v10, e26, Or.inr ⟨nc27, Or.inr ⟨nc30, Or.inl ⟨nc33, Or.inr ⟨nc35, Or.inl ⟨nc67, v71, e74, cf76, e98, rfl, rfl⟩⟩⟩⟩⟩⟩)))⟩) d_Mpg_checkArgument_92 | (exact px_vret S hr hlk hAe hw (Nat.le_of_ble_eq_true rfl) (Nat.le_of_ble_eq_true rfl) (⟨ma7, cf76, rfl, (show KpE cf cf76 from hke), (show WrV cf76 (tf 6).toInt from hwr), (show (cf76 33).toInt = (cf 33).toInt from by first | exact oz_1687f4cc65 e13 e82 | omega), (show (cf76 38).toInt = (cf 38).toInt from by first | exact oz_1687f4cc65 e14 e83 | omega), (show (cf76 48).toInt = (cf 48).toInt from by first | exact oz_1687f4cc65 e15 e84 | omega), (show (cf76 46).toInt = (cf 46).toInt from by first | exact oz_1687f4cc65 e16 e85 | omega), (show (cf76 47).toInt = (cf 47).toInt from by first | exact oz_1687f4cc65 e17 e86 | omega), (show (cf76 57).toInt = (cf 57).toInt from by first | exact oz_1687f4cc65 e18 e87 | omega), (show Ann na ma0 ma7 from han), (show FrC lo hi ma ma7 from hfc), (show ZAr cf76 (Gk ta ca na ma0 ns ys nf) na ma7 lo hi p0 p1.toInt from (zr_no (by omega))), (show R_mp_checkArgument (RL_mp_check d) tf ta na ca p0 p1 ma cf ma7 cf76 from (Or.inl (Or.inl ⟨nc1, nc3, ma7, cf8, v10, e26, Or.inr ⟨nc27, Or.inr ⟨nc30, Or.inl ⟨nc33, Or.inr ⟨nc35, Or.inl ⟨nc67, v71, e74, cf76, e98, rfl, rfl⟩⟩⟩⟩⟩⟩)))⟩) d_Mpg_checkArgument_92)
              · have nc67 : ¬ p1.toInt = (115 : Int) := mt (i_eq (x := p1) (y := 115)).mpr c67
                refine lv_iconst (v := 1) S.x S.b d_Mpg_checkArgument_70 (by decide) ?_
                refine lv_goto (tgt := 75) S.x S.b d_Mpg_checkArgument_71 (by decide) ?_
                refine lv_istore (lv' := [(4, .int 1), (3, .int v10), (0, .ref h), (1, .int p0), (2, .int p1)]) S.x S.b d_Mpg_checkArgument_75 hl (by decide) rfl (fun ls hl => ?_)
                refine lv_iload S.x S.b d_Mpg_checkArgument_77 (lv_at hl 0 rfl) ?_
                refine lv_if_ne (tgt := 92) S.x S.b d_Mpg_checkArgument_79 (by decide) (fun c99 => ?_) (fun c99 => ?_)
                ·
                  first | exact px_vret S hr hlk hAe hw (Nat.le_of_ble_eq_true rfl) (Nat.le_of_ble_eq_true rfl) (⟨ma7, cf8, rfl, (show KpE cf cf8 from hke), (show WrV cf8 (tf 6).toInt from hwr), (show (cf8 33).toInt = (cf 33).toInt from e13), (show (cf8 38).toInt = (cf 38).toInt from e14), (show (cf8 48).toInt = (cf 48).toInt from e15), (show (cf8 46).toInt = (cf 46).toInt from e16), (show (cf8 47).toInt = (cf 47).toInt from e17), (show (cf8 57).toInt = (cf 57).toInt from e18), (show Ann na ma0 ma7 from han), (show FrC lo hi ma ma7 from hfc), (show ZAr cf8 (Gk ta ca na ma0 ns ys nf) na ma7 lo hi p0 p1.toInt from (zar_mk hzt_p0 (by omega) (by omega))), (show R_mp_checkArgument (RL_mp_check d) tf ta na ca p0 p1 ma cf ma7 cf8 from (Or.inl (Or.inl ⟨nc1, nc3, ma7, cf8, v10, e26, Or.inr ⟨nc27, Or.inr ⟨nc30, Or.inl ⟨nc33, Or.inr ⟨nc35, Or.inr ⟨nc67, rfl, rfl⟩⟩⟩⟩⟩⟩)))⟩) d_Mpg_checkArgument_92 | (exact px_vret S hr hlk hAe hw (Nat.le_of_ble_eq_true rfl) (Nat.le_of_ble_eq_true rfl) (⟨ma7, cf8, rfl, (show KpE cf cf8 from hke), (show WrV cf8 (tf 6).toInt from hwr), (show (cf8 33).toInt = (cf 33).toInt from by first | exact e13 | omega), (show (cf8 38).toInt = (cf 38).toInt from by first | exact e14 | omega), (show (cf8 48).toInt = (cf 48).toInt from by first | exact e15 | omega), (show (cf8 46).toInt = (cf 46).toInt from by first | exact e16 | omega), (show (cf8 47).toInt = (cf 47).toInt from by first | exact e17 | omega), (show (cf8 57).toInt = (cf 57).toInt from by first | exact e18 | omega), (show Ann na ma0 ma7 from han), (show FrC lo hi ma ma7 from hfc), (show ZAr cf8 (Gk ta ca na ma0 ns ys nf) na ma7 lo hi p0 p1.toInt from (zar_mk hzt_p0 (by omega) (by omega))), (show R_mp_checkArgument (RL_mp_check d) tf ta na ca p0 p1 ma cf ma7 cf8 from (Or.inl (Or.inl ⟨nc1, nc3, ma7, cf8, v10, e26, Or.inr ⟨nc27, Or.inr ⟨nc30, Or.inl ⟨nc33, Or.inr ⟨nc35, Or.inr ⟨nc67, rfl, rfl⟩⟩⟩⟩⟩⟩)))⟩) d_Mpg_checkArgument_92)
                · exact absurd c99 (by decide)
          · have nc33 : v10.toInt = (2 : Int) := (i_eq (x := v10) (y := 2)).mp c33
            refine lv_iload_n S.x S.b d_Mpg_checkArgument_53 rfl (lv_at hl 3 rfl) ?_
            refine lv_bipush (v := 99) S.x S.b d_Mpg_checkArgument_54 (by decide) ?_
            refine lv_icmp_ne (tgt := 70) S.x S.b d_Mpg_checkArgument_56 (by decide) (fun c100 => ?_) (fun c100 => ?_)
            · have nc100 : ¬ p1.toInt = (99 : Int) := mt (i_eq (x := p1) (y := 99)).mpr c100
              refine lv_iconst (v := 1) S.x S.b d_Mpg_checkArgument_70 (by decide) ?_
              refine lv_goto (tgt := 75) S.x S.b d_Mpg_checkArgument_71 (by decide) ?_
              refine lv_istore (lv' := [(4, .int 1), (3, .int v10), (0, .ref h), (1, .int p0), (2, .int p1)]) S.x S.b d_Mpg_checkArgument_75 hl (by decide) rfl (fun ls hl => ?_)
              refine lv_iload S.x S.b d_Mpg_checkArgument_77 (lv_at hl 0 rfl) ?_
              refine lv_if_ne (tgt := 92) S.x S.b d_Mpg_checkArgument_79 (by decide) (fun c102 => ?_) (fun c102 => ?_)
              ·
                first | exact px_vret S hr hlk hAe hw (Nat.le_of_ble_eq_true rfl) (Nat.le_of_ble_eq_true rfl) (⟨ma7, cf8, rfl, (show KpE cf cf8 from hke), (show WrV cf8 (tf 6).toInt from hwr), (show (cf8 33).toInt = (cf 33).toInt from e13), (show (cf8 38).toInt = (cf 38).toInt from e14), (show (cf8 48).toInt = (cf 48).toInt from e15), (show (cf8 46).toInt = (cf 46).toInt from e16), (show (cf8 47).toInt = (cf 47).toInt from e17), (show (cf8 57).toInt = (cf 57).toInt from e18), (show Ann na ma0 ma7 from han), (show FrC lo hi ma ma7 from hfc), (show ZAr cf8 (Gk ta ca na ma0 ns ys nf) na ma7 lo hi p0 p1.toInt from (zar_mk hzt_p0 (by omega) (by omega))), (show R_mp_checkArgument (RL_mp_check d) tf ta na ca p0 p1 ma cf ma7 cf8 from (Or.inl (Or.inl ⟨nc1, nc3, ma7, cf8, v10, e26, Or.inr ⟨nc27, Or.inr ⟨nc30, Or.inr ⟨nc33, Or.inl ⟨nc100, rfl, rfl⟩⟩⟩⟩⟩)))⟩) d_Mpg_checkArgument_92 | (exact px_vret S hr hlk hAe hw (Nat.le_of_ble_eq_true rfl) (Nat.le_of_ble_eq_true rfl) (⟨ma7, cf8, rfl, (show KpE cf cf8 from hke), (show WrV cf8 (tf 6).toInt from hwr), (show (cf8 33).toInt = (cf 33).toInt from by first | exact e13 | omega), (show (cf8 38).toInt = (cf 38).toInt from by first | exact e14 | omega), (show (cf8 48).toInt = (cf 48).toInt from by first | exact e15 | omega), (show (cf8 46).toInt = (cf 46).toInt from by first | exact e16 | omega), (show (cf8 47).toInt = (cf 47).toInt from by first | exact e17 | omega), (show (cf8 57).toInt = (cf 57).toInt from by first | exact e18 | omega), (show Ann na ma0 ma7 from han), (show FrC lo hi ma ma7 from hfc), (show ZAr cf8 (Gk ta ca na ma0 ns ys nf) na ma7 lo hi p0 p1.toInt from (zar_mk hzt_p0 (by omega) (by omega))), (show R_mp_checkArgument (RL_mp_check d) tf ta na ca p0 p1 ma cf ma7 cf8 from (Or.inl (Or.inl ⟨nc1, nc3, ma7, cf8, v10, e26, Or.inr ⟨nc27, Or.inr ⟨nc30, Or.inr ⟨nc33, Or.inl ⟨nc100, rfl, rfl⟩⟩⟩⟩⟩)))⟩) d_Mpg_checkArgument_92)
              · exact absurd c102 (by decide)
            · have nc100 : p1.toInt = (99 : Int) := (i_eq (x := p1) (y := 99)).mp c100
              refine lv_iload_n S.x S.b d_Mpg_checkArgument_59 rfl (lv_at hl 0 rfl) ?_
              refine lv_iconst (v := 3) S.x S.b d_Mpg_checkArgument_60 (by decide) ?_
              refine lv_icmp_ne (tgt := 74) S.x S.b d_Mpg_checkArgument_61 (by decide) (fun c103 => ?_) (fun c103 => ?_)
              · have nc103 : ¬ v10.toInt = (3 : Int) := mt (i_eq (x := v10) (y := 3)).mpr c103
                refine lv_iconst (v := 0) S.x S.b d_Mpg_checkArgument_74 (by decide) ?_
                refine lv_istore (lv' := [(4, .int 0), (3, .int v10), (0, .ref h), (1, .int p0), (2, .int p1)]) S.x S.b d_Mpg_checkArgument_75 hl (by decide) rfl (fun ls hl => ?_)
                refine lv_iload S.x S.b d_Mpg_checkArgument_77 (lv_at hl 0 rfl) ?_
                refine lv_if_ne (tgt := 92) S.x S.b d_Mpg_checkArgument_79 (by decide) (fun c105 => ?_) (fun c105 => ?_)
                · exact absurd c105 (by decide)
                ·
                  refine lv_aload_n S.x S.b d_Mpg_checkArgument_82 rfl (lv_at hl 2 rfl) ?_
                  refine lv_iconst (v := 3) S.x S.b d_Mpg_checkArgument_83 (by decide) ?_
                  refine lv_aload_n S.x S.b d_Mpg_checkArgument_84 rfl (lv_at hl 2 rfl) ?_
                  refine lv_iload_n S.x S.b d_Mpg_checkArgument_85 rfl (lv_at hl 3 rfl) ?_
                  first | refine px_calli (pr := []) (px_runV (As := [.int p0]) (rest := [.int 3, .ref h]) S (c_mp_first l D cs h r g tf ta pf na ma7 wa cf8 ca ef ea xf xa p0  (show 0 ≤ p0.toInt from hrg.2.2) (show p0.toInt < (pf 13).toInt from (oz_7319c2f99d g1 hrg.2.1)) (show (pf 13).toInt ≤ 2100 from g2) htk (FsI.le (N' := (pf 13).toInt) hfs (by omega)) _) hT (pr := []) (pcs := [wdP cs h r g tf ta pf na ma7 wa cf8 ca ef ea xf xa]) hw px_X.tt (px_recv hT hw 0 0 rfl rfl rfl) m13_9 m13_6 m13_8 ms_12_15 m1_21 q_Mpg_first ⟨show 0 + 1 ≤ (4 * d + 13) from (oz_18c2ec885a), show 8 + (2 + 11) + 0 ≤ (200 * d + 470) from (oz_d9dc1a06a4)⟩ hl.1 rfl (Nat.le_of_ble_eq_true rfl) d_Mpg_checkArgument_86 ⟨Nat.le_of_ble_eq_true rfl, Nat.le_of_ble_eq_true rfl⟩) hw hA (fun v107 p106 H locs hp106 hw => ?_) | (refine px_calli (pr := []) (px_runV (As := [.int p0]) (rest := [.int 3, .ref h]) S (c_mp_first l D cs h r g tf ta pf na ma7 wa cf8 ca ef ea xf xa p0  (show 0 ≤ p0.toInt from by first | exact hrg.2.2 | omega) (show p0.toInt < (pf 13).toInt from by first | exact oz_7319c2f99d g1 hrg.2.1 | omega) (show (pf 13).toInt ≤ 2100 from by first | exact g2 | omega) htk (FsI.le (N' := (pf 13).toInt) hfs (by omega)) _) hT (pr := []) (pcs := [wdP cs h r g tf ta pf na ma7 wa cf8 ca ef ea xf xa]) hw px_X.tt (px_recv hT hw 0 0 rfl rfl rfl) m13_9 m13_6 m13_8 ms_12_15 m1_21 q_Mpg_first ⟨show 0 + 1 ≤ (4 * d + 13) from (by first | exact oz_18c2ec885a | omega), show 8 + (2 + 11) + 0 ≤ (200 * d + 470) from (by first | exact oz_d9dc1a06a4 | omega)⟩ hl.1 rfl (Nat.le_of_ble_eq_true rfl) d_Mpg_checkArgument_86 ⟨Nat.le_of_ble_eq_true rfl, Nat.le_of_ble_eq_true rfl⟩) hw hA (fun v107 p106 H locs hp106 hw => ?_))
                  obtain ⟨rfl, e108, e109, e110⟩ := hp106
                  have e108 : 0 ≤ v107.toInt := e108
                  have e109 : v107.toInt < (tf 6).toInt := e109
                  have e110 : R_mp_first na p0 v107 := e110
                  have lv107 := Int32.le_toInt v107
                  have uv107 := Int32.toInt_lt v107
                  first | refine px_callv (pr := []) (px_runV (As := [.int 3, .int v107]) (rest := []) S (c_mp_bad l D cs h r g tf ta pf na ma7 wa ca ef ea xf xa cf8 3 v107  (show 1 ≤ (3 : Int) from oz_00a6fa0b0d) (show 0 ≤ v107.toInt from e108) (show v107.toInt < (tf 6).toInt from e109) htk hwr _) hT (pr := []) (pcs := [wdP cs h r g tf ta pf na ma7 wa cf8 ca ef ea xf xa]) hw px_X.tt (px_recv hT hw 0 0 rfl rfl rfl) m12_173 m12_170 m12_172 ms_11_12 m1_21 q_Mpg_bad ⟨show 0 + 1 ≤ (4 * d + 13) from (oz_18c2ec885a), show 8 + (3 + 11) + 0 ≤ (200 * d + 470) from (oz_31e643ed72)⟩ hl.1 rfl (Nat.le_of_ble_eq_true rfl) d_Mpg_checkArgument_89 ⟨Nat.le_of_ble_eq_true rfl, Nat.le_of_ble_eq_true rfl⟩) hw hA (fun p113 H locs hp113 hw => ?_) | (refine px_callv (pr := []) (px_runV (As := [.int 3, .int v107]) (rest := []) S (c_mp_bad l D cs h r g tf ta pf na ma7 wa ca ef ea xf xa cf8 3 v107  (show 1 ≤ (3 : Int) from by first | exact oz_00a6fa0b0d | omega) (show 0 ≤ v107.toInt from by first | exact e108 | omega) (show v107.toInt < (tf 6).toInt from by first | exact e109 | omega) htk hwr _) hT (pr := []) (pcs := [wdP cs h r g tf ta pf na ma7 wa cf8 ca ef ea xf xa]) hw px_X.tt (px_recv hT hw 0 0 rfl rfl rfl) m12_173 m12_170 m12_172 ms_11_12 m1_21 q_Mpg_bad ⟨show 0 + 1 ≤ (4 * d + 13) from (by first | exact oz_18c2ec885a | omega), show 8 + (3 + 11) + 0 ≤ (200 * d + 470) from (by first | exact oz_31e643ed72 | omega)⟩ hl.1 rfl (Nat.le_of_ble_eq_true rfl) d_Mpg_checkArgument_89 ⟨Nat.le_of_ble_eq_true rfl, Nat.le_of_ble_eq_true rfl⟩) hw hA (fun p113 H locs hp113 hw => ?_))
                  obtain ⟨cf112, rfl, e115, e116, e117, e118, e119, e120, e121, e122, e123, e124, e125, e126, e127, e128, e129, e130, e131, e132, e133, e134⟩ := hp113
                  have e115 : KpE cf8 cf112 := e115
                  have hke := (hke).tr e115
                  have hkz_e115 := e115.2
                  have hzt_p0 := Zr.kp hzt_p0 e115 id
                  have e116 : WrV cf112 (tf 6).toInt := e116
                  have hwr := e116
                  have hw0_e116 := hwr.1
                  have e117 : 1 ≤ (cf112 30).toInt := e117
                  have e118 : (cf112 33).toInt = (cf8 33).toInt := e118
                  have e119 : (cf112 38).toInt = (cf8 38).toInt := e119
                  have e120 : (cf112 48).toInt = (cf8 48).toInt := e120
                  have e121 : (cf112 46).toInt = (cf8 46).toInt := e121
                  have e122 : (cf112 47).toInt = (cf8 47).toInt := e122
                  have e123 : (cf112 57).toInt = (cf8 57).toInt := e123
                  have e124 : (cf112 37).toInt = (cf8 37).toInt := e124
                  have e125 : (cf112 42).toInt = (cf8 42).toInt := e125
                  have e126 : (cf112 43).toInt = (cf8 43).toInt := e126
                  have e127 : (cf112 44).toInt = (cf8 44).toInt := e127
                  have e128 : (cf112 45).toInt = (cf8 45).toInt := e128
                  have e129 : (cf112 54).toInt = (cf8 54).toInt := e129
                  have e130 : (cf112 55).toInt = (cf8 55).toInt := e130
                  have e131 : (cf112 58).toInt = (cf8 58).toInt := e131
                  have e132 : (cf112 59).toInt = (cf8 59).toInt := e132
                  have e133 : (cf112 41).toInt = (cf8 41).toInt := e133
                  have e134 : R_mp_bad (3 : Int32) v107 cf8 cf112 := e134
                  first | exact px_vret S hr hlk hAe hw (Nat.le_of_ble_eq_true rfl) (Nat.le_of_ble_eq_true rfl) (⟨ma7, cf112, rfl, (show KpE cf cf112 from hke), (show WrV cf112 (tf 6).toInt from hwr), (show (cf112 33).toInt = (cf 33).toInt from (oz_1687f4cc65 e13 e118)), (show (cf112 38).toInt = (cf 38).toInt from (oz_1687f4cc65 e14 e119)), (show (cf112 48).toInt = (cf 48).toInt from (oz_1687f4cc65 e15 e120)), (show (cf112 46).toInt = (cf 46).toInt from (oz_1687f4cc65 e16 e121)), (show (cf112 47).toInt = (cf 47).toInt from (oz_1687f4cc65 e17 e122)), (show (cf112 57).toInt = (cf 57).toInt from (oz_1687f4cc65 e18 e123)), (show Ann na ma0 ma7 from han), (show FrC lo hi ma ma7 from hfc), (show ZAr cf112 (Gk ta ca na ma0 ns ys nf) na ma7 lo hi p0 p1.toInt from (zr_no (by omega))), (show R_mp_checkArgument (RL_mp_check d) tf ta na ca p0 p1 ma cf ma7 cf112 from (Or.inl (Or.inl ⟨nc1, nc3, ma7, cf8, v10, e26, Or.inr ⟨nc27, Or.inr ⟨nc30, Or.inr ⟨nc33, Or.inr ⟨nc100, Or.inl ⟨nc103, v107, e110, cf112, e134, rfl, rfl⟩⟩⟩⟩⟩⟩)))⟩) d_Mpg_checkArgument_92 | (exact px_vret S hr hlk hAe hw (Nat.le_of_ble_eq_true rfl) (Nat.le_of_ble_eq_true rfl) (⟨ma7, cf112, rfl, (show KpE cf cf112 from hke), (show WrV cf112 (tf 6).toInt from hwr), (show (cf112 33).toInt = (cf 33).toInt from by first | exact oz_1687f4cc65 e13 e118 | omega), (show (cf112 38).toInt = (cf 38).toInt from by first | exact oz_1687f4cc65 e14 e119 | omega), (show (cf112 48).toInt = (cf 48).toInt from by first | exact oz_1687f4cc65 e15 e120 | omega), (show (cf112 46).toInt = (cf 46).toInt from by first | exact oz_1687f4cc65 e16 e121 | omega), (show (cf112 47).toInt = (cf 47).toInt from by first | exact oz_1687f4cc65 e17 e122 | omega), (show (cf112 57).toInt = (cf 57).toInt from by first | exact oz_1687f4cc65 e18 e123 | omega), (show Ann na ma0 ma7 from han), (show FrC lo hi ma ma7 from hfc), (show ZAr cf112 (Gk ta ca na ma0 ns ys nf) na ma7 lo hi p0 p1.toInt from (zr_no (by omega))), (show R_mp_checkArgument (RL_mp_check d) tf ta na ca p0 p1 ma cf ma7 cf112 from (Or.inl (Or.inl ⟨nc1, nc3, ma7, cf8, v10, e26, Or.inr ⟨nc27, Or.inr ⟨nc30, Or.inr ⟨nc33, Or.inr ⟨nc100, Or.inl ⟨nc103, v107, e110, cf112, e134, rfl, rfl⟩⟩⟩⟩⟩⟩)))⟩) d_Mpg_checkArgument_92)
              · have nc103 : v10.toInt = (3 : Int) := (i_eq (x := v10) (y := 3)).mp c103
                refine lv_iload_n S.x S.b d_Mpg_checkArgument_64 rfl (lv_at hl 3 rfl) ?_
                refine lv_bipush (v := 115) S.x S.b d_Mpg_checkArgument_65 (by decide) ?_
                refine lv_icmp_eq (tgt := 74) S.x S.b d_Mpg_checkArgument_67 (by decide) (fun c135 => ?_) (fun c135 => ?_)
                · have nc135 : p1.toInt = (115 : Int) := (i_eq (x := p1) (y := 115)).mp c135
                  refine lv_iconst (v := 0) S.x S.b d_Mpg_checkArgument_74 (by decide) ?_
                  refine lv_istore (lv' := [(4, .int 0), (3, .int v10), (0, .ref h), (1, .int p0), (2, .int p1)]) S.x S.b d_Mpg_checkArgument_75 hl (by decide) rfl (fun ls hl => ?_)
                  refine lv_iload S.x S.b d_Mpg_checkArgument_77 (lv_at hl 0 rfl) ?_
                  refine lv_if_ne (tgt := 92) S.x S.b d_Mpg_checkArgument_79 (by decide) (fun c137 => ?_) (fun c137 => ?_)
                  · exact absurd c137 (by decide)
                  ·
                    refine lv_aload_n S.x S.b d_Mpg_checkArgument_82 rfl (lv_at hl 2 rfl) ?_
                    refine lv_iconst (v := 3) S.x S.b d_Mpg_checkArgument_83 (by decide) ?_
                    refine lv_aload_n S.x S.b d_Mpg_checkArgument_84 rfl (lv_at hl 2 rfl) ?_
                    refine lv_iload_n S.x S.b d_Mpg_checkArgument_85 rfl (lv_at hl 3 rfl) ?_
                    first | refine px_calli (pr := []) (px_runV (As := [.int p0]) (rest := [.int 3, .ref h]) S (c_mp_first l D cs h r g tf ta pf na ma7 wa cf8 ca ef ea xf xa p0  (show 0 ≤ p0.toInt from hrg.2.2) (show p0.toInt < (pf 13).toInt from (oz_7319c2f99d g1 hrg.2.1)) (show (pf 13).toInt ≤ 2100 from g2) htk (FsI.le (N' := (pf 13).toInt) hfs (by omega)) _) hT (pr := []) (pcs := [wdP cs h r g tf ta pf na ma7 wa cf8 ca ef ea xf xa]) hw px_X.tt (px_recv hT hw 0 0 rfl rfl rfl) m13_9 m13_6 m13_8 ms_12_15 m1_21 q_Mpg_first ⟨show 0 + 1 ≤ (4 * d + 13) from (oz_18c2ec885a), show 8 + (2 + 11) + 0 ≤ (200 * d + 470) from (oz_d9dc1a06a4)⟩ hl.1 rfl (Nat.le_of_ble_eq_true rfl) d_Mpg_checkArgument_86 ⟨Nat.le_of_ble_eq_true rfl, Nat.le_of_ble_eq_true rfl⟩) hw hA (fun v139 p138 H locs hp138 hw => ?_) | (refine px_calli (pr := []) (px_runV (As := [.int p0]) (rest := [.int 3, .ref h]) S (c_mp_first l D cs h r g tf ta pf na ma7 wa cf8 ca ef ea xf xa p0  (show 0 ≤ p0.toInt from by first | exact hrg.2.2 | omega) (show p0.toInt < (pf 13).toInt from by first | exact oz_7319c2f99d g1 hrg.2.1 | omega) (show (pf 13).toInt ≤ 2100 from by first | exact g2 | omega) htk (FsI.le (N' := (pf 13).toInt) hfs (by omega)) _) hT (pr := []) (pcs := [wdP cs h r g tf ta pf na ma7 wa cf8 ca ef ea xf xa]) hw px_X.tt (px_recv hT hw 0 0 rfl rfl rfl) m13_9 m13_6 m13_8 ms_12_15 m1_21 q_Mpg_first ⟨show 0 + 1 ≤ (4 * d + 13) from (by first | exact oz_18c2ec885a | omega), show 8 + (2 + 11) + 0 ≤ (200 * d + 470) from (by first | exact oz_d9dc1a06a4 | omega)⟩ hl.1 rfl (Nat.le_of_ble_eq_true rfl) d_Mpg_checkArgument_86 ⟨Nat.le_of_ble_eq_true rfl, Nat.le_of_ble_eq_true rfl⟩) hw hA (fun v139 p138 H locs hp138 hw => ?_))
                    obtain ⟨rfl, e140, e141, e142⟩ := hp138
                    have e140 : 0 ≤ v139.toInt := e140
                    have e141 : v139.toInt < (tf 6).toInt := e141
                    have e142 : R_mp_first na p0 v139 := e142
                    have lv139 := Int32.le_toInt v139
                    have uv139 := Int32.toInt_lt v139
                    first | refine px_callv (pr := []) (px_runV (As := [.int 3, .int v139]) (rest := []) S (c_mp_bad l D cs h r g tf ta pf na ma7 wa ca ef ea xf xa cf8 3 v139  (show 1 ≤ (3 : Int) from oz_00a6fa0b0d) (show 0 ≤ v139.toInt from e140) (show v139.toInt < (tf 6).toInt from e141) htk hwr _) hT (pr := []) (pcs := [wdP cs h r g tf ta pf na ma7 wa cf8 ca ef ea xf xa]) hw px_X.tt (px_recv hT hw 0 0 rfl rfl rfl) m12_173 m12_170 m12_172 ms_11_12 m1_21 q_Mpg_bad ⟨show 0 + 1 ≤ (4 * d + 13) from (oz_18c2ec885a), show 8 + (3 + 11) + 0 ≤ (200 * d + 470) from (oz_31e643ed72)⟩ hl.1 rfl (Nat.le_of_ble_eq_true rfl) d_Mpg_checkArgument_89 ⟨Nat.le_of_ble_eq_true rfl, Nat.le_of_ble_eq_true rfl⟩) hw hA (fun p145 H locs hp145 hw => ?_) | (refine px_callv (pr := []) (px_runV (As := [.int 3, .int v139]) (rest := []) S (c_mp_bad l D cs h r g tf ta pf na ma7 wa ca ef ea xf xa cf8 3 v139  (show 1 ≤ (3 : Int) from by first | exact oz_00a6fa0b0d | omega) (show 0 ≤ v139.toInt from by first | exact e140 | omega) (show v139.toInt < (tf 6).toInt from by first | exact e141 | omega) htk hwr _) hT (pr := []) (pcs := [wdP cs h r g tf ta pf na ma7 wa cf8 ca ef ea xf xa]) hw px_X.tt (px_recv hT hw 0 0 rfl rfl rfl) m12_173 m12_170 m12_172 ms_11_12 m1_21 q_Mpg_bad ⟨show 0 + 1 ≤ (4 * d + 13) from (by first | exact oz_18c2ec885a | omega), show 8 + (3 + 11) + 0 ≤ (200 * d + 470) from (by first | exact oz_31e643ed72 | omega)⟩ hl.1 rfl (Nat.le_of_ble_eq_true rfl) d_Mpg_checkArgument_89 ⟨Nat.le_of_ble_eq_true rfl, Nat.le_of_ble_eq_true rfl⟩) hw hA (fun p145 H locs hp145 hw => ?_))
                    obtain ⟨cf144, rfl, e147, e148, e149, e150, e151, e152, e153, e154, e155, e156, e157, e158, e159, e160, e161, e162, e163, e164, e165, e166⟩ := hp145
                    have e147 : KpE cf8 cf144 := e147
                    have hke := (hke).tr e147
                    have hkz_e147 := e147.2
                    have hzt_p0 := Zr.kp hzt_p0 e147 id
                    have e148 : WrV cf144 (tf 6).toInt := e148
                    have hwr := e148
                    have hw0_e148 := hwr.1
                    have e149 : 1 ≤ (cf144 30).toInt := e149
                    have e150 : (cf144 33).toInt = (cf8 33).toInt := e150
                    have e151 : (cf144 38).toInt = (cf8 38).toInt := e151
                    have e152 : (cf144 48).toInt = (cf8 48).toInt := e152
                    have e153 : (cf144 46).toInt = (cf8 46).toInt := e153
                    have e154 : (cf144 47).toInt = (cf8 47).toInt := e154
                    have e155 : (cf144 57).toInt = (cf8 57).toInt := e155
                    have e156 : (cf144 37).toInt = (cf8 37).toInt := e156
                    have e157 : (cf144 42).toInt = (cf8 42).toInt := e157
                    have e158 : (cf144 43).toInt = (cf8 43).toInt := e158
                    have e159 : (cf144 44).toInt = (cf8 44).toInt := e159
                    have e160 : (cf144 45).toInt = (cf8 45).toInt := e160
                    have e161 : (cf144 54).toInt = (cf8 54).toInt := e161
                    have e162 : (cf144 55).toInt = (cf8 55).toInt := e162
                    have e163 : (cf144 58).toInt = (cf8 58).toInt := e163
                    have e164 : (cf144 59).toInt = (cf8 59).toInt := e164
                    have e165 : (cf144 41).toInt = (cf8 41).toInt := e165
                    have e166 : R_mp_bad (3 : Int32) v139 cf8 cf144 := e166
                    first | exact px_vret S hr hlk hAe hw (Nat.le_of_ble_eq_true rfl) (Nat.le_of_ble_eq_true rfl) (⟨ma7, cf144, rfl, (show KpE cf cf144 from hke), (show WrV cf144 (tf 6).toInt from hwr), (show (cf144 33).toInt = (cf 33).toInt from (oz_1687f4cc65 e13 e150)), (show (cf144 38).toInt = (cf 38).toInt from (oz_1687f4cc65 e14 e151)), (show (cf144 48).toInt = (cf 48).toInt from (oz_1687f4cc65 e15 e152)), (show (cf144 46).toInt = (cf 46).toInt from (oz_1687f4cc65 e16 e153)), (show (cf144 47).toInt = (cf 47).toInt from (oz_1687f4cc65 e17 e154)), (show (cf144 57).toInt = (cf 57).toInt from (oz_1687f4cc65 e18 e155)), (show Ann na ma0 ma7 from han), (show FrC lo hi ma ma7 from hfc), (show ZAr cf144 (Gk ta ca na ma0 ns ys nf) na ma7 lo hi p0 p1.toInt from (zr_no (by omega))), (show R_mp_checkArgument (RL_mp_check d) tf ta na ca p0 p1 ma cf ma7 cf144 from (Or.inl (Or.inl ⟨nc1, nc3, ma7, cf8, v10, e26, Or.inr ⟨nc27, Or.inr ⟨nc30, Or.inr ⟨nc33, Or.inr ⟨nc100, Or.inr ⟨nc103, Or.inl ⟨nc135, v139, e142, cf144, e166, rfl, rfl⟩⟩⟩⟩⟩⟩⟩)))⟩) d_Mpg_checkArgument_92 | (exact px_vret S hr hlk hAe hw (Nat.le_of_ble_eq_true rfl) (Nat.le_of_ble_eq_true rfl) (⟨ma7, cf144, rfl, (show KpE cf cf144 from hke), (show WrV cf144 (tf 6).toInt from hwr), (show (cf144 33).toInt = (cf 33).toInt from by first | exact oz_1687f4cc65 e13 e150 | omega), (show (cf144 38).toInt = (cf 38).toInt from by first | exact oz_1687f4cc65 e14 e151 | omega), (show (cf144 48).toInt = (cf 48).toInt from by first | exact oz_1687f4cc65 e15 e152 | omega), (show (cf144 46).toInt = (cf 46).toInt from by first | exact oz_1687f4cc65 e16 e153 | omega), (show (cf144 47).toInt = (cf 47).toInt from by first | exact oz_1687f4cc65 e17 e154 | omega), (show (cf144 57).toInt = (cf 57).toInt from by first | exact oz_1687f4cc65 e18 e155 | omega), (show Ann na ma0 ma7 from han), (show FrC lo hi ma ma7 from hfc), (show ZAr cf144 (Gk ta ca na ma0 ns ys nf) na ma7 lo hi p0 p1.toInt from (zr_no (by omega))), (show R_mp_checkArgument (RL_mp_check d) tf ta na ca p0 p1 ma cf ma7 cf144 from (Or.inl (Or.inl ⟨nc1, nc3, ma7, cf8, v10, e26, Or.inr ⟨nc27, Or.inr ⟨nc30, Or.inr ⟨nc33, Or.inr ⟨nc100, Or.inr ⟨nc103, Or.inl ⟨nc135, v139, e142, cf144, e166, rfl, rfl⟩⟩⟩⟩⟩⟩⟩)))⟩) d_Mpg_checkArgument_92)
                · have nc135 : ¬ p1.toInt = (115 : Int) := mt (i_eq (x := p1) (y := 115)).mpr c135
                  refine lv_iconst (v := 1) S.x S.b d_Mpg_checkArgument_70 (by decide) ?_
                  refine lv_goto (tgt := 75) S.x S.b d_Mpg_checkArgument_71 (by decide) ?_
                  refine lv_istore (lv' := [(4, .int 1), (3, .int v10), (0, .ref h), (1, .int p0), (2, .int p1)]) S.x S.b d_Mpg_checkArgument_75 hl (by decide) rfl (fun ls hl => ?_)
                  refine lv_iload S.x S.b d_Mpg_checkArgument_77 (lv_at hl 0 rfl) ?_
                  refine lv_if_ne (tgt := 92) S.x S.b d_Mpg_checkArgument_79 (by decide) (fun c167 => ?_) (fun c167 => ?_)
                  ·
                    first | exact px_vret S hr hlk hAe hw (Nat.le_of_ble_eq_true rfl) (Nat.le_of_ble_eq_true rfl) (⟨ma7, cf8, rfl, (show KpE cf cf8 from hke), (show WrV cf8 (tf 6).toInt from hwr), (show (cf8 33).toInt = (cf 33).toInt from e13), (show (cf8 38).toInt = (cf 38).toInt from e14), (show (cf8 48).toInt = (cf 48).toInt from e15), (show (cf8 46).toInt = (cf 46).toInt from e16), (show (cf8 47).toInt = (cf 47).toInt from e17), (show (cf8 57).toInt = (cf 57).toInt from e18), (show Ann na ma0 ma7 from han), (show FrC lo hi ma ma7 from hfc), (show ZAr cf8 (Gk ta ca na ma0 ns ys nf) na ma7 lo hi p0 p1.toInt from (zar_mk hzt_p0 (by omega) (by omega))), (show R_mp_checkArgument (RL_mp_check d) tf ta na ca p0 p1 ma cf ma7 cf8 from (Or.inl (Or.inl ⟨nc1, nc3, ma7, cf8, v10, e26, Or.inr ⟨nc27, Or.inr ⟨nc30, Or.inr ⟨nc33, Or.inr ⟨nc100, Or.inr ⟨nc103, Or.inr ⟨nc135, rfl, rfl⟩⟩⟩⟩⟩⟩⟩)))⟩) d_Mpg_checkArgument_92 | (exact px_vret S hr hlk hAe hw (Nat.le_of_ble_eq_true rfl) (Nat.le_of_ble_eq_true rfl) (⟨ma7, cf8, rfl, (show KpE cf cf8 from hke), (show WrV cf8 (tf 6).toInt from hwr), (show (cf8 33).toInt = (cf 33).toInt from by first | exact e13 | omega), (show (cf8 38).toInt = (cf 38).toInt from by first | exact e14 | omega), (show (cf8 48).toInt = (cf 48).toInt from by first | exact e15 | omega), (show (cf8 46).toInt = (cf 46).toInt from by first | exact e16 | omega), (show (cf8 47).toInt = (cf 47).toInt from by first | exact e17 | omega), (show (cf8 57).toInt = (cf 57).toInt from by first | exact e18 | omega), (show Ann na ma0 ma7 from han), (show FrC lo hi ma ma7 from hfc), (show ZAr cf8 (Gk ta ca na ma0 ns ys nf) na ma7 lo hi p0 p1.toInt from (zar_mk hzt_p0 (by omega) (by omega))), (show R_mp_checkArgument (RL_mp_check d) tf ta na ca p0 p1 ma cf ma7 cf8 from (Or.inl (Or.inl ⟨nc1, nc3, ma7, cf8, v10, e26, Or.inr ⟨nc27, Or.inr ⟨nc30, Or.inr ⟨nc33, Or.inr ⟨nc100, Or.inr ⟨nc103, Or.inr ⟨nc135, rfl, rfl⟩⟩⟩⟩⟩⟩⟩)))⟩) d_Mpg_checkArgument_92)
                  · exact absurd c167 (by decide)
    · have nc3 : p1.toInt = (107 : Int) := (i_eq (x := p1) (y := 107)).mp c3
      exfalso
      omega
  · have nc1 : p1.toInt = (105 : Int) := (i_eq (x := p1) (y := 105)).mp c1
    refine lv_aload_n S.x S.b d_Mpg_checkArgument_6 rfl (lv_at hl 0 rfl) ?_
    refine lv_iload_n S.x S.b d_Mpg_checkArgument_7 rfl (lv_at hl 1 rfl) ?_
    refine lv_iconst (v := 1) S.x S.b d_Mpg_checkArgument_8 (by decide) ?_
    first | refine px_calli (pr := []) (px_runV (As := [.int p0, .int 1]) (rest := []) S (hLC ma0 ys ns nf kn lo hi h r g tf ta pf na wa ca ef ea xf xa ma cf p0 1 (show 0 ≤ lo from g0) (show hi ≤ (pf 13).toInt from g1) (show (pf 13).toInt ≤ 2100 from g2) (show (tf 6).toInt ≤ 2049 from g3) (show (cf 33).toInt = kn from g4) (show 0 ≤ kn from g5) (show (cf 48).toInt = ns from g6) (show (cf 38).toInt = nf from g7) (show 0 ≤ nf from g8) (show 0 ≤ (1 : Int) from oz_19c3a41681) (show (1 : Int) ≤ 1 from oz_f9181dc4bb) htk (FsI.le (N' := (pf 13).toInt) hfs (by omega)) hwr (KnT.eq hkt (by omega)) (FnT.eq hft (by omega)) hks hfp han hec_p0 _) hT (pr := []) (pcs := [wdP cs h r g tf ta pf na ma wa cf ca ef ea xf xa]) hw (oX_call (P := (fun A U H => (oP A g U H))) (pr := []) oG_P hw hA hP) (px_recv hT hw 0 0 rfl rfl rfl) m12_217 m12_214 m12_216 ms_12_7 m1_21 q_Mpg_check ⟨show (4 * d + 12) + 1 ≤ (4 * d + 13) from (oz_8797106de7), show 8 + (8 + 11) + (200 * d + 420) ≤ (200 * d + 470) from (oz_0b8056306d)⟩ hl.1 rfl (Nat.le_of_ble_eq_true rfl) d_Mpg_checkArgument_9 ⟨Nat.le_of_ble_eq_true rfl, Nat.le_of_ble_eq_true rfl⟩) hw hA (fun v173 p172 H locs hp172 hw => ?_) | (refine px_calli (pr := []) (px_runV (As := [.int p0, .int 1]) (rest := []) S (hLC ma0 ys ns nf kn lo hi h r g tf ta pf na wa ca ef ea xf xa ma cf p0 1 (show 0 ≤ lo from by first | exact g0 | omega) (show hi ≤ (pf 13).toInt from by first | exact g1 | omega) (show (pf 13).toInt ≤ 2100 from by first | exact g2 | omega) (show (tf 6).toInt ≤ 2049 from by first | exact g3 | omega) (show (cf 33).toInt = kn from by first | exact g4 | omega) (show 0 ≤ kn from by first | exact g5 | omega) (show (cf 48).toInt = ns from by first | exact g6 | omega) (show (cf 38).toInt = nf from by first | exact g7 | omega) (show 0 ≤ nf from by first | exact g8 | omega) (show 0 ≤ (1 : Int) from by first | exact oz_19c3a41681 | omega) (show (1 : Int) ≤ 1 from by first | exact oz_f9181dc4bb | omega) htk (FsI.le (N' := (pf 13).toInt) hfs (by omega)) hwr (KnT.eq hkt (by omega)) (FnT.eq hft (by omega)) hks hfp han hec_p0 _) hT (pr := []) (pcs := [wdP cs h r g tf ta pf na ma wa cf ca ef ea xf xa]) hw (oX_call (P := (fun A U H => (oP A g U H))) (pr := []) oG_P hw hA hP) (px_recv hT hw 0 0 rfl rfl rfl) m12_217 m12_214 m12_216 ms_12_7 m1_21 q_Mpg_check ⟨show (4 * d + 12) + 1 ≤ (4 * d + 13) from (by first | exact oz_8797106de7 | omega), show 8 + (8 + 11) + (200 * d + 420) ≤ (200 * d + 470) from (by first | exact oz_0b8056306d | omega)⟩ hl.1 rfl (Nat.le_of_ble_eq_true rfl) d_Mpg_checkArgument_9 ⟨Nat.le_of_ble_eq_true rfl, Nat.le_of_ble_eq_true rfl⟩) hw hA (fun v173 p172 H locs hp172 hw => ?_))
    obtain ⟨ma170, cf171, rfl, e174, e175, e176, e177, e178, e179, e180, e181, e182, e183, e184, e185, e186, e187, e188, e189⟩ := hp172
    have e174 : KpE cf cf171 := e174
    have hke := (hke).tr e174
    have hkz_e174 := e174.2
    have e175 : WrV cf171 (tf 6).toInt := e175
    have hwr := e175
    have hw0_e175 := hwr.1
    have e176 : (cf171 33).toInt = (cf 33).toInt := e176
    have e177 : (cf171 38).toInt = (cf 38).toInt := e177
    have e178 : (cf171 48).toInt = (cf 48).toInt := e178
    have e179 : (cf171 46).toInt = (cf 46).toInt := e179
    have e180 : (cf171 47).toInt = (cf 47).toInt := e180
    have e181 : (cf171 57).toInt = (cf 57).toInt := e181
    have e182 : Ann na ma0 ma170 := e182
    have han := e182
    have e183 : FrC lo hi ma ma170 := e183
    have hfc := hfc.tr e183 (by omega) (by omega)
    have e184 : 0 ≤ v173.toInt := e184
    have e185 : v173.toInt ≤ 4 := e185
    have e186 : NmJ ta ca na ma170 kn p0 v173.toInt := e186
    have hnm_p0 := e186
    have e187 : ZTy cf171 (Gk ta ca na ma0 ns ys nf) na ma170 lo hi p0 v173.toInt := e187
    have hzt_p0 := e187
    have e188 : ZNm cf171 (1 : Int) v173.toInt := e188
    have hty_p0 := ZTy.num hzt_p0 e188
    have e189 : RL_mp_check d tf ta na ca p0 (1 : Int32) ma cf ma170 cf171 v173 := e189
    have lv173 := Int32.le_toInt v173
    have uv173 := Int32.toInt_lt v173
    refine lv_pop S.x S.b d_Mpg_checkArgument_12 rfl ?_
    refine lv_goto (tgt := 92) S.x S.b d_Mpg_checkArgument_13 (by decide) ?_
    first | exact px_vret S hr hlk hAe hw (Nat.le_of_ble_eq_true rfl) (Nat.le_of_ble_eq_true rfl) (⟨ma170, cf171, rfl, (show KpE cf cf171 from hke), (show WrV cf171 (tf 6).toInt from hwr), (show (cf171 33).toInt = (cf 33).toInt from e176), (show (cf171 38).toInt = (cf 38).toInt from e177), (show (cf171 48).toInt = (cf 48).toInt from e178), (show (cf171 46).toInt = (cf 46).toInt from e179), (show (cf171 47).toInt = (cf 47).toInt from e180), (show (cf171 57).toInt = (cf 57).toInt from e181), (show Ann na ma0 ma170 from han), (show FrC lo hi ma ma170 from hfc), (show ZAr cf171 (Gk ta ca na ma0 ns ys nf) na ma170 lo hi p0 p1.toInt from (by rw [show p1.toInt = 105 by omega]; exact zar_i hty_p0)), (show R_mp_checkArgument (RL_mp_check d) tf ta na ca p0 p1 ma cf ma170 cf171 from (Or.inl (Or.inr ⟨nc1, ma170, cf171, v173, e189, rfl, rfl⟩)))⟩) d_Mpg_checkArgument_92 | (exact px_vret S hr hlk hAe hw (Nat.le_of_ble_eq_true rfl) (Nat.le_of_ble_eq_true rfl) (⟨ma170, cf171, rfl, (show KpE cf cf171 from hke), (show WrV cf171 (tf 6).toInt from hwr), (show (cf171 33).toInt = (cf 33).toInt from by first | exact e176 | omega), (show (cf171 38).toInt = (cf 38).toInt from by first | exact e177 | omega), (show (cf171 48).toInt = (cf 48).toInt from by first | exact e178 | omega), (show (cf171 46).toInt = (cf 46).toInt from by first | exact e179 | omega), (show (cf171 47).toInt = (cf 47).toInt from by first | exact e180 | omega), (show (cf171 57).toInt = (cf 57).toInt from by first | exact e181 | omega), (show Ann na ma0 ma170 from han), (show FrC lo hi ma ma170 from hfc), (show ZAr cf171 (Gk ta ca na ma0 ns ys nf) na ma170 lo hi p0 p1.toInt from (by rw [show p1.toInt = 105 by omega]; exact zar_i hty_p0)), (show R_mp_checkArgument (RL_mp_check d) tf ta na ca p0 p1 ma cf ma170 cf171 from (Or.inl (Or.inr ⟨nc1, ma170, cf171, v173, e189, rfl, rfl⟩)))⟩) d_Mpg_checkArgument_92)
abbrev b_Mpg_checkCall : ByteArray := prog_16_method_79_code
def y_Mpg_checkCall : MethodName := ⟨"HomeSystemModel$Program", "checkCall", "(I)I"⟩
theorem d_Mpg_checkCall_0 : decode b_Mpg_checkCall 0 = .ok (.aload_n 0, 1) := by decide +kernel
theorem d_Mpg_checkCall_1 : decode b_Mpg_checkCall 1 = .ok (.getfield 210, 3) := by decide +kernel
theorem d_Mpg_checkCall_4 : decode b_Mpg_checkCall 4 = .ok (.iload_n 1, 1) := by decide +kernel
theorem d_Mpg_checkCall_5 : decode b_Mpg_checkCall 5 = .ok (.iaload, 1) := by decide +kernel
theorem d_Mpg_checkCall_6 : decode b_Mpg_checkCall 6 = .ok (.istore_n 2, 1) := by decide +kernel
theorem d_Mpg_checkCall_7 : decode b_Mpg_checkCall 7 = .ok (.aload_n 0, 1) := by decide +kernel
theorem d_Mpg_checkCall_8 : decode b_Mpg_checkCall 8 = .ok (.iload_n 2, 1) := by decide +kernel
theorem d_Mpg_checkCall_9 : decode b_Mpg_checkCall 9 = .ok (.invokevirtual 544, 3) := by decide +kernel
theorem d_Mpg_checkCall_12 : decode b_Mpg_checkCall 12 = .ok (.istore_n 3, 1) := by decide +kernel
theorem d_Mpg_checkCall_13 : decode b_Mpg_checkCall 13 = .ok (.iload_n 3, 1) := by decide +kernel
theorem d_Mpg_checkCall_14 : decode b_Mpg_checkCall 14 = .ok (.ifCond .lt 7, 3) := by decide +kernel
theorem d_Mpg_checkCall_17 : decode b_Mpg_checkCall 17 = .ok (.iconst (-1), 1) := by decide +kernel
theorem d_Mpg_checkCall_18 : decode b_Mpg_checkCall 18 = .ok (.goto 8, 3) := by decide +kernel
theorem d_Mpg_checkCall_21 : decode b_Mpg_checkCall 21 = .ok (.aload_n 0, 1) := by decide +kernel
theorem d_Mpg_checkCall_22 : decode b_Mpg_checkCall 22 = .ok (.iload_n 2, 1) := by decide +kernel
theorem d_Mpg_checkCall_23 : decode b_Mpg_checkCall 23 = .ok (.invokevirtual 541, 3) := by decide +kernel
theorem d_Mpg_checkCall_26 : decode b_Mpg_checkCall 26 = .ok (.istore 4, 2) := by decide +kernel
theorem d_Mpg_checkCall_28 : decode b_Mpg_checkCall 28 = .ok (.aload_n 0, 1) := by decide +kernel
theorem d_Mpg_checkCall_29 : decode b_Mpg_checkCall 29 = .ok (.iload_n 2, 1) := by decide +kernel
theorem d_Mpg_checkCall_30 : decode b_Mpg_checkCall 30 = .ok (.iconst 0, 1) := by decide +kernel
theorem d_Mpg_checkCall_31 : decode b_Mpg_checkCall 31 = .ok (.invokevirtual 559, 3) := by decide +kernel
theorem d_Mpg_checkCall_34 : decode b_Mpg_checkCall 34 = .ok (.ifCond .ge 16, 3) := by decide +kernel
theorem d_Mpg_checkCall_37 : decode b_Mpg_checkCall 37 = .ok (.iload_n 3, 1) := by decide +kernel
theorem d_Mpg_checkCall_38 : decode b_Mpg_checkCall 38 = .ok (.ifCond .ge 8, 3) := by decide +kernel
theorem d_Mpg_checkCall_41 : decode b_Mpg_checkCall 41 = .ok (.iload 4, 2) := by decide +kernel
theorem d_Mpg_checkCall_43 : decode b_Mpg_checkCall 43 = .ok (.ifCond .lt 7, 3) := by decide +kernel
theorem d_Mpg_checkCall_46 : decode b_Mpg_checkCall 46 = .ok (.iconst 1, 1) := by decide +kernel
theorem d_Mpg_checkCall_47 : decode b_Mpg_checkCall 47 = .ok (.goto 4, 3) := by decide +kernel
theorem d_Mpg_checkCall_50 : decode b_Mpg_checkCall 50 = .ok (.iconst 0, 1) := by decide +kernel
theorem d_Mpg_checkCall_51 : decode b_Mpg_checkCall 51 = .ok (.istore 5, 2) := by decide +kernel
theorem d_Mpg_checkCall_53 : decode b_Mpg_checkCall 53 = .ok (.iload 5, 2) := by decide +kernel
theorem d_Mpg_checkCall_55 : decode b_Mpg_checkCall 55 = .ok (.ifCond .ne 9, 3) := by decide +kernel
theorem d_Mpg_checkCall_58 : decode b_Mpg_checkCall 58 = .ok (.aload_n 0, 1) := by decide +kernel
theorem d_Mpg_checkCall_59 : decode b_Mpg_checkCall 59 = .ok (.iconst 2, 1) := by decide +kernel
theorem d_Mpg_checkCall_60 : decode b_Mpg_checkCall 60 = .ok (.iload_n 2, 1) := by decide +kernel
theorem d_Mpg_checkCall_61 : decode b_Mpg_checkCall 61 = .ok (.invokevirtual 565, 3) := by decide +kernel
theorem d_Mpg_checkCall_64 : decode b_Mpg_checkCall 64 = .ok (.aload_n 0, 1) := by decide +kernel
theorem d_Mpg_checkCall_65 : decode b_Mpg_checkCall 65 = .ok (.getfield 219, 3) := by decide +kernel
theorem d_Mpg_checkCall_68 : decode b_Mpg_checkCall 68 = .ok (.iload_n 1, 1) := by decide +kernel
theorem d_Mpg_checkCall_69 : decode b_Mpg_checkCall 69 = .ok (.iload_n 3, 1) := by decide +kernel
theorem d_Mpg_checkCall_70 : decode b_Mpg_checkCall 70 = .ok (.ifCond .lt 7, 3) := by decide +kernel
theorem d_Mpg_checkCall_73 : decode b_Mpg_checkCall 73 = .ok (.iload_n 3, 1) := by decide +kernel
theorem d_Mpg_checkCall_74 : decode b_Mpg_checkCall 74 = .ok (.goto 8, 3) := by decide +kernel
theorem d_Mpg_checkCall_77 : decode b_Mpg_checkCall 77 = .ok (.bipush 100, 2) := by decide +kernel
theorem d_Mpg_checkCall_79 : decode b_Mpg_checkCall 79 = .ok (.iload 4, 2) := by decide +kernel
theorem d_Mpg_checkCall_81 : decode b_Mpg_checkCall 81 = .ok (.iadd, 1) := by decide +kernel
theorem d_Mpg_checkCall_82 : decode b_Mpg_checkCall 82 = .ok (.iastore, 1) := by decide +kernel
theorem d_Mpg_checkCall_83 : decode b_Mpg_checkCall 83 = .ok (.iconst 0, 1) := by decide +kernel
theorem d_Mpg_checkCall_84 : decode b_Mpg_checkCall 84 = .ok (.istore 6, 2) := by decide +kernel
theorem d_Mpg_checkCall_86 : decode b_Mpg_checkCall 86 = .ok (.aload_n 0, 1) := by decide +kernel
theorem d_Mpg_checkCall_87 : decode b_Mpg_checkCall 87 = .ok (.getfield 216, 3) := by decide +kernel
theorem d_Mpg_checkCall_90 : decode b_Mpg_checkCall 90 = .ok (.iload_n 1, 1) := by decide +kernel
theorem d_Mpg_checkCall_91 : decode b_Mpg_checkCall 91 = .ok (.iaload, 1) := by decide +kernel
theorem d_Mpg_checkCall_92 : decode b_Mpg_checkCall 92 = .ok (.istore 7, 2) := by decide +kernel
theorem d_Mpg_checkCall_94 : decode b_Mpg_checkCall 94 = .ok (.iload 7, 2) := by decide +kernel
theorem d_Mpg_checkCall_96 : decode b_Mpg_checkCall 96 = .ok (.ifCond .lt 47, 3) := by decide +kernel
theorem d_Mpg_checkCall_99 : decode b_Mpg_checkCall 99 = .ok (.iload 5, 2) := by decide +kernel
theorem d_Mpg_checkCall_101 : decode b_Mpg_checkCall 101 = .ok (.ifCond .eq 15, 3) := by decide +kernel
theorem d_Mpg_checkCall_104 : decode b_Mpg_checkCall 104 = .ok (.aload_n 0, 1) := by decide +kernel
theorem d_Mpg_checkCall_105 : decode b_Mpg_checkCall 105 = .ok (.iload 4, 2) := by decide +kernel
theorem d_Mpg_checkCall_107 : decode b_Mpg_checkCall 107 = .ok (.iload_n 3, 1) := by decide +kernel
theorem d_Mpg_checkCall_108 : decode b_Mpg_checkCall 108 = .ok (.iload 6, 2) := by decide +kernel
theorem d_Mpg_checkCall_110 : decode b_Mpg_checkCall 110 = .ok (.invokevirtual 587, 3) := by decide +kernel
theorem d_Mpg_checkCall_113 : decode b_Mpg_checkCall 113 = .ok (.goto 5, 3) := by decide +kernel
theorem d_Mpg_checkCall_116 : decode b_Mpg_checkCall 116 = .ok (.bipush 32, 2) := by decide +kernel
theorem d_Mpg_checkCall_118 : decode b_Mpg_checkCall 118 = .ok (.istore 8, 2) := by decide +kernel
theorem d_Mpg_checkCall_120 : decode b_Mpg_checkCall 120 = .ok (.aload_n 0, 1) := by decide +kernel
theorem d_Mpg_checkCall_121 : decode b_Mpg_checkCall 121 = .ok (.iload 7, 2) := by decide +kernel
theorem d_Mpg_checkCall_123 : decode b_Mpg_checkCall 123 = .ok (.iload 8, 2) := by decide +kernel
theorem d_Mpg_checkCall_125 : decode b_Mpg_checkCall 125 = .ok (.invokevirtual 590, 3) := by decide +kernel
theorem d_Mpg_checkCall_128 : decode b_Mpg_checkCall 128 = .ok (.iinc 6 1, 3) := by decide +kernel
theorem d_Mpg_checkCall_131 : decode b_Mpg_checkCall 131 = .ok (.aload_n 0, 1) := by decide +kernel
theorem d_Mpg_checkCall_132 : decode b_Mpg_checkCall 132 = .ok (.getfield 228, 3) := by decide +kernel
theorem d_Mpg_checkCall_135 : decode b_Mpg_checkCall 135 = .ok (.iload 7, 2) := by decide +kernel
theorem d_Mpg_checkCall_137 : decode b_Mpg_checkCall 137 = .ok (.iaload, 1) := by decide +kernel
theorem d_Mpg_checkCall_138 : decode b_Mpg_checkCall 138 = .ok (.istore 7, 2) := by decide +kernel
theorem d_Mpg_checkCall_140 : decode b_Mpg_checkCall 140 = .ok (.goto (-46), 3) := by decide +kernel
theorem d_Mpg_checkCall_143 : decode b_Mpg_checkCall 143 = .ok (.iload 5, 2) := by decide +kernel
theorem d_Mpg_checkCall_145 : decode b_Mpg_checkCall 145 = .ok (.ifCond .ne 5, 3) := by decide +kernel
theorem d_Mpg_checkCall_148 : decode b_Mpg_checkCall 148 = .ok (.iconst 0, 1) := by decide +kernel
theorem d_Mpg_checkCall_149 : decode b_Mpg_checkCall 149 = .ok (.ireturn, 1) := by decide +kernel
theorem d_Mpg_checkCall_150 : decode b_Mpg_checkCall 150 = .ok (.iload 6, 2) := by decide +kernel
theorem d_Mpg_checkCall_152 : decode b_Mpg_checkCall 152 = .ok (.ifCond .ne 19, 3) := by decide +kernel
theorem d_Mpg_checkCall_155 : decode b_Mpg_checkCall 155 = .ok (.aload_n 0, 1) := by decide +kernel
theorem d_Mpg_checkCall_156 : decode b_Mpg_checkCall 156 = .ok (.iload 4, 2) := by decide +kernel
theorem d_Mpg_checkCall_158 : decode b_Mpg_checkCall 158 = .ok (.iload_n 3, 1) := by decide +kernel
theorem d_Mpg_checkCall_159 : decode b_Mpg_checkCall 159 = .ok (.iconst 0, 1) := by decide +kernel
theorem d_Mpg_checkCall_160 : decode b_Mpg_checkCall 160 = .ok (.invokevirtual 587, 3) := by decide +kernel
theorem d_Mpg_checkCall_163 : decode b_Mpg_checkCall 163 = .ok (.bipush 32, 2) := by decide +kernel
theorem d_Mpg_checkCall_165 : decode b_Mpg_checkCall 165 = .ok (.if_icmp .eq 42, 3) := by decide +kernel
theorem d_Mpg_checkCall_168 : decode b_Mpg_checkCall 168 = .ok (.goto 33, 3) := by decide +kernel
theorem d_Mpg_checkCall_171 : decode b_Mpg_checkCall 171 = .ok (.aload_n 0, 1) := by decide +kernel
theorem d_Mpg_checkCall_172 : decode b_Mpg_checkCall 172 = .ok (.iload 4, 2) := by decide +kernel
theorem d_Mpg_checkCall_174 : decode b_Mpg_checkCall 174 = .ok (.iload_n 3, 1) := by decide +kernel
theorem d_Mpg_checkCall_175 : decode b_Mpg_checkCall 175 = .ok (.iload 6, 2) := by decide +kernel
theorem d_Mpg_checkCall_177 : decode b_Mpg_checkCall 177 = .ok (.iconst 1, 1) := by decide +kernel
theorem d_Mpg_checkCall_178 : decode b_Mpg_checkCall 178 = .ok (.isub, 1) := by decide +kernel
theorem d_Mpg_checkCall_179 : decode b_Mpg_checkCall 179 = .ok (.invokevirtual 587, 3) := by decide +kernel
theorem d_Mpg_checkCall_182 : decode b_Mpg_checkCall 182 = .ok (.bipush 32, 2) := by decide +kernel
theorem d_Mpg_checkCall_184 : decode b_Mpg_checkCall 184 = .ok (.if_icmp .eq 17, 3) := by decide +kernel
theorem d_Mpg_checkCall_187 : decode b_Mpg_checkCall 187 = .ok (.aload_n 0, 1) := by decide +kernel
theorem d_Mpg_checkCall_188 : decode b_Mpg_checkCall 188 = .ok (.iload 4, 2) := by decide +kernel
theorem d_Mpg_checkCall_190 : decode b_Mpg_checkCall 190 = .ok (.iload_n 3, 1) := by decide +kernel
theorem d_Mpg_checkCall_191 : decode b_Mpg_checkCall 191 = .ok (.iload 6, 2) := by decide +kernel
theorem d_Mpg_checkCall_193 : decode b_Mpg_checkCall 193 = .ok (.invokevirtual 587, 3) := by decide +kernel
theorem d_Mpg_checkCall_196 : decode b_Mpg_checkCall 196 = .ok (.bipush 32, 2) := by decide +kernel
theorem d_Mpg_checkCall_198 : decode b_Mpg_checkCall 198 = .ok (.if_icmp .eq 9, 3) := by decide +kernel
theorem d_Mpg_checkCall_201 : decode b_Mpg_checkCall 201 = .ok (.aload_n 0, 1) := by decide +kernel
theorem d_Mpg_checkCall_202 : decode b_Mpg_checkCall 202 = .ok (.iconst 4, 1) := by decide +kernel
theorem d_Mpg_checkCall_203 : decode b_Mpg_checkCall 203 = .ok (.iload_n 2, 1) := by decide +kernel
theorem d_Mpg_checkCall_204 : decode b_Mpg_checkCall 204 = .ok (.invokevirtual 565, 3) := by decide +kernel
theorem d_Mpg_checkCall_207 : decode b_Mpg_checkCall 207 = .ok (.iload_n 3, 1) := by decide +kernel
theorem d_Mpg_checkCall_208 : decode b_Mpg_checkCall 208 = .ok (.ifCond .lt 26, 3) := by decide +kernel
theorem d_Mpg_checkCall_211 : decode b_Mpg_checkCall 211 = .ok (.aload_n 0, 1) := by decide +kernel
theorem d_Mpg_checkCall_212 : decode b_Mpg_checkCall 212 = .ok (.getfield 187, 3) := by decide +kernel
theorem d_Mpg_checkCall_215 : decode b_Mpg_checkCall 215 = .ok (.iload_n 3, 1) := by decide +kernel
theorem d_Mpg_checkCall_216 : decode b_Mpg_checkCall 216 = .ok (.aaload, 1) := by decide +kernel
theorem d_Mpg_checkCall_217 : decode b_Mpg_checkCall 217 = .ok (.iconst 0, 1) := by decide +kernel
theorem d_Mpg_checkCall_218 : decode b_Mpg_checkCall 218 = .ok (.invokevirtual 310, 3) := by decide +kernel
theorem d_Mpg_checkCall_221 : decode b_Mpg_checkCall 221 = .ok (.bipush 118, 2) := by decide +kernel
theorem d_Mpg_checkCall_223 : decode b_Mpg_checkCall 223 = .ok (.if_icmp .ne 7, 3) := by decide +kernel
theorem d_Mpg_checkCall_226 : decode b_Mpg_checkCall 226 = .ok (.iconst 1, 1) := by decide +kernel
theorem d_Mpg_checkCall_227 : decode b_Mpg_checkCall 227 = .ok (.goto 28, 3) := by decide +kernel
theorem d_Mpg_checkCall_230 : decode b_Mpg_checkCall 230 = .ok (.iconst 0, 1) := by decide +kernel
theorem d_Mpg_checkCall_231 : decode b_Mpg_checkCall 231 = .ok (.goto 24, 3) := by decide +kernel
theorem d_Mpg_checkCall_234 : decode b_Mpg_checkCall 234 = .ok (.aload_n 0, 1) := by decide +kernel
theorem d_Mpg_checkCall_235 : decode b_Mpg_checkCall 235 = .ok (.getfield 231, 3) := by decide +kernel
theorem d_Mpg_checkCall_238 : decode b_Mpg_checkCall 238 = .ok (.aload_n 0, 1) := by decide +kernel
theorem d_Mpg_checkCall_239 : decode b_Mpg_checkCall 239 = .ok (.getfield 255, 3) := by decide +kernel
theorem d_Mpg_checkCall_242 : decode b_Mpg_checkCall 242 = .ok (.iload 4, 2) := by decide +kernel
theorem d_Mpg_checkCall_244 : decode b_Mpg_checkCall 244 = .ok (.iaload, 1) := by decide +kernel
theorem d_Mpg_checkCall_245 : decode b_Mpg_checkCall 245 = .ok (.iaload, 1) := by decide +kernel
theorem d_Mpg_checkCall_246 : decode b_Mpg_checkCall 246 = .ok (.iconst 2, 1) := by decide +kernel
theorem d_Mpg_checkCall_247 : decode b_Mpg_checkCall 247 = .ok (.if_icmp .ne 7, 3) := by decide +kernel
theorem d_Mpg_checkCall_250 : decode b_Mpg_checkCall 250 = .ok (.iconst 1, 1) := by decide +kernel
theorem d_Mpg_checkCall_251 : decode b_Mpg_checkCall 251 = .ok (.goto 4, 3) := by decide +kernel
theorem d_Mpg_checkCall_254 : decode b_Mpg_checkCall 254 = .ok (.iconst 0, 1) := by decide +kernel
theorem d_Mpg_checkCall_255 : decode b_Mpg_checkCall 255 = .ok (.istore 7, 2) := by decide +kernel
theorem d_Mpg_checkCall_257 : decode b_Mpg_checkCall 257 = .ok (.iload 7, 2) := by decide +kernel
theorem d_Mpg_checkCall_259 : decode b_Mpg_checkCall 259 = .ok (.ifCond .eq 7, 3) := by decide +kernel
theorem d_Mpg_checkCall_262 : decode b_Mpg_checkCall 262 = .ok (.iconst 4, 1) := by decide +kernel
theorem d_Mpg_checkCall_263 : decode b_Mpg_checkCall 263 = .ok (.goto 4, 3) := by decide +kernel
theorem d_Mpg_checkCall_266 : decode b_Mpg_checkCall 266 = .ok (.iconst 1, 1) := by decide +kernel
theorem d_Mpg_checkCall_267 : decode b_Mpg_checkCall 267 = .ok (.ireturn, 1) := by decide +kernel
theorem q_Mpg_checkCall : px_y y_Mpg_checkCall 1 := by unfold px_y; decide +kernel
set_option maxHeartbeats 4000000 in
set_option maxRecDepth 100000 in
theorem c_mp_checkCall (l : Launch) (D : va_G) (cs : Nat → ClassId) (ma0 : Nat → Nat → Int32) (ys : Int) (ns : Int) (nf : Int) (kn : Int) (d : Nat) (lo : Int) (hi : Int) (h : Nat) (r : Nat → Nat) (g : Nat → Nat → Option Nat) (tf : Nat → Int32) (ta : Nat → Nat → Int32) (pf : Nat → Int32) (na : Nat → Nat → Int32) (wa : Nat → Nat → Int32) (ca : Nat → Nat → Int32) (ef : Nat → Int32) (ea : Nat → Nat → Int32) (xf : Nat → Int32) (xa : Nat → Nat → Int32) (ma : Nat → Nat → Int32) (cf : Nat → Int32) (p0 : Int32)  (g0 : 0 ≤ lo) (g1 : hi ≤ (pf 13).toInt) (g2 : (pf 13).toInt ≤ 2100) (g3 : (tf 6).toInt ≤ 2049) (g4 : (cf 33).toInt = kn) (g5 : 0 ≤ kn) (g6 : (cf 48).toInt = ns) (g7 : (cf 38).toInt = nf) (g8 : 0 ≤ nf) (g9 : (na 14 p0.toNatClampNeg).toInt = 3) (htk : TkI tf ta) (hfs : FsI (tf 6).toInt (pf 13).toInt na) (hwr : WrV cf (tf 6).toInt) (hkt : KnT (tf 6).toInt ca (cf 33).toInt) (hft : FnT (tf 6).toInt na ca (cf 38).toInt) (hks : KnS ca kn ns ys) (hfp : FnP na ca nf) (han : Ann na ma0 ma) (hec : EcV ta (tf 6).toInt na ma0 (d + 1) lo hi p0) (hLC : ChkC l D cs d) : MetI l y_Mpg_checkCall b_Mpg_checkCall 9 (.int) D cs (4 * d + 14) (200 * d + 540) (0) (0) [.ref h, .int p0] [wdP cs h r g tf ta pf na ma wa cf ca ef ea xf xa] (oX (fun A U H => (oP A g U H)) [wdP cs h r g tf ta pf na ma wa cf ca ef ea xf xa]) (fun v ps => ∃ (ma' : Nat → Nat → Int32) (cf' : Nat → Int32), (ps = [wdP cs h r g tf ta pf na ma' wa cf' ca ef ea xf xa]) ∧ (KpE cf cf') ∧ (WrV cf' (tf 6).toInt) ∧ ((cf' 33).toInt = (cf 33).toInt) ∧ ((cf' 38).toInt = (cf 38).toInt) ∧ ((cf' 48).toInt = (cf 48).toInt) ∧ ((cf' 46).toInt = (cf 46).toInt) ∧ ((cf' 47).toInt = (cf 47).toInt) ∧ ((cf' 57).toInt = (cf 57).toInt) ∧ (Ann na ma0 ma') ∧ (FrC lo hi ma ma') ∧ (0 ≤ v.toInt) ∧ (v.toInt ≤ 4) ∧ (ZTy cf' (Gk ta ca na ma0 ns ys nf) na ma' lo hi p0 v.toInt) ∧ (R_mp_checkCall (RL_mp_check d) tf ta na ca p0 ma cf ma' cf' v)) := by
  refine px_enter (by decide) (Nat.le_of_ble_eq_true rfl) ?_
  intro p e s m below meth c A ls hAe S hr hlk hnm hA hT hX hw hl
  have hl : lv_has ls 9 [(0, .ref h), (1, .int p0)] := hl
  have lp0 := Int32.le_toInt p0
  have up0 := Int32.toInt_lt p0
  have cstm1 : ((-1) : Int32).toInt = (-1) := rfl
  have cst0 : (0 : Int32).toInt = 0 := rfl
  have cst1 : (1 : Int32).toInt = 1 := rfl
  have cst2 : (2 : Int32).toInt = 2 := rfl
  have cst4 : (4 : Int32).toInt = 4 := rfl
  have cst32 : (32 : Int32).toInt = 32 := rfl
  have cst100 : (100 : Int32).toInt = 100 := rfl
  have cst118 : (118 : Int32).toInt = 118 := rfl
  have hX : (fun A U H => (oP A g U H)) A s s.heap := by rw [hAe]; exact hX
  have hP := hX
  have hZ := hP.1
  have hF0 := hP.2.1
  have hke : KpE cf cf := KpE.rf
  have hfc : FrC lo hi ma ma := FrC.rf
  have hwr0 := hwr.1
  have hk11 := hkt.1
  have hf11 := hft.1
  have hec_p0 := hec
  have hrg := EcV.rng hec
  have J94 : ∀ (n_94 : Nat) (ma_94 : Nat → Nat → Int32) (cf_94 : Nat → Int32) (mid_94 : Int) (x94_2 x94_3 x94_4 x94_5 x94_6 x94_7 : Int32) (H : Heap) (locs : List Loc) (ls : Array Slot), (KpE cf cf_94) → (WrV cf_94 (tf 6).toInt) → ((cf_94 33).toInt = (cf 33).toInt) → ((cf_94 38).toInt = (cf 38).toInt) → ((cf_94 48).toInt = (cf 48).toInt) → ((cf_94 46).toInt = (cf 46).toInt) → ((cf_94 47).toInt = (cf 47).toInt) → ((cf_94 57).toInt = (cf 57).toInt) → (Ann na ma0 ma_94) → (FrC lo hi ma ma_94) → (-1 ≤ x94_3.toInt) → (x94_3.toInt ≤ 9) → (-1 ≤ x94_4.toInt) → (x94_4.toInt < nf) → (0 ≤ x94_5.toInt) → (x94_5.toInt ≤ 1) → (x94_5.toInt = 1 → (0 ≤ x94_3.toInt ∧ x94_4.toInt = -1) ∨ (x94_3.toInt < 0 ∧ 0 ≤ x94_4.toInt)) → (x94_5.toInt = 0 → 1 ≤ (cf_94 30).toInt) → (0 ≤ x94_6.toInt) → (x94_6.toInt + p0.toInt + 1 ≤ mid_94) → (0 ≤ x94_2.toInt) → (x94_2.toInt < (tf 6).toInt) → (p0.toInt + 1 ≤ mid_94) → (mid_94 ≤ hi) → (RcR ta (tf 6).toInt na ma0 d mid_94 hi x94_7) → (KbI ma_94 p0 x94_5.toInt (cod x94_4.toInt x94_3.toInt)) → (ZTa cf_94 (Gk ta ca na ma0 ns ys nf) na ma_94 (p0.toInt + 1) mid_94 (cod x94_4.toInt x94_3.toInt) (na 17 p0.toNatClampNeg) x94_7 x94_6.toInt) → (K_mp_checkCall_94 (RL_mp_check d) tf ta na ca p0 ma cf ma_94 cf_94 x94_2 x94_3 x94_4 x94_5 x94_6 x94_7) → hi - mid_94 < (n_94 : Int) → pw D A s.heap H locs [wdP cs h r g tf ta pf na ma_94 wa cf_94 ca ef ea xf xa] → lv_has ls 9 [(0, .ref h), (1, .int p0), (2, .int x94_2), (3, .int x94_3), (4, .int x94_4), (5, .int x94_5), (6, .int x94_6), (7, .int x94_7)] → W p l e { frames := (4 * d + 14), cells := 0, slots := 0, locals := (200 * d + 540) } s m [.ref h, .int p0].toArray below meth c H locs 0 0 (MQ below (va_Qi (fun v ps => ∃ (ma' : Nat → Nat → Int32) (cf' : Nat → Int32), (ps = [wdP cs h r g tf ta pf na ma' wa cf' ca ef ea xf xa]) ∧ (KpE cf cf') ∧ (WrV cf' (tf 6).toInt) ∧ ((cf' 33).toInt = (cf 33).toInt) ∧ ((cf' 38).toInt = (cf 38).toInt) ∧ ((cf' 48).toInt = (cf 48).toInt) ∧ ((cf' 46).toInt = (cf 46).toInt) ∧ ((cf' 47).toInt = (cf 47).toInt) ∧ ((cf' 57).toInt = (cf 57).toInt) ∧ (Ann na ma0 ma') ∧ (FrC lo hi ma ma') ∧ (0 ≤ v.toInt) ∧ (v.toInt ≤ 4) ∧ (ZTy cf' (Gk ta ca na ma0 ns ys nf) na ma' lo hi p0 v.toInt) ∧ (R_mp_checkCall (RL_mp_check d) tf ta na ca p0 ma cf ma' cf' v)) (pc_B D (va_A ([wdP cs h r g tf ta pf na ma wa cf ca ef ea xf xa] : List va_W).flatten s.heap.size)) (va_A ([wdP cs h r g tf ta pf na ma wa cf ca ef ea xf xa] : List va_W).flatten s.heap.size)) [.ref h, .int p0].toArray s 0 0 A) (F0 m 94 ls []) := by
    intro  n_94
    induction n_94 with
    | zero =>
      intro ma_94 cf_94 mid_94 x94_2 x94_3 x94_4 x94_5 x94_6 x94_7 H locs ls k94_0 k94_1 k94_2 k94_3 k94_4 k94_5 k94_6 k94_7 k94_8 k94_9 k94_10 k94_11 k94_12 k94_13 k94_14 k94_15 k94_16 k94_17 k94_18 k94_19 k94_20 k94_21 k94_22 k94_23 k94_24 k94_25 k94_26 k94_27 hm hw hl
      have lx94_2 := Int32.le_toInt x94_2
      have ux94_2 := Int32.toInt_lt x94_2
      have lx94_3 := Int32.le_toInt x94_3
      have ux94_3 := Int32.toInt_lt x94_3
      have lx94_4 := Int32.le_toInt x94_4
      have ux94_4 := Int32.toInt_lt x94_4
      have lx94_5 := Int32.le_toInt x94_5
      have ux94_5 := Int32.toInt_lt x94_5
      have lx94_6 := Int32.le_toInt x94_6
      have ux94_6 := Int32.toInt_lt x94_6
      have lx94_7 := Int32.le_toInt x94_7
      have ux94_7 := Int32.toInt_lt x94_7
      have hke := k94_0
      have hwr := k94_1
      have hw0_k94_1 := hwr.1
      have han := k94_8
      have hfc := k94_9
      have hrr := k94_24
      have hkb := k94_25
      have hzta := k94_26
      exact absurd hm (by omega)
    | succ n_94 ih94 =>
      intro ma_94 cf_94 mid_94 x94_2 x94_3 x94_4 x94_5 x94_6 x94_7 H locs ls k94_0 k94_1 k94_2 k94_3 k94_4 k94_5 k94_6 k94_7 k94_8 k94_9 k94_10 k94_11 k94_12 k94_13 k94_14 k94_15 k94_16 k94_17 k94_18 k94_19 k94_20 k94_21 k94_22 k94_23 k94_24 k94_25 k94_26 k94_27 hm hw hl
      have lx94_2 := Int32.le_toInt x94_2
      have ux94_2 := Int32.toInt_lt x94_2
      have lx94_3 := Int32.le_toInt x94_3
      have ux94_3 := Int32.toInt_lt x94_3
      have lx94_4 := Int32.le_toInt x94_4
      have ux94_4 := Int32.toInt_lt x94_4
      have lx94_5 := Int32.le_toInt x94_5
      have ux94_5 := Int32.toInt_lt x94_5
      have lx94_6 := Int32.le_toInt x94_6
      have ux94_6 := Int32.toInt_lt x94_6
      have lx94_7 := Int32.le_toInt x94_7
      have ux94_7 := Int32.toInt_lt x94_7
      have hke := k94_0
      have hwr := k94_1
      have hw0_k94_1 := hwr.1
      have han := k94_8
      have hfc := k94_9
      have hrr := k94_24
      have hkb := k94_25
      have hzta := k94_26
      refine lv_iload S.x S.b d_Mpg_checkCall_94 (lv_at hl 7 rfl) ?_
      refine lv_if_lt (tgt := 143) S.x S.b d_Mpg_checkCall_96 (by decide) (fun c1 => ?_) (fun c1 => ?_)
      · have nc1 : x94_7.toInt < (0 : Int) := (i_lt (x := x94_7) (y := 0)).mp c1
        refine lv_iload S.x S.b d_Mpg_checkCall_143 (lv_at hl 5 rfl) ?_
        refine lv_if_ne (tgt := 150) S.x S.b d_Mpg_checkCall_145 (by decide) (fun c3 => ?_) (fun c3 => ?_)
        · have nc3 : ¬ x94_5.toInt = (0 : Int) := mt (i_eq (x := x94_5) (y := 0)).mpr c3
          refine lv_iload S.x S.b d_Mpg_checkCall_150 (lv_at hl 6 rfl) ?_
          refine lv_if_ne (tgt := 171) S.x S.b d_Mpg_checkCall_152 (by decide) (fun c5 => ?_) (fun c5 => ?_)
          · have nc5 : ¬ x94_6.toInt = (0 : Int) := mt (i_eq (x := x94_6) (y := 0)).mpr c5
            refine lv_aload_n S.x S.b d_Mpg_checkCall_171 rfl (lv_at hl 0 rfl) ?_
            refine lv_iload S.x S.b d_Mpg_checkCall_172 (lv_at hl 4 rfl) ?_
            refine lv_iload_n S.x S.b d_Mpg_checkCall_174 rfl (lv_at hl 3 rfl) ?_
            refine lv_iload S.x S.b d_Mpg_checkCall_175 (lv_at hl 6 rfl) ?_
            refine lv_iconst (v := 1) S.x S.b d_Mpg_checkCall_177 (by decide) ?_
            refine lv_isub S.x S.b d_Mpg_checkCall_178 ?_
            refine lv_topi (fun z7 ez7 => ?_)
            have tz7 : z7.toInt = (x94_6.toInt - (1 : Int) + 2147483648) % 4294967296 - 2147483648 := by rw [ez7]; exact i_sub x94_6 1
            have lz7 := Int32.le_toInt z7
            have uz7 := Int32.toInt_lt z7
            try replace tz7 : z7.toInt = x94_6.toInt - (1 : Int) := by omega
            first | refine px_calli (pr := []) (px_runV (As := [.int x94_4, .int x94_3, .int z7]) (rest := []) S (c_mp_taken l D cs h r g tf ta pf na ma_94 wa cf_94 ca ef ea xf xa x94_4 x94_3 z7  (show -1 ≤ x94_4.toInt from k94_12) (show x94_4.toInt < (cf_94 38).toInt from (oz_0f2ac8ea3f k94_3 k94_13 g7)) (show x94_4.toInt < 0 → 0 ≤ x94_3.toInt ∧ x94_3.toInt < 10 from by omega) (show 0 ≤ z7.toInt from (oz_229fe14250 tz7 k94_18 nc5)) (show z7.toInt ≤ 4000 from (oz_ec25f4eec3 tz7 k94_19 hrg.2.2 k94_23 g1 g2)) (show 0 ≤ (cf_94 38).toInt from (oz_e2fef14871 k94_3 g7 g8)) htk (FnT.eq hft (by omega)) (FnP.eq hfp (by omega)) _) hT (pr := []) (pcs := [wdP cs h r g tf ta pf na ma_94 wa cf_94 ca ef ea xf xa]) hw (oX_call (P := (fun A U H => (oP A g U H))) (pr := []) oG_P hw hA hP) (px_recv hT hw 0 0 rfl rfl rfl) m12_229 m12_226 m12_228 ms_12_10 m1_21 q_Mpg_taken ⟨show 4 + 1 ≤ (4 * d + 14) from (oz_0cd0036c91), show 8 + (6 + 11) + 140 ≤ (200 * d + 540) from (oz_dff5f80a3a)⟩ hl.1 rfl (Nat.le_of_ble_eq_true rfl) d_Mpg_checkCall_179 ⟨Nat.le_of_ble_eq_true rfl, Nat.le_of_ble_eq_true rfl⟩) hw hA (fun v9 p8 H locs hp8 hw => ?_) | (refine px_calli (pr := []) (px_runV (As := [.int x94_4, .int x94_3, .int z7]) (rest := []) S (c_mp_taken l D cs h r g tf ta pf na ma_94 wa cf_94 ca ef ea xf xa x94_4 x94_3 z7  (show -1 ≤ x94_4.toInt from by first | exact k94_12 | omega) (show x94_4.toInt < (cf_94 38).toInt from by first | exact oz_0f2ac8ea3f k94_3 k94_13 g7 | omega) (show x94_4.toInt < 0 → 0 ≤ x94_3.toInt ∧ x94_3.toInt < 10 from by omega) (show 0 ≤ z7.toInt from by first | exact oz_229fe14250 tz7 k94_18 nc5 | omega) (show z7.toInt ≤ 4000 from by first | exact oz_ec25f4eec3 tz7 k94_19 hrg.2.2 k94_23 g1 g2 | omega) (show 0 ≤ (cf_94 38).toInt from by first | exact oz_e2fef14871 k94_3 g7 g8 | omega) htk (FnT.eq hft (by omega)) (FnP.eq hfp (by omega)) _) hT (pr := []) (pcs := [wdP cs h r g tf ta pf na ma_94 wa cf_94 ca ef ea xf xa]) hw (oX_call (P := (fun A U H => (oP A g U H))) (pr := []) oG_P hw hA hP) (px_recv hT hw 0 0 rfl rfl rfl) m12_229 m12_226 m12_228 ms_12_10 m1_21 q_Mpg_taken ⟨show 4 + 1 ≤ (4 * d + 14) from (by first | exact oz_0cd0036c91 | omega), show 8 + (6 + 11) + 140 ≤ (200 * d + 540) from (by first | exact oz_dff5f80a3a | omega)⟩ hl.1 rfl (Nat.le_of_ble_eq_true rfl) d_Mpg_checkCall_179 ⟨Nat.le_of_ble_eq_true rfl, Nat.le_of_ble_eq_true rfl⟩) hw hA (fun v9 p8 H locs hp8 hw => ?_))
            obtain ⟨rfl, e10, e11⟩ := hp8
            have e10 : TkV na ma_94 ca x94_4.toInt x94_3.toInt z7.toInt v9.toInt := e10
            have e11 : R_mp_taken na ma_94 ca x94_4 x94_3 z7 v9 := e11
            have lv9 := Int32.le_toInt v9
            have uv9 := Int32.toInt_lt v9
            have hcn_179 : CeN nf (cod x94_4.toInt x94_3.toInt) := cen_mk (by omega); have htv_179 := tkv_at (ta := ta) (ns := ns) (ys := ys) e10 han hfp hcn_179; have htg_179 := tkv_rng e10 hcn_179
            refine lv_bipush (v := 32) S.x S.b d_Mpg_checkCall_182 (by decide) ?_
            refine lv_icmp_eq (tgt := 201) S.x S.b d_Mpg_checkCall_184 (by decide) (fun c12 => ?_) (fun c12 => ?_)
            · have nc12 : v9.toInt = (32 : Int) := (i_eq (x := v9) (y := 32)).mp c12
              refine lv_aload_n S.x S.b d_Mpg_checkCall_201 rfl (lv_at hl 0 rfl) ?_
              refine lv_iconst (v := 4) S.x S.b d_Mpg_checkCall_202 (by decide) ?_
              refine lv_iload_n S.x S.b d_Mpg_checkCall_203 rfl (lv_at hl 2 rfl) ?_
              first | refine px_callv (pr := []) (px_runV (As := [.int 4, .int x94_2]) (rest := []) S (c_mp_bad l D cs h r g tf ta pf na ma_94 wa ca ef ea xf xa cf_94 4 x94_2  (show 1 ≤ (4 : Int) from oz_3c03087ebf) (show 0 ≤ x94_2.toInt from k94_20) (show x94_2.toInt < (tf 6).toInt from k94_21) htk hwr _) hT (pr := []) (pcs := [wdP cs h r g tf ta pf na ma_94 wa cf_94 ca ef ea xf xa]) hw px_X.tt (px_recv hT hw 0 0 rfl rfl rfl) m12_173 m12_170 m12_172 ms_11_12 m1_21 q_Mpg_bad ⟨show 0 + 1 ≤ (4 * d + 14) from (oz_90c46cace3), show 8 + (3 + 11) + 0 ≤ (200 * d + 540) from (oz_2ba881113e)⟩ hl.1 rfl (Nat.le_of_ble_eq_true rfl) d_Mpg_checkCall_204 ⟨Nat.le_of_ble_eq_true rfl, Nat.le_of_ble_eq_true rfl⟩) hw hA (fun p16 H locs hp16 hw => ?_) | (refine px_callv (pr := []) (px_runV (As := [.int 4, .int x94_2]) (rest := []) S (c_mp_bad l D cs h r g tf ta pf na ma_94 wa ca ef ea xf xa cf_94 4 x94_2  (show 1 ≤ (4 : Int) from by first | exact oz_3c03087ebf | omega) (show 0 ≤ x94_2.toInt from by first | exact k94_20 | omega) (show x94_2.toInt < (tf 6).toInt from by first | exact k94_21 | omega) htk hwr _) hT (pr := []) (pcs := [wdP cs h r g tf ta pf na ma_94 wa cf_94 ca ef ea xf xa]) hw px_X.tt (px_recv hT hw 0 0 rfl rfl rfl) m12_173 m12_170 m12_172 ms_11_12 m1_21 q_Mpg_bad ⟨show 0 + 1 ≤ (4 * d + 14) from (by first | exact oz_90c46cace3 | omega), show 8 + (3 + 11) + 0 ≤ (200 * d + 540) from (by first | exact oz_2ba881113e | omega)⟩ hl.1 rfl (Nat.le_of_ble_eq_true rfl) d_Mpg_checkCall_204 ⟨Nat.le_of_ble_eq_true rfl, Nat.le_of_ble_eq_true rfl⟩) hw hA (fun p16 H locs hp16 hw => ?_))
              obtain ⟨cf15, rfl, e18, e19, e20, e21, e22, e23, e24, e25, e26, e27, e28, e29, e30, e31, e32, e33, e34, e35, e36, e37⟩ := hp16
              have e18 : KpE cf_94 cf15 := e18
              have hke := (hke).tr e18
              have hkz_e18 := e18.2
              have hzta := Zr.kp hzta e18 id
              have e19 : WrV cf15 (tf 6).toInt := e19
              have hwr := e19
              have hw0_e19 := hwr.1
              have e20 : 1 ≤ (cf15 30).toInt := e20
              have e21 : (cf15 33).toInt = (cf_94 33).toInt := e21
              have e22 : (cf15 38).toInt = (cf_94 38).toInt := e22
              have e23 : (cf15 48).toInt = (cf_94 48).toInt := e23
              have e24 : (cf15 46).toInt = (cf_94 46).toInt := e24
              have e25 : (cf15 47).toInt = (cf_94 47).toInt := e25
              have e26 : (cf15 57).toInt = (cf_94 57).toInt := e26
              have e27 : (cf15 37).toInt = (cf_94 37).toInt := e27
              have e28 : (cf15 42).toInt = (cf_94 42).toInt := e28
              have e29 : (cf15 43).toInt = (cf_94 43).toInt := e29
              have e30 : (cf15 44).toInt = (cf_94 44).toInt := e30
              have e31 : (cf15 45).toInt = (cf_94 45).toInt := e31
              have e32 : (cf15 54).toInt = (cf_94 54).toInt := e32
              have e33 : (cf15 55).toInt = (cf_94 55).toInt := e33
              have e34 : (cf15 58).toInt = (cf_94 58).toInt := e34
              have e35 : (cf15 59).toInt = (cf_94 59).toInt := e35
              have e36 : (cf15 41).toInt = (cf_94 41).toInt := e36
              have e37 : R_mp_bad (4 : Int32) x94_2 cf_94 cf15 := e37
              refine lv_iload_n S.x S.b d_Mpg_checkCall_207 rfl (lv_at hl 3 rfl) ?_
              refine lv_if_lt (tgt := 234) S.x S.b d_Mpg_checkCall_208 (by decide) (fun c38 => ?_) (fun c38 => ?_)
              · have nc38 : x94_3.toInt < (0 : Int) := (i_lt (x := x94_3) (y := 0)).mp c38
                refine lv_aload_n S.x S.b d_Mpg_checkCall_234 rfl (lv_at hl 0 rfl) ?_
                refine gP_22 S hT hw 0 rfl m10_9 d_Mpg_checkCall_235 ?_
                refine lv_aload_n S.x S.b d_Mpg_checkCall_238 rfl (lv_at hl 0 rfl) ?_
                refine gP_39 S hT hw 0 rfl m10_28 d_Mpg_checkCall_239 ?_
                refine lv_iload S.x S.b d_Mpg_checkCall_242 (lv_at hl 4 rfl) ?_
                refine px_iald S hT hw 0 26 (n := 260) (f := (ca 39)) rfl gp_39 (x := x94_4) (vp_in_iff.mpr (by constructor <;> omega)) d_Mpg_checkCall_244 ?_
                refine lv_topi (fun z40 ez40 => ?_)
                have lz40 := Int32.le_toInt z40
                have uz40 := Int32.toInt_lt z40
                have rz40 := FnT.at hft (x := x94_4) (by omega) (by omega) ez40
                refine px_iald S hT hw 0 18 (n := 2100) (f := (ma_94 22)) rfl gp_22 (x := z40) (vp_in_iff.mpr (by constructor <;> omega)) d_Mpg_checkCall_245 ?_
                refine lv_topi (fun z41 ez41 => ?_)
                have lz41 := Int32.le_toInt z41
                have uz41 := Int32.toInt_lt z41
                refine lv_iconst (v := 2) S.x S.b d_Mpg_checkCall_246 (by decide) ?_
                refine lv_icmp_ne (tgt := 254) S.x S.b d_Mpg_checkCall_247 (by decide) (fun c42 => ?_) (fun c42 => ?_)
                · have nc42 : ¬ z41.toInt = (2 : Int) := mt (i_eq (x := z41) (y := 2)).mpr c42
                  refine lv_iconst (v := 0) S.x S.b d_Mpg_checkCall_254 (by decide) ?_
                  refine lv_istore (lv' := [(7, .int 0), (0, .ref h), (1, .int p0), (2, .int x94_2), (3, .int x94_3), (4, .int x94_4), (5, .int x94_5), (6, .int x94_6)]) S.x S.b d_Mpg_checkCall_255 hl (by decide) rfl (fun ls hl => ?_)
                  refine lv_iload S.x S.b d_Mpg_checkCall_257 (lv_at hl 0 rfl) ?_
                  refine lv_if_eq (tgt := 266) S.x S.b d_Mpg_checkCall_259 (by decide) (fun c44 => ?_) (fun c44 => ?_)
                  ·
                    refine lv_iconst (v := 1) S.x S.b d_Mpg_checkCall_266 (by decide) ?_
                    first | exact px_iret (v := 1) S hr rfl hlk hAe hw (Nat.le_of_ble_eq_true rfl) (Nat.le_of_ble_eq_true rfl) (⟨ma_94, cf15, rfl, (show KpE cf cf15 from hke), (show WrV cf15 (tf 6).toInt from hwr), (show (cf15 33).toInt = (cf 33).toInt from (oz_1687f4cc65 k94_2 e21)), (show (cf15 38).toInt = (cf 38).toInt from (oz_1687f4cc65 k94_3 e22)), (show (cf15 48).toInt = (cf 48).toInt from (oz_1687f4cc65 k94_4 e23)), (show (cf15 46).toInt = (cf 46).toInt from (oz_1687f4cc65 k94_5 e24)), (show (cf15 47).toInt = (cf 47).toInt from (oz_1687f4cc65 k94_6 e25)), (show (cf15 57).toInt = (cf 57).toInt from (oz_1687f4cc65 k94_7 e26)), (show Ann na ma0 ma_94 from han), (show FrC lo hi ma ma_94 from hfc), (show 0 ≤ (1 : Int) from oz_19c3a41681), (show (1 : Int) ≤ 4 from oz_39f46dc397), (show ZTy cf15 (Gk ta ca na ma0 ns ys nf) na ma_94 lo hi p0 (1 : Int) from (zr_no (by omega))), (show R_mp_checkCall (RL_mp_check d) tf ta na ca p0 ma cf ma_94 cf15 (1 : Int32) from (k94_27 _ _ _ 1 (Or.inr (Or.inl ⟨rfl, x94_2, x94_3, x94_4, x94_5, x94_6, x94_7, rfl, rfl, rfl, rfl, rfl, Or.inl ⟨nc1, Or.inl ⟨nc3, Or.inl ⟨nc5, z7, ez7, v9, e11, Or.inl ⟨nc12, cf15, e37, Or.inl ⟨nc38, z40, ez40, z41, ez41, Or.inl ⟨nc42, rfl, rfl, rfl⟩⟩⟩⟩⟩⟩⟩))))⟩) d_Mpg_checkCall_267 | (exact px_iret (v := 1) S hr rfl hlk hAe hw (Nat.le_of_ble_eq_true rfl) (Nat.le_of_ble_eq_true rfl) (⟨ma_94, cf15, rfl, (show KpE cf cf15 from hke), (show WrV cf15 (tf 6).toInt from hwr), (show (cf15 33).toInt = (cf 33).toInt from by first | exact oz_1687f4cc65 k94_2 e21 | omega), (show (cf15 38).toInt = (cf 38).toInt from by first | exact oz_1687f4cc65 k94_3 e22 | omega), (show (cf15 48).toInt = (cf 48).toInt from by first | exact oz_1687f4cc65 k94_4 e23 | omega), (show (cf15 46).toInt = (cf 46).toInt from by first | exact oz_1687f4cc65 k94_5 e24 | omega), (show (cf15 47).toInt = (cf 47).toInt from by first | exact oz_1687f4cc65 k94_6 e25 | omega), (show (cf15 57).toInt = (cf 57).toInt from by first | exact oz_1687f4cc65 k94_7 e26 | omega), (show Ann na ma0 ma_94 from han), (show FrC lo hi ma ma_94 from hfc), (show 0 ≤ (1 : Int) from by first | exact oz_19c3a41681 | omega), (show (1 : Int) ≤ 4 from by first | exact oz_39f46dc397 | omega), (show ZTy cf15 (Gk ta ca na ma0 ns ys nf) na ma_94 lo hi p0 (1 : Int) from (zr_no (by omega))), (show R_mp_checkCall (RL_mp_check d) tf ta na ca p0 ma cf ma_94 cf15 (1 : Int32) from (k94_27 _ _ _ 1 (Or.inr (Or.inl ⟨rfl, x94_2, x94_3, x94_4, x94_5, x94_6, x94_7, rfl, rfl, rfl, rfl, rfl, Or.inl ⟨nc1, Or.inl ⟨nc3, Or.inl ⟨nc5, z7, ez7, v9, e11, Or.inl ⟨nc12, cf15, e37, Or.inl ⟨nc38, z40, ez40, z41, ez41, Or.inl ⟨nc42, rfl, rfl, rfl⟩⟩⟩⟩⟩⟩⟩))))⟩) d_Mpg_checkCall_267)
                  · exact absurd c44 (by decide)
                · have nc42 : z41.toInt = (2 : Int) := (i_eq (x := z41) (y := 2)).mp c42
                  refine lv_iconst (v := 1) S.x S.b d_Mpg_checkCall_250 (by decide) ?_
                  refine lv_goto (tgt := 255) S.x S.b d_Mpg_checkCall_251 (by decide) ?_
                  refine lv_istore (lv' := [(7, .int 1), (0, .ref h), (1, .int p0), (2, .int x94_2), (3, .int x94_3), (4, .int x94_4), (5, .int x94_5), (6, .int x94_6)]) S.x S.b d_Mpg_checkCall_255 hl (by decide) rfl (fun ls hl => ?_)
                  refine lv_iload S.x S.b d_Mpg_checkCall_257 (lv_at hl 0 rfl) ?_
                  refine lv_if_eq (tgt := 266) S.x S.b d_Mpg_checkCall_259 (by decide) (fun c45 => ?_) (fun c45 => ?_)
                  · exact absurd c45 (by decide)
                  ·
                    refine lv_iconst (v := 4) S.x S.b d_Mpg_checkCall_262 (by decide) ?_
                    refine lv_goto (tgt := 267) S.x S.b d_Mpg_checkCall_263 (by decide) ?_
                    first | exact px_iret (v := 4) S hr rfl hlk hAe hw (Nat.le_of_ble_eq_true rfl) (Nat.le_of_ble_eq_true rfl) (⟨ma_94, cf15, rfl, (show KpE cf cf15 from hke), (show WrV cf15 (tf 6).toInt from hwr), (show (cf15 33).toInt = (cf 33).toInt from (oz_1687f4cc65 k94_2 e21)), (show (cf15 38).toInt = (cf 38).toInt from (oz_1687f4cc65 k94_3 e22)), (show (cf15 48).toInt = (cf 48).toInt from (oz_1687f4cc65 k94_4 e23)), (show (cf15 46).toInt = (cf 46).toInt from (oz_1687f4cc65 k94_5 e24)), (show (cf15 47).toInt = (cf 47).toInt from (oz_1687f4cc65 k94_6 e25)), (show (cf15 57).toInt = (cf 57).toInt from (oz_1687f4cc65 k94_7 e26)), (show Ann na ma0 ma_94 from han), (show FrC lo hi ma ma_94 from hfc), (show 0 ≤ (4 : Int) from oz_8aa1b7a920), (show (4 : Int) ≤ 4 from oz_00eea3d1ab), (show ZTy cf15 (Gk ta ca na ma0 ns ys nf) na ma_94 lo hi p0 (4 : Int) from (zr_no (by omega))), (show R_mp_checkCall (RL_mp_check d) tf ta na ca p0 ma cf ma_94 cf15 (4 : Int32) from (k94_27 _ _ _ 1 (Or.inr (Or.inl ⟨rfl, x94_2, x94_3, x94_4, x94_5, x94_6, x94_7, rfl, rfl, rfl, rfl, rfl, Or.inl ⟨nc1, Or.inl ⟨nc3, Or.inl ⟨nc5, z7, ez7, v9, e11, Or.inl ⟨nc12, cf15, e37, Or.inl ⟨nc38, z40, ez40, z41, ez41, Or.inr ⟨nc42, rfl, rfl, rfl⟩⟩⟩⟩⟩⟩⟩))))⟩) d_Mpg_checkCall_267 | (exact px_iret (v := 4) S hr rfl hlk hAe hw (Nat.le_of_ble_eq_true rfl) (Nat.le_of_ble_eq_true rfl) (⟨ma_94, cf15, rfl, (show KpE cf cf15 from hke), (show WrV cf15 (tf 6).toInt from hwr), (show (cf15 33).toInt = (cf 33).toInt from by first | exact oz_1687f4cc65 k94_2 e21 | omega), (show (cf15 38).toInt = (cf 38).toInt from by first | exact oz_1687f4cc65 k94_3 e22 | omega), (show (cf15 48).toInt = (cf 48).toInt from by first | exact oz_1687f4cc65 k94_4 e23 | omega), (show (cf15 46).toInt = (cf 46).toInt from by first | exact oz_1687f4cc65 k94_5 e24 | omega), (show (cf15 47).toInt = (cf 47).toInt from by first | exact oz_1687f4cc65 k94_6 e25 | omega), (show (cf15 57).toInt = (cf 57).toInt from by first | exact oz_1687f4cc65 k94_7 e26 | omega), (show Ann na ma0 ma_94 from han), (show FrC lo hi ma ma_94 from hfc), (show 0 ≤ (4 : Int) from by first | exact oz_8aa1b7a920 | omega), (show (4 : Int) ≤ 4 from by first | exact oz_00eea3d1ab | omega), (show ZTy cf15 (Gk ta ca na ma0 ns ys nf) na ma_94 lo hi p0 (4 : Int) from (zr_no (by omega))), (show R_mp_checkCall (RL_mp_check d) tf ta na ca p0 ma cf ma_94 cf15 (4 : Int32) from (k94_27 _ _ _ 1 (Or.inr (Or.inl ⟨rfl, x94_2, x94_3, x94_4, x94_5, x94_6, x94_7, rfl, rfl, rfl, rfl, rfl, Or.inl ⟨nc1, Or.inl ⟨nc3, Or.inl ⟨nc5, z7, ez7, v9, e11, Or.inl ⟨nc12, cf15, e37, Or.inl ⟨nc38, z40, ez40, z41, ez41, Or.inr ⟨nc42, rfl, rfl, rfl⟩⟩⟩⟩⟩⟩⟩))))⟩) d_Mpg_checkCall_267)
              · have nc38 : ¬ x94_3.toInt < (0 : Int) := mt (i_lt (x := x94_3) (y := 0)).mpr c38
                refine lv_aload_n S.x S.b d_Mpg_checkCall_211 rfl (lv_at hl 0 rfl) ?_
                refine gP_3 S hT hw 0 rfl m9_227 d_Mpg_checkCall_212 ?_
                refine lv_iload_n S.x S.b d_Mpg_checkCall_215 rfl (lv_at hl 3 rfl) ?_
                first | have hclsk46 := cl_nat (x := x94_3) ((oz_18a5c06a28 nc38)) | (have hclsk46 := cl_nat (x := x94_3) (by first | exact oz_18a5c06a28 nc38 | omega))
                obtain ⟨sk46, hgsk46, st47, hSsk46⟩ := hP.2.2.2.2.2.1 x94_3.toNatClampNeg (by omega)
                have hmsk46 := len_3 (i := x94_3.toNatClampNeg) (by omega)
                refine px_aaldS S hT hw 0 4 11 (n := 15) (f := (g 3)) rfl rfl rfl (x := x94_3) (vp_in_iff.mpr (by first | exact oz_891c5e5184 nc38 k94_11 | (constructor <;> omega))) hgsk46 d_Mpg_checkCall_216 ?_
                refine lv_iconst (v := 0) S.x S.b d_Mpg_checkCall_217 (by decide) ?_
                first | refine px_calli (pr := [wdP cs h r g tf ta pf na ma_94 wa cf15 ca ef ea xf xa]) (px_runV (As := [.int 0]) (rest := []) S (c_String_charAt l D cs sk46 st47 (tlen x94_3.toNatClampNeg) (tby x94_3.toNatClampNeg) 0  (show (tlen x94_3.toNatClampNeg) ≤ 1000000 from by omega) (show 0 ≤ (0 : Int) from oz_5a341f00aa) (show (0 : Int) < ((tlen x94_3.toNatClampNeg) : Int) from by omega) _) hT (pr := [wdP cs h r g tf ta pf na ma_94 wa cf15 ca ef ea xf xa]) (pcs := []) hw (oX_call (P := (fun A U H => (oF A U H) ∧ (oZ A U H) ∧ (oS A sk46 st47 (tlen x94_3.toNatClampNeg) (tby x94_3.toNatClampNeg) U H))) (pr := [wdP cs h r g tf ta pf na ma_94 wa cf15 ca ef ea xf xa]) (oG_and oG_F (oG_and oG_Z oG_S)) hw hA ⟨hF0, hZ, hSsk46⟩) (oS_recv hw hSsk46) m1_68 m11_162 m1_66 m1_67 m1_3 q_String_charAt ⟨show 3 + 1 ≤ (4 * d + 14) from (oz_87f60782ea), show 8 + (2 + 11) + 90 ≤ (200 * d + 540) from (oz_6a6d2d7d66)⟩ hl.1 rfl (Nat.le_of_ble_eq_true rfl) d_Mpg_checkCall_218 ⟨Nat.le_of_ble_eq_true rfl, Nat.le_of_ble_eq_true rfl⟩) hw hA (fun v49 p48 H locs hp48 hw => ?_) | (refine px_calli (pr := [wdP cs h r g tf ta pf na ma_94 wa cf15 ca ef ea xf xa]) (px_runV (As := [.int 0]) (rest := []) S (c_String_charAt l D cs sk46 st47 (tlen x94_3.toNatClampNeg) (tby x94_3.toNatClampNeg) 0  (show (tlen x94_3.toNatClampNeg) ≤ 1000000 from by omega) (show 0 ≤ (0 : Int) from by first | exact oz_5a341f00aa | omega) (show (0 : Int) < ((tlen x94_3.toNatClampNeg) : Int) from by omega) _) hT (pr := [wdP cs h r g tf ta pf na ma_94 wa cf15 ca ef ea xf xa]) (pcs := []) hw (oX_call (P := (fun A U H => (oF A U H) ∧ (oZ A U H) ∧ (oS A sk46 st47 (tlen x94_3.toNatClampNeg) (tby x94_3.toNatClampNeg) U H))) (pr := [wdP cs h r g tf ta pf na ma_94 wa cf15 ca ef ea xf xa]) (oG_and oG_F (oG_and oG_Z oG_S)) hw hA ⟨hF0, hZ, hSsk46⟩) (oS_recv hw hSsk46) m1_68 m11_162 m1_66 m1_67 m1_3 q_String_charAt ⟨show 3 + 1 ≤ (4 * d + 14) from (by first | exact oz_87f60782ea | omega), show 8 + (2 + 11) + 90 ≤ (200 * d + 540) from (by first | exact oz_6a6d2d7d66 | omega)⟩ hl.1 rfl (Nat.le_of_ble_eq_true rfl) d_Mpg_checkCall_218 ⟨Nat.le_of_ble_eq_true rfl, Nat.le_of_ble_eq_true rfl⟩) hw hA (fun v49 p48 H locs hp48 hw => ?_))
                obtain ⟨rfl, e50, e51⟩ := hp48
                have e50 : narrow .char (.int v49) = .int v49 := e50
                have e51 : R_String_charAt (tby x94_3.toNatClampNeg) (0 : Int32) v49 := e51
                have lv49 := Int32.le_toInt v49
                have uv49 := Int32.toInt_lt v49
                refine lv_bipush (v := 118) S.x S.b d_Mpg_checkCall_221 (by decide) ?_
                refine lv_icmp_ne (tgt := 230) S.x S.b d_Mpg_checkCall_223 (by decide) (fun c52 => ?_) (fun c52 => ?_)
                · have nc52 : ¬ v49.toInt = (118 : Int) := mt (i_eq (x := v49) (y := 118)).mpr c52
                  refine lv_iconst (v := 0) S.x S.b d_Mpg_checkCall_230 (by decide) ?_
                  refine lv_goto (tgt := 255) S.x S.b d_Mpg_checkCall_231 (by decide) ?_
                  refine lv_istore (lv' := [(7, .int 0), (0, .ref h), (1, .int p0), (2, .int x94_2), (3, .int x94_3), (4, .int x94_4), (5, .int x94_5), (6, .int x94_6)]) S.x S.b d_Mpg_checkCall_255 hl (by decide) rfl (fun ls hl => ?_)
                  refine lv_iload S.x S.b d_Mpg_checkCall_257 (lv_at hl 0 rfl) ?_
                  refine lv_if_eq (tgt := 266) S.x S.b d_Mpg_checkCall_259 (by decide) (fun c54 => ?_) (fun c54 => ?_)
                  ·
                    refine lv_iconst (v := 1) S.x S.b d_Mpg_checkCall_266 (by decide) ?_
                    first | exact px_iret (v := 1) S hr rfl hlk hAe hw (Nat.le_of_ble_eq_true rfl) (Nat.le_of_ble_eq_true rfl) (⟨ma_94, cf15, rfl, (show KpE cf cf15 from hke), (show WrV cf15 (tf 6).toInt from hwr), (show (cf15 33).toInt = (cf 33).toInt from (oz_1687f4cc65 k94_2 e21)), (show (cf15 38).toInt = (cf 38).toInt from (oz_1687f4cc65 k94_3 e22)), (show (cf15 48).toInt = (cf 48).toInt from (oz_1687f4cc65 k94_4 e23)), (show (cf15 46).toInt = (cf 46).toInt from (oz_1687f4cc65 k94_5 e24)), (show (cf15 47).toInt = (cf 47).toInt from (oz_1687f4cc65 k94_6 e25)), (show (cf15 57).toInt = (cf 57).toInt from (oz_1687f4cc65 k94_7 e26)), (show Ann na ma0 ma_94 from han), (show FrC lo hi ma ma_94 from hfc), (show 0 ≤ (1 : Int) from oz_19c3a41681), (show (1 : Int) ≤ 4 from oz_39f46dc397), (show ZTy cf15 (Gk ta ca na ma0 ns ys nf) na ma_94 lo hi p0 (1 : Int) from (zr_no (by omega))), (show R_mp_checkCall (RL_mp_check d) tf ta na ca p0 ma cf ma_94 cf15 (1 : Int32) from (k94_27 _ _ _ 1 (Or.inr (Or.inl ⟨rfl, x94_2, x94_3, x94_4, x94_5, x94_6, x94_7, rfl, rfl, rfl, rfl, rfl, Or.inl ⟨nc1, Or.inl ⟨nc3, Or.inl ⟨nc5, z7, ez7, v9, e11, Or.inl ⟨nc12, cf15, e37, Or.inr ⟨nc38, v49, e51, Or.inl ⟨nc52, rfl, rfl, rfl⟩⟩⟩⟩⟩⟩⟩))))⟩) d_Mpg_checkCall_267 | (exact px_iret (v := 1) S hr rfl hlk hAe hw (Nat.le_of_ble_eq_true rfl) (Nat.le_of_ble_eq_true rfl) (⟨ma_94, cf15, rfl, (show KpE cf cf15 from hke), (show WrV cf15 (tf 6).toInt from hwr), (show (cf15 33).toInt = (cf 33).toInt from by first | exact oz_1687f4cc65 k94_2 e21 | omega), (show (cf15 38).toInt = (cf 38).toInt from by first | exact oz_1687f4cc65 k94_3 e22 | omega), (show (cf15 48).toInt = (cf 48).toInt from by first | exact oz_1687f4cc65 k94_4 e23 | omega), (show (cf15 46).toInt = (cf 46).toInt from by first | exact oz_1687f4cc65 k94_5 e24 | omega), (show (cf15 47).toInt = (cf 47).toInt from by first | exact oz_1687f4cc65 k94_6 e25 | omega), (show (cf15 57).toInt = (cf 57).toInt from by first | exact oz_1687f4cc65 k94_7 e26 | omega), (show Ann na ma0 ma_94 from han), (show FrC lo hi ma ma_94 from hfc), (show 0 ≤ (1 : Int) from by first | exact oz_19c3a41681 | omega), (show (1 : Int) ≤ 4 from by first | exact oz_39f46dc397 | omega), (show ZTy cf15 (Gk ta ca na ma0 ns ys nf) na ma_94 lo hi p0 (1 : Int) from (zr_no (by omega))), (show R_mp_checkCall (RL_mp_check d) tf ta na ca p0 ma cf ma_94 cf15 (1 : Int32) from (k94_27 _ _ _ 1 (Or.inr (Or.inl ⟨rfl, x94_2, x94_3, x94_4, x94_5, x94_6, x94_7, rfl, rfl, rfl, rfl, rfl, Or.inl ⟨nc1, Or.inl ⟨nc3, Or.inl ⟨nc5, z7, ez7, v9, e11, Or.inl ⟨nc12, cf15, e37, Or.inr ⟨nc38, v49, e51, Or.inl ⟨nc52, rfl, rfl, rfl⟩⟩⟩⟩⟩⟩⟩))))⟩) d_Mpg_checkCall_267)
                  · exact absurd c54 (by decide)
                · have nc52 : v49.toInt = (118 : Int) := (i_eq (x := v49) (y := 118)).mp c52
                  refine lv_iconst (v := 1) S.x S.b d_Mpg_checkCall_226 (by decide) ?_
                  refine lv_goto (tgt := 255) S.x S.b d_Mpg_checkCall_227 (by decide) ?_
                  refine lv_istore (lv' := [(7, .int 1), (0, .ref h), (1, .int p0), (2, .int x94_2), (3, .int x94_3), (4, .int x94_4), (5, .int x94_5), (6, .int x94_6)]) S.x S.b d_Mpg_checkCall_255 hl (by decide) rfl (fun ls hl => ?_)
                  refine lv_iload S.x S.b d_Mpg_checkCall_257 (lv_at hl 0 rfl) ?_
                  refine lv_if_eq (tgt := 266) S.x S.b d_Mpg_checkCall_259 (by decide) (fun c55 => ?_) (fun c55 => ?_)
                  · exact absurd c55 (by decide)
                  ·
                    refine lv_iconst (v := 4) S.x S.b d_Mpg_checkCall_262 (by decide) ?_
                    refine lv_goto (tgt := 267) S.x S.b d_Mpg_checkCall_263 (by decide) ?_
                    first | exact px_iret (v := 4) S hr rfl hlk hAe hw (Nat.le_of_ble_eq_true rfl) (Nat.le_of_ble_eq_true rfl) (⟨ma_94, cf15, rfl, (show KpE cf cf15 from hke), (show WrV cf15 (tf 6).toInt from hwr), (show (cf15 33).toInt = (cf 33).toInt from (oz_1687f4cc65 k94_2 e21)), (show (cf15 38).toInt = (cf 38).toInt from (oz_1687f4cc65 k94_3 e22)), (show (cf15 48).toInt = (cf 48).toInt from (oz_1687f4cc65 k94_4 e23)), (show (cf15 46).toInt = (cf 46).toInt from (oz_1687f4cc65 k94_5 e24)), (show (cf15 47).toInt = (cf 47).toInt from (oz_1687f4cc65 k94_6 e25)), (show (cf15 57).toInt = (cf 57).toInt from (oz_1687f4cc65 k94_7 e26)), (show Ann na ma0 ma_94 from han), (show FrC lo hi ma ma_94 from hfc), (show 0 ≤ (4 : Int) from oz_8aa1b7a920), (show (4 : Int) ≤ 4 from oz_00eea3d1ab), (show ZTy cf15 (Gk ta ca na ma0 ns ys nf) na ma_94 lo hi p0 (4 : Int) from (zr_no (by omega))), (show R_mp_checkCall (RL_mp_check d) tf ta na ca p0 ma cf ma_94 cf15 (4 : Int32) from (k94_27 _ _ _ 1 (Or.inr (Or.inl ⟨rfl, x94_2, x94_3, x94_4, x94_5, x94_6, x94_7, rfl, rfl, rfl, rfl, rfl, Or.inl ⟨nc1, Or.inl ⟨nc3, Or.inl ⟨nc5, z7, ez7, v9, e11, Or.inl ⟨nc12, cf15, e37, Or.inr ⟨nc38, v49, e51, Or.inr ⟨nc52, rfl, rfl, rfl⟩⟩⟩⟩⟩⟩⟩))))⟩) d_Mpg_checkCall_267 | (exact px_iret (v := 4) S hr rfl hlk hAe hw (Nat.le_of_ble_eq_true rfl) (Nat.le_of_ble_eq_true rfl) (⟨ma_94, cf15, rfl, (show KpE cf cf15 from hke), (show WrV cf15 (tf 6).toInt from hwr), (show (cf15 33).toInt = (cf 33).toInt from by first | exact oz_1687f4cc65 k94_2 e21 | omega), (show (cf15 38).toInt = (cf 38).toInt from by first | exact oz_1687f4cc65 k94_3 e22 | omega), (show (cf15 48).toInt = (cf 48).toInt from by first | exact oz_1687f4cc65 k94_4 e23 | omega), (show (cf15 46).toInt = (cf 46).toInt from by first | exact oz_1687f4cc65 k94_5 e24 | omega), (show (cf15 47).toInt = (cf 47).toInt from by first | exact oz_1687f4cc65 k94_6 e25 | omega), (show (cf15 57).toInt = (cf 57).toInt from by first | exact oz_1687f4cc65 k94_7 e26 | omega), (show Ann na ma0 ma_94 from han), (show FrC lo hi ma ma_94 from hfc), (show 0 ≤ (4 : Int) from by first | exact oz_8aa1b7a920 | omega), (show (4 : Int) ≤ 4 from by first | exact oz_00eea3d1ab | omega), (show ZTy cf15 (Gk ta ca na ma0 ns ys nf) na ma_94 lo hi p0 (4 : Int) from (zr_no (by omega))), (show R_mp_checkCall (RL_mp_check d) tf ta na ca p0 ma cf ma_94 cf15 (4 : Int32) from (k94_27 _ _ _ 1 (Or.inr (Or.inl ⟨rfl, x94_2, x94_3, x94_4, x94_5, x94_6, x94_7, rfl, rfl, rfl, rfl, rfl, Or.inl ⟨nc1, Or.inl ⟨nc3, Or.inl ⟨nc5, z7, ez7, v9, e11, Or.inl ⟨nc12, cf15, e37, Or.inr ⟨nc38, v49, e51, Or.inr ⟨nc52, rfl, rfl, rfl⟩⟩⟩⟩⟩⟩⟩))))⟩) d_Mpg_checkCall_267)
            · have nc12 : ¬ v9.toInt = (32 : Int) := mt (i_eq (x := v9) (y := 32)).mpr c12
              refine lv_aload_n S.x S.b d_Mpg_checkCall_187 rfl (lv_at hl 0 rfl) ?_
              refine lv_iload S.x S.b d_Mpg_checkCall_188 (lv_at hl 4 rfl) ?_
              refine lv_iload_n S.x S.b d_Mpg_checkCall_190 rfl (lv_at hl 3 rfl) ?_
              refine lv_iload S.x S.b d_Mpg_checkCall_191 (lv_at hl 6 rfl) ?_
              first | refine px_calli (pr := []) (px_runV (As := [.int x94_4, .int x94_3, .int x94_6]) (rest := []) S (c_mp_taken l D cs h r g tf ta pf na ma_94 wa cf_94 ca ef ea xf xa x94_4 x94_3 x94_6  (show -1 ≤ x94_4.toInt from k94_12) (show x94_4.toInt < (cf_94 38).toInt from (oz_0f2ac8ea3f k94_3 k94_13 g7)) (show x94_4.toInt < 0 → 0 ≤ x94_3.toInt ∧ x94_3.toInt < 10 from by omega) (show 0 ≤ x94_6.toInt from k94_18) (show x94_6.toInt ≤ 4000 from (oz_2634073f30 k94_19 hrg.2.2 k94_23 g1 g2)) (show 0 ≤ (cf_94 38).toInt from (oz_e2fef14871 k94_3 g7 g8)) htk (FnT.eq hft (by omega)) (FnP.eq hfp (by omega)) _) hT (pr := []) (pcs := [wdP cs h r g tf ta pf na ma_94 wa cf_94 ca ef ea xf xa]) hw (oX_call (P := (fun A U H => (oP A g U H))) (pr := []) oG_P hw hA hP) (px_recv hT hw 0 0 rfl rfl rfl) m12_229 m12_226 m12_228 ms_12_10 m1_21 q_Mpg_taken ⟨show 4 + 1 ≤ (4 * d + 14) from (oz_0cd0036c91), show 8 + (6 + 11) + 140 ≤ (200 * d + 540) from (oz_dff5f80a3a)⟩ hl.1 rfl (Nat.le_of_ble_eq_true rfl) d_Mpg_checkCall_193 ⟨Nat.le_of_ble_eq_true rfl, Nat.le_of_ble_eq_true rfl⟩) hw hA (fun v57 p56 H locs hp56 hw => ?_) | (refine px_calli (pr := []) (px_runV (As := [.int x94_4, .int x94_3, .int x94_6]) (rest := []) S (c_mp_taken l D cs h r g tf ta pf na ma_94 wa cf_94 ca ef ea xf xa x94_4 x94_3 x94_6  (show -1 ≤ x94_4.toInt from by first | exact k94_12 | omega) (show x94_4.toInt < (cf_94 38).toInt from by first | exact oz_0f2ac8ea3f k94_3 k94_13 g7 | omega) (show x94_4.toInt < 0 → 0 ≤ x94_3.toInt ∧ x94_3.toInt < 10 from by omega) (show 0 ≤ x94_6.toInt from by first | exact k94_18 | omega) (show x94_6.toInt ≤ 4000 from by first | exact oz_2634073f30 k94_19 hrg.2.2 k94_23 g1 g2 | omega) (show 0 ≤ (cf_94 38).toInt from by first | exact oz_e2fef14871 k94_3 g7 g8 | omega) htk (FnT.eq hft (by omega)) (FnP.eq hfp (by omega)) _) hT (pr := []) (pcs := [wdP cs h r g tf ta pf na ma_94 wa cf_94 ca ef ea xf xa]) hw (oX_call (P := (fun A U H => (oP A g U H))) (pr := []) oG_P hw hA hP) (px_recv hT hw 0 0 rfl rfl rfl) m12_229 m12_226 m12_228 ms_12_10 m1_21 q_Mpg_taken ⟨show 4 + 1 ≤ (4 * d + 14) from (by first | exact oz_0cd0036c91 | omega), show 8 + (6 + 11) + 140 ≤ (200 * d + 540) from (by first | exact oz_dff5f80a3a | omega)⟩ hl.1 rfl (Nat.le_of_ble_eq_true rfl) d_Mpg_checkCall_193 ⟨Nat.le_of_ble_eq_true rfl, Nat.le_of_ble_eq_true rfl⟩) hw hA (fun v57 p56 H locs hp56 hw => ?_))
              obtain ⟨rfl, e58, e59⟩ := hp56
              have e58 : TkV na ma_94 ca x94_4.toInt x94_3.toInt x94_6.toInt v57.toInt := e58
              have e59 : R_mp_taken na ma_94 ca x94_4 x94_3 x94_6 v57 := e59
              have lv57 := Int32.le_toInt v57
              have uv57 := Int32.toInt_lt v57
              have hcn_193 : CeN nf (cod x94_4.toInt x94_3.toInt) := cen_mk (by omega); have htv_193 := tkv_at (ta := ta) (ns := ns) (ys := ys) e58 han hfp hcn_193; have htg_193 := tkv_rng e58 hcn_193
              refine lv_bipush (v := 32) S.x S.b d_Mpg_checkCall_196 (by decide) ?_
              refine lv_icmp_eq (tgt := 207) S.x S.b d_Mpg_checkCall_198 (by decide) (fun c60 => ?_) (fun c60 => ?_)
              · have nc60 : v57.toInt = (32 : Int) := (i_eq (x := v57) (y := 32)).mp c60
                refine lv_iload_n S.x S.b d_Mpg_checkCall_207 rfl (lv_at hl 3 rfl) ?_
                refine lv_if_lt (tgt := 234) S.x S.b d_Mpg_checkCall_208 (by decide) (fun c62 => ?_) (fun c62 => ?_)
                · have nc62 : x94_3.toInt < (0 : Int) := (i_lt (x := x94_3) (y := 0)).mp c62
                  refine lv_aload_n S.x S.b d_Mpg_checkCall_234 rfl (lv_at hl 0 rfl) ?_
                  refine gP_22 S hT hw 0 rfl m10_9 d_Mpg_checkCall_235 ?_
                  refine lv_aload_n S.x S.b d_Mpg_checkCall_238 rfl (lv_at hl 0 rfl) ?_
                  refine gP_39 S hT hw 0 rfl m10_28 d_Mpg_checkCall_239 ?_
                  refine lv_iload S.x S.b d_Mpg_checkCall_242 (lv_at hl 4 rfl) ?_
                  refine px_iald S hT hw 0 26 (n := 260) (f := (ca 39)) rfl gp_39 (x := x94_4) (vp_in_iff.mpr (by constructor <;> omega)) d_Mpg_checkCall_244 ?_
                  refine lv_topi (fun z64 ez64 => ?_)
                  have lz64 := Int32.le_toInt z64
                  have uz64 := Int32.toInt_lt z64
                  have rz64 := FnT.at hft (x := x94_4) (by omega) (by omega) ez64
                  refine px_iald S hT hw 0 18 (n := 2100) (f := (ma_94 22)) rfl gp_22 (x := z64) (vp_in_iff.mpr (by constructor <;> omega)) d_Mpg_checkCall_245 ?_
                  refine lv_topi (fun z65 ez65 => ?_)
                  have lz65 := Int32.le_toInt z65
                  have uz65 := Int32.toInt_lt z65
                  refine lv_iconst (v := 2) S.x S.b d_Mpg_checkCall_246 (by decide) ?_
                  refine lv_icmp_ne (tgt := 254) S.x S.b d_Mpg_checkCall_247 (by decide) (fun c66 => ?_) (fun c66 => ?_)
                  · have nc66 : ¬ z65.toInt = (2 : Int) := mt (i_eq (x := z65) (y := 2)).mpr c66
                    refine lv_iconst (v := 0) S.x S.b d_Mpg_checkCall_254 (by decide) ?_
                    refine lv_istore (lv' := [(7, .int 0), (0, .ref h), (1, .int p0), (2, .int x94_2), (3, .int x94_3), (4, .int x94_4), (5, .int x94_5), (6, .int x94_6)]) S.x S.b d_Mpg_checkCall_255 hl (by decide) rfl (fun ls hl => ?_)
                    refine lv_iload S.x S.b d_Mpg_checkCall_257 (lv_at hl 0 rfl) ?_
                    refine lv_if_eq (tgt := 266) S.x S.b d_Mpg_checkCall_259 (by decide) (fun c68 => ?_) (fun c68 => ?_)
                    ·
                      refine lv_iconst (v := 1) S.x S.b d_Mpg_checkCall_266 (by decide) ?_
                      first | exact px_iret (v := 1) S hr rfl hlk hAe hw (Nat.le_of_ble_eq_true rfl) (Nat.le_of_ble_eq_true rfl) (⟨ma_94, cf_94, rfl, (show KpE cf cf_94 from hke), (show WrV cf_94 (tf 6).toInt from hwr), (show (cf_94 33).toInt = (cf 33).toInt from k94_2), (show (cf_94 38).toInt = (cf 38).toInt from k94_3), (show (cf_94 48).toInt = (cf 48).toInt from k94_4), (show (cf_94 46).toInt = (cf 46).toInt from k94_5), (show (cf_94 47).toInt = (cf 47).toInt from k94_6), (show (cf_94 57).toInt = (cf 57).toInt from k94_7), (show Ann na ma0 ma_94 from han), (show FrC lo hi ma ma_94 from hfc), (show 0 ≤ (1 : Int) from oz_19c3a41681), (show (1 : Int) ≤ 4 from oz_39f46dc397), (show ZTy cf_94 (Gk ta ca na ma0 ns ys nf) na ma_94 lo hi p0 (1 : Int) from (call_ty hrg (by omega) (hkb (by omega)) (cen_mk (by omega)) rfl (ZTy_le hzta (by omega)) (by omega) (by omega) (by rw [← htv_193]; omega) (Or.inr (by rw [show x94_6.toInt - 1 = z7.toInt by omega, ← htv_179]; omega)) (by omega))), (show R_mp_checkCall (RL_mp_check d) tf ta na ca p0 ma cf ma_94 cf_94 (1 : Int32) from (k94_27 _ _ _ 1 (Or.inr (Or.inl ⟨rfl, x94_2, x94_3, x94_4, x94_5, x94_6, x94_7, rfl, rfl, rfl, rfl, rfl, Or.inl ⟨nc1, Or.inl ⟨nc3, Or.inl ⟨nc5, z7, ez7, v9, e11, Or.inr ⟨nc12, v57, e59, Or.inl ⟨nc60, Or.inl ⟨nc62, z64, ez64, z65, ez65, Or.inl ⟨nc66, rfl, rfl, rfl⟩⟩⟩⟩⟩⟩⟩⟩))))⟩) d_Mpg_checkCall_267 | (exact px_iret (v := 1) S hr rfl hlk hAe hw (Nat.le_of_ble_eq_true rfl) (Nat.le_of_ble_eq_true rfl) (⟨ma_94, cf_94, rfl, (show KpE cf cf_94 from hke), (show WrV cf_94 (tf 6).toInt from hwr), (show (cf_94 33).toInt = (cf 33).toInt from by first | exact k94_2 | omega), (show (cf_94 38).toInt = (cf 38).toInt from by first | exact k94_3 | omega), (show (cf_94 48).toInt = (cf 48).toInt from by first | exact k94_4 | omega), (show (cf_94 46).toInt = (cf 46).toInt from by first | exact k94_5 | omega), (show (cf_94 47).toInt = (cf 47).toInt from by first | exact k94_6 | omega), (show (cf_94 57).toInt = (cf 57).toInt from by first | exact k94_7 | omega), (show Ann na ma0 ma_94 from han), (show FrC lo hi ma ma_94 from hfc), (show 0 ≤ (1 : Int) from by first | exact oz_19c3a41681 | omega), (show (1 : Int) ≤ 4 from by first | exact oz_39f46dc397 | omega), (show ZTy cf_94 (Gk ta ca na ma0 ns ys nf) na ma_94 lo hi p0 (1 : Int) from (call_ty hrg (by omega) (hkb (by omega)) (cen_mk (by omega)) rfl (ZTy_le hzta (by omega)) (by omega) (by omega) (by rw [← htv_193]; omega) (Or.inr (by rw [show x94_6.toInt - 1 = z7.toInt by omega, ← htv_179]; omega)) (by omega))), (show R_mp_checkCall (RL_mp_check d) tf ta na ca p0 ma cf ma_94 cf_94 (1 : Int32) from (k94_27 _ _ _ 1 (Or.inr (Or.inl ⟨rfl, x94_2, x94_3, x94_4, x94_5, x94_6, x94_7, rfl, rfl, rfl, rfl, rfl, Or.inl ⟨nc1, Or.inl ⟨nc3, Or.inl ⟨nc5, z7, ez7, v9, e11, Or.inr ⟨nc12, v57, e59, Or.inl ⟨nc60, Or.inl ⟨nc62, z64, ez64, z65, ez65, Or.inl ⟨nc66, rfl, rfl, rfl⟩⟩⟩⟩⟩⟩⟩⟩))))⟩) d_Mpg_checkCall_267)
                    · exact absurd c68 (by decide)
                  · have nc66 : z65.toInt = (2 : Int) := (i_eq (x := z65) (y := 2)).mp c66
                    refine lv_iconst (v := 1) S.x S.b d_Mpg_checkCall_250 (by decide) ?_
                    refine lv_goto (tgt := 255) S.x S.b d_Mpg_checkCall_251 (by decide) ?_
                    refine lv_istore (lv' := [(7, .int 1), (0, .ref h), (1, .int p0), (2, .int x94_2), (3, .int x94_3), (4, .int x94_4), (5, .int x94_5), (6, .int x94_6)]) S.x S.b d_Mpg_checkCall_255 hl (by decide) rfl (fun ls hl => ?_)
                    refine lv_iload S.x S.b d_Mpg_checkCall_257 (lv_at hl 0 rfl) ?_
                    refine lv_if_eq (tgt := 266) S.x S.b d_Mpg_checkCall_259 (by decide) (fun c69 => ?_) (fun c69 => ?_)
                    · exact absurd c69 (by decide)
                    ·
                      refine lv_iconst (v := 4) S.x S.b d_Mpg_checkCall_262 (by decide) ?_
                      refine lv_goto (tgt := 267) S.x S.b d_Mpg_checkCall_263 (by decide) ?_
                      first | exact px_iret (v := 4) S hr rfl hlk hAe hw (Nat.le_of_ble_eq_true rfl) (Nat.le_of_ble_eq_true rfl) (⟨ma_94, cf_94, rfl, (show KpE cf cf_94 from hke), (show WrV cf_94 (tf 6).toInt from hwr), (show (cf_94 33).toInt = (cf 33).toInt from k94_2), (show (cf_94 38).toInt = (cf 38).toInt from k94_3), (show (cf_94 48).toInt = (cf 48).toInt from k94_4), (show (cf_94 46).toInt = (cf 46).toInt from k94_5), (show (cf_94 47).toInt = (cf 47).toInt from k94_6), (show (cf_94 57).toInt = (cf 57).toInt from k94_7), (show Ann na ma0 ma_94 from han), (show FrC lo hi ma ma_94 from hfc), (show 0 ≤ (4 : Int) from oz_8aa1b7a920), (show (4 : Int) ≤ 4 from oz_00eea3d1ab), (show ZTy cf_94 (Gk ta ca na ma0 ns ys nf) na ma_94 lo hi p0 (4 : Int) from (call_ty hrg (by omega) (hkb (by omega)) (cen_mk (by omega)) rfl (ZTy_le hzta (by omega)) (by omega) (by omega) (by rw [← htv_193]; omega) (Or.inr (by rw [show x94_6.toInt - 1 = z7.toInt by omega, ← htv_179]; omega)) (by omega))), (show R_mp_checkCall (RL_mp_check d) tf ta na ca p0 ma cf ma_94 cf_94 (4 : Int32) from (k94_27 _ _ _ 1 (Or.inr (Or.inl ⟨rfl, x94_2, x94_3, x94_4, x94_5, x94_6, x94_7, rfl, rfl, rfl, rfl, rfl, Or.inl ⟨nc1, Or.inl ⟨nc3, Or.inl ⟨nc5, z7, ez7, v9, e11, Or.inr ⟨nc12, v57, e59, Or.inl ⟨nc60, Or.inl ⟨nc62, z64, ez64, z65, ez65, Or.inr ⟨nc66, rfl, rfl, rfl⟩⟩⟩⟩⟩⟩⟩⟩))))⟩) d_Mpg_checkCall_267 | (exact px_iret (v := 4) S hr rfl hlk hAe hw (Nat.le_of_ble_eq_true rfl) (Nat.le_of_ble_eq_true rfl) (⟨ma_94, cf_94, rfl, (show KpE cf cf_94 from hke), (show WrV cf_94 (tf 6).toInt from hwr), (show (cf_94 33).toInt = (cf 33).toInt from by first | exact k94_2 | omega), (show (cf_94 38).toInt = (cf 38).toInt from by first | exact k94_3 | omega), (show (cf_94 48).toInt = (cf 48).toInt from by first | exact k94_4 | omega), (show (cf_94 46).toInt = (cf 46).toInt from by first | exact k94_5 | omega), (show (cf_94 47).toInt = (cf 47).toInt from by first | exact k94_6 | omega), (show (cf_94 57).toInt = (cf 57).toInt from by first | exact k94_7 | omega), (show Ann na ma0 ma_94 from han), (show FrC lo hi ma ma_94 from hfc), (show 0 ≤ (4 : Int) from by first | exact oz_8aa1b7a920 | omega), (show (4 : Int) ≤ 4 from by first | exact oz_00eea3d1ab | omega), (show ZTy cf_94 (Gk ta ca na ma0 ns ys nf) na ma_94 lo hi p0 (4 : Int) from (call_ty hrg (by omega) (hkb (by omega)) (cen_mk (by omega)) rfl (ZTy_le hzta (by omega)) (by omega) (by omega) (by rw [← htv_193]; omega) (Or.inr (by rw [show x94_6.toInt - 1 = z7.toInt by omega, ← htv_179]; omega)) (by omega))), (show R_mp_checkCall (RL_mp_check d) tf ta na ca p0 ma cf ma_94 cf_94 (4 : Int32) from (k94_27 _ _ _ 1 (Or.inr (Or.inl ⟨rfl, x94_2, x94_3, x94_4, x94_5, x94_6, x94_7, rfl, rfl, rfl, rfl, rfl, Or.inl ⟨nc1, Or.inl ⟨nc3, Or.inl ⟨nc5, z7, ez7, v9, e11, Or.inr ⟨nc12, v57, e59, Or.inl ⟨nc60, Or.inl ⟨nc62, z64, ez64, z65, ez65, Or.inr ⟨nc66, rfl, rfl, rfl⟩⟩⟩⟩⟩⟩⟩⟩))))⟩) d_Mpg_checkCall_267)
                · have nc62 : ¬ x94_3.toInt < (0 : Int) := mt (i_lt (x := x94_3) (y := 0)).mpr c62
                  refine lv_aload_n S.x S.b d_Mpg_checkCall_211 rfl (lv_at hl 0 rfl) ?_
                  refine gP_3 S hT hw 0 rfl m9_227 d_Mpg_checkCall_212 ?_
                  refine lv_iload_n S.x S.b d_Mpg_checkCall_215 rfl (lv_at hl 3 rfl) ?_
                  first | have hclsk70 := cl_nat (x := x94_3) ((oz_18a5c06a28 nc62)) | (have hclsk70 := cl_nat (x := x94_3) (by first | exact oz_18a5c06a28 nc62 | omega))
                  obtain ⟨sk70, hgsk70, st71, hSsk70⟩ := hP.2.2.2.2.2.1 x94_3.toNatClampNeg (by omega)
                  have hmsk70 := len_3 (i := x94_3.toNatClampNeg) (by omega)
                  refine px_aaldS S hT hw 0 4 11 (n := 15) (f := (g 3)) rfl rfl rfl (x := x94_3) (vp_in_iff.mpr (by first | exact oz_891c5e5184 nc62 k94_11 | (constructor <;> omega))) hgsk70 d_Mpg_checkCall_216 ?_
                  refine lv_iconst (v := 0) S.x S.b d_Mpg_checkCall_217 (by decide) ?_
                  first | refine px_calli (pr := [wdP cs h r g tf ta pf na ma_94 wa cf_94 ca ef ea xf xa]) (px_runV (As := [.int 0]) (rest := []) S (c_String_charAt l D cs sk70 st71 (tlen x94_3.toNatClampNeg) (tby x94_3.toNatClampNeg) 0  (show (tlen x94_3.toNatClampNeg) ≤ 1000000 from by omega) (show 0 ≤ (0 : Int) from oz_5a341f00aa) (show (0 : Int) < ((tlen x94_3.toNatClampNeg) : Int) from by omega) _) hT (pr := [wdP cs h r g tf ta pf na ma_94 wa cf_94 ca ef ea xf xa]) (pcs := []) hw (oX_call (P := (fun A U H => (oF A U H) ∧ (oZ A U H) ∧ (oS A sk70 st71 (tlen x94_3.toNatClampNeg) (tby x94_3.toNatClampNeg) U H))) (pr := [wdP cs h r g tf ta pf na ma_94 wa cf_94 ca ef ea xf xa]) (oG_and oG_F (oG_and oG_Z oG_S)) hw hA ⟨hF0, hZ, hSsk70⟩) (oS_recv hw hSsk70) m1_68 m11_162 m1_66 m1_67 m1_3 q_String_charAt ⟨show 3 + 1 ≤ (4 * d + 14) from (oz_87f60782ea), show 8 + (2 + 11) + 90 ≤ (200 * d + 540) from (oz_6a6d2d7d66)⟩ hl.1 rfl (Nat.le_of_ble_eq_true rfl) d_Mpg_checkCall_218 ⟨Nat.le_of_ble_eq_true rfl, Nat.le_of_ble_eq_true rfl⟩) hw hA (fun v73 p72 H locs hp72 hw => ?_) | (refine px_calli (pr := [wdP cs h r g tf ta pf na ma_94 wa cf_94 ca ef ea xf xa]) (px_runV (As := [.int 0]) (rest := []) S (c_String_charAt l D cs sk70 st71 (tlen x94_3.toNatClampNeg) (tby x94_3.toNatClampNeg) 0  (show (tlen x94_3.toNatClampNeg) ≤ 1000000 from by omega) (show 0 ≤ (0 : Int) from by first | exact oz_5a341f00aa | omega) (show (0 : Int) < ((tlen x94_3.toNatClampNeg) : Int) from by omega) _) hT (pr := [wdP cs h r g tf ta pf na ma_94 wa cf_94 ca ef ea xf xa]) (pcs := []) hw (oX_call (P := (fun A U H => (oF A U H) ∧ (oZ A U H) ∧ (oS A sk70 st71 (tlen x94_3.toNatClampNeg) (tby x94_3.toNatClampNeg) U H))) (pr := [wdP cs h r g tf ta pf na ma_94 wa cf_94 ca ef ea xf xa]) (oG_and oG_F (oG_and oG_Z oG_S)) hw hA ⟨hF0, hZ, hSsk70⟩) (oS_recv hw hSsk70) m1_68 m11_162 m1_66 m1_67 m1_3 q_String_charAt ⟨show 3 + 1 ≤ (4 * d + 14) from (by first | exact oz_87f60782ea | omega), show 8 + (2 + 11) + 90 ≤ (200 * d + 540) from (by first | exact oz_6a6d2d7d66 | omega)⟩ hl.1 rfl (Nat.le_of_ble_eq_true rfl) d_Mpg_checkCall_218 ⟨Nat.le_of_ble_eq_true rfl, Nat.le_of_ble_eq_true rfl⟩) hw hA (fun v73 p72 H locs hp72 hw => ?_))
                  obtain ⟨rfl, e74, e75⟩ := hp72
                  have e74 : narrow .char (.int v73) = .int v73 := e74
                  have e75 : R_String_charAt (tby x94_3.toNatClampNeg) (0 : Int32) v73 := e75
                  have lv73 := Int32.le_toInt v73
                  have uv73 := Int32.toInt_lt v73
                  refine lv_bipush (v := 118) S.x S.b d_Mpg_checkCall_221 (by decide) ?_
                  refine lv_icmp_ne (tgt := 230) S.x S.b d_Mpg_checkCall_223 (by decide) (fun c76 => ?_) (fun c76 => ?_)
                  · have nc76 : ¬ v73.toInt = (118 : Int) := mt (i_eq (x := v73) (y := 118)).mpr c76
                    refine lv_iconst (v := 0) S.x S.b d_Mpg_checkCall_230 (by decide) ?_
                    refine lv_goto (tgt := 255) S.x S.b d_Mpg_checkCall_231 (by decide) ?_
                    refine lv_istore (lv' := [(7, .int 0), (0, .ref h), (1, .int p0), (2, .int x94_2), (3, .int x94_3), (4, .int x94_4), (5, .int x94_5), (6, .int x94_6)]) S.x S.b d_Mpg_checkCall_255 hl (by decide) rfl (fun ls hl => ?_)
                    refine lv_iload S.x S.b d_Mpg_checkCall_257 (lv_at hl 0 rfl) ?_
                    refine lv_if_eq (tgt := 266) S.x S.b d_Mpg_checkCall_259 (by decide) (fun c78 => ?_) (fun c78 => ?_)
                    ·
                      refine lv_iconst (v := 1) S.x S.b d_Mpg_checkCall_266 (by decide) ?_
                      first | exact px_iret (v := 1) S hr rfl hlk hAe hw (Nat.le_of_ble_eq_true rfl) (Nat.le_of_ble_eq_true rfl) (⟨ma_94, cf_94, rfl, (show KpE cf cf_94 from hke), (show WrV cf_94 (tf 6).toInt from hwr), (show (cf_94 33).toInt = (cf 33).toInt from k94_2), (show (cf_94 38).toInt = (cf 38).toInt from k94_3), (show (cf_94 48).toInt = (cf 48).toInt from k94_4), (show (cf_94 46).toInt = (cf 46).toInt from k94_5), (show (cf_94 47).toInt = (cf 47).toInt from k94_6), (show (cf_94 57).toInt = (cf 57).toInt from k94_7), (show Ann na ma0 ma_94 from han), (show FrC lo hi ma ma_94 from hfc), (show 0 ≤ (1 : Int) from oz_19c3a41681), (show (1 : Int) ≤ 4 from oz_39f46dc397), (show ZTy cf_94 (Gk ta ca na ma0 ns ys nf) na ma_94 lo hi p0 (1 : Int) from (call_ty hrg (by omega) (hkb (by omega)) (cen_mk (by omega)) rfl (ZTy_le hzta (by omega)) (by omega) (by omega) (by rw [← htv_193]; omega) (Or.inr (by rw [show x94_6.toInt - 1 = z7.toInt by omega, ← htv_179]; omega)) (by omega))), (show R_mp_checkCall (RL_mp_check d) tf ta na ca p0 ma cf ma_94 cf_94 (1 : Int32) from (k94_27 _ _ _ 1 (Or.inr (Or.inl ⟨rfl, x94_2, x94_3, x94_4, x94_5, x94_6, x94_7, rfl, rfl, rfl, rfl, rfl, Or.inl ⟨nc1, Or.inl ⟨nc3, Or.inl ⟨nc5, z7, ez7, v9, e11, Or.inr ⟨nc12, v57, e59, Or.inl ⟨nc60, Or.inr ⟨nc62, v73, e75, Or.inl ⟨nc76, rfl, rfl, rfl⟩⟩⟩⟩⟩⟩⟩⟩))))⟩) d_Mpg_checkCall_267 | (exact px_iret (v := 1) S hr rfl hlk hAe hw (Nat.le_of_ble_eq_true rfl) (Nat.le_of_ble_eq_true rfl) (⟨ma_94, cf_94, rfl, (show KpE cf cf_94 from hke), (show WrV cf_94 (tf 6).toInt from hwr), (show (cf_94 33).toInt = (cf 33).toInt from by first | exact k94_2 | omega), (show (cf_94 38).toInt = (cf 38).toInt from by first | exact k94_3 | omega), (show (cf_94 48).toInt = (cf 48).toInt from by first | exact k94_4 | omega), (show (cf_94 46).toInt = (cf 46).toInt from by first | exact k94_5 | omega), (show (cf_94 47).toInt = (cf 47).toInt from by first | exact k94_6 | omega), (show (cf_94 57).toInt = (cf 57).toInt from by first | exact k94_7 | omega), (show Ann na ma0 ma_94 from han), (show FrC lo hi ma ma_94 from hfc), (show 0 ≤ (1 : Int) from by first | exact oz_19c3a41681 | omega), (show (1 : Int) ≤ 4 from by first | exact oz_39f46dc397 | omega), (show ZTy cf_94 (Gk ta ca na ma0 ns ys nf) na ma_94 lo hi p0 (1 : Int) from (call_ty hrg (by omega) (hkb (by omega)) (cen_mk (by omega)) rfl (ZTy_le hzta (by omega)) (by omega) (by omega) (by rw [← htv_193]; omega) (Or.inr (by rw [show x94_6.toInt - 1 = z7.toInt by omega, ← htv_179]; omega)) (by omega))), (show R_mp_checkCall (RL_mp_check d) tf ta na ca p0 ma cf ma_94 cf_94 (1 : Int32) from (k94_27 _ _ _ 1 (Or.inr (Or.inl ⟨rfl, x94_2, x94_3, x94_4, x94_5, x94_6, x94_7, rfl, rfl, rfl, rfl, rfl, Or.inl ⟨nc1, Or.inl ⟨nc3, Or.inl ⟨nc5, z7, ez7, v9, e11, Or.inr ⟨nc12, v57, e59, Or.inl ⟨nc60, Or.inr ⟨nc62, v73, e75, Or.inl ⟨nc76, rfl, rfl, rfl⟩⟩⟩⟩⟩⟩⟩⟩))))⟩) d_Mpg_checkCall_267)
                    · exact absurd c78 (by decide)
                  · have nc76 : v73.toInt = (118 : Int) := (i_eq (x := v73) (y := 118)).mp c76
                    refine lv_iconst (v := 1) S.x S.b d_Mpg_checkCall_226 (by decide) ?_
                    refine lv_goto (tgt := 255) S.x S.b d_Mpg_checkCall_227 (by decide) ?_
                    refine lv_istore (lv' := [(7, .int 1), (0, .ref h), (1, .int p0), (2, .int x94_2), (3, .int x94_3), (4, .int x94_4), (5, .int x94_5), (6, .int x94_6)]) S.x S.b d_Mpg_checkCall_255 hl (by decide) rfl (fun ls hl => ?_)
                    refine lv_iload S.x S.b d_Mpg_checkCall_257 (lv_at hl 0 rfl) ?_
                    refine lv_if_eq (tgt := 266) S.x S.b d_Mpg_checkCall_259 (by decide) (fun c79 => ?_) (fun c79 => ?_)
                    · exact absurd c79 (by decide)
                    ·
                      refine lv_iconst (v := 4) S.x S.b d_Mpg_checkCall_262 (by decide) ?_
                      refine lv_goto (tgt := 267) S.x S.b d_Mpg_checkCall_263 (by decide) ?_
                      first | exact px_iret (v := 4) S hr rfl hlk hAe hw (Nat.le_of_ble_eq_true rfl) (Nat.le_of_ble_eq_true rfl) (⟨ma_94, cf_94, rfl, (show KpE cf cf_94 from hke), (show WrV cf_94 (tf 6).toInt from hwr), (show (cf_94 33).toInt = (cf 33).toInt from k94_2), (show (cf_94 38).toInt = (cf 38).toInt from k94_3), (show (cf_94 48).toInt = (cf 48).toInt from k94_4), (show (cf_94 46).toInt = (cf 46).toInt from k94_5), (show (cf_94 47).toInt = (cf 47).toInt from k94_6), (show (cf_94 57).toInt = (cf 57).toInt from k94_7), (show Ann na ma0 ma_94 from han), (show FrC lo hi ma ma_94 from hfc), (show 0 ≤ (4 : Int) from oz_8aa1b7a920), (show (4 : Int) ≤ 4 from oz_00eea3d1ab), (show ZTy cf_94 (Gk ta ca na ma0 ns ys nf) na ma_94 lo hi p0 (4 : Int) from (call_ty hrg (by omega) (hkb (by omega)) (cen_mk (by omega)) rfl (ZTy_le hzta (by omega)) (by omega) (by omega) (by rw [← htv_193]; omega) (Or.inr (by rw [show x94_6.toInt - 1 = z7.toInt by omega, ← htv_179]; omega)) (by omega))), (show R_mp_checkCall (RL_mp_check d) tf ta na ca p0 ma cf ma_94 cf_94 (4 : Int32) from (k94_27 _ _ _ 1 (Or.inr (Or.inl ⟨rfl, x94_2, x94_3, x94_4, x94_5, x94_6, x94_7, rfl, rfl, rfl, rfl, rfl, Or.inl ⟨nc1, Or.inl ⟨nc3, Or.inl ⟨nc5, z7, ez7, v9, e11, Or.inr ⟨nc12, v57, e59, Or.inl ⟨nc60, Or.inr ⟨nc62, v73, e75, Or.inr ⟨nc76, rfl, rfl, rfl⟩⟩⟩⟩⟩⟩⟩⟩))))⟩) d_Mpg_checkCall_267 | (exact px_iret (v := 4) S hr rfl hlk hAe hw (Nat.le_of_ble_eq_true rfl) (Nat.le_of_ble_eq_true rfl) (⟨ma_94, cf_94, rfl, (show KpE cf cf_94 from hke), (show WrV cf_94 (tf 6).toInt from hwr), (show (cf_94 33).toInt = (cf 33).toInt from by first | exact k94_2 | omega), (show (cf_94 38).toInt = (cf 38).toInt from by first | exact k94_3 | omega), (show (cf_94 48).toInt = (cf 48).toInt from by first | exact k94_4 | omega), (show (cf_94 46).toInt = (cf 46).toInt from by first | exact k94_5 | omega), (show (cf_94 47).toInt = (cf 47).toInt from by first | exact k94_6 | omega), (show (cf_94 57).toInt = (cf 57).toInt from by first | exact k94_7 | omega), (show Ann na ma0 ma_94 from han), (show FrC lo hi ma ma_94 from hfc), (show 0 ≤ (4 : Int) from by first | exact oz_8aa1b7a920 | omega), (show (4 : Int) ≤ 4 from by first | exact oz_00eea3d1ab | omega), (show ZTy cf_94 (Gk ta ca na ma0 ns ys nf) na ma_94 lo hi p0 (4 : Int) from (call_ty hrg (by omega) (hkb (by omega)) (cen_mk (by omega)) rfl (ZTy_le hzta (by omega)) (by omega) (by omega) (by rw [← htv_193]; omega) (Or.inr (by rw [show x94_6.toInt - 1 = z7.toInt by omega, ← htv_179]; omega)) (by omega))), (show R_mp_checkCall (RL_mp_check d) tf ta na ca p0 ma cf ma_94 cf_94 (4 : Int32) from (k94_27 _ _ _ 1 (Or.inr (Or.inl ⟨rfl, x94_2, x94_3, x94_4, x94_5, x94_6, x94_7, rfl, rfl, rfl, rfl, rfl, Or.inl ⟨nc1, Or.inl ⟨nc3, Or.inl ⟨nc5, z7, ez7, v9, e11, Or.inr ⟨nc12, v57, e59, Or.inl ⟨nc60, Or.inr ⟨nc62, v73, e75, Or.inr ⟨nc76, rfl, rfl, rfl⟩⟩⟩⟩⟩⟩⟩⟩))))⟩) d_Mpg_checkCall_267)
              · have nc60 : ¬ v57.toInt = (32 : Int) := mt (i_eq (x := v57) (y := 32)).mpr c60
                refine lv_aload_n S.x S.b d_Mpg_checkCall_201 rfl (lv_at hl 0 rfl) ?_
                refine lv_iconst (v := 4) S.x S.b d_Mpg_checkCall_202 (by decide) ?_
                refine lv_iload_n S.x S.b d_Mpg_checkCall_203 rfl (lv_at hl 2 rfl) ?_
                first | refine px_callv (pr := []) (px_runV (As := [.int 4, .int x94_2]) (rest := []) S (c_mp_bad l D cs h r g tf ta pf na ma_94 wa ca ef ea xf xa cf_94 4 x94_2  (show 1 ≤ (4 : Int) from oz_3c03087ebf) (show 0 ≤ x94_2.toInt from k94_20) (show x94_2.toInt < (tf 6).toInt from k94_21) htk hwr _) hT (pr := []) (pcs := [wdP cs h r g tf ta pf na ma_94 wa cf_94 ca ef ea xf xa]) hw px_X.tt (px_recv hT hw 0 0 rfl rfl rfl) m12_173 m12_170 m12_172 ms_11_12 m1_21 q_Mpg_bad ⟨show 0 + 1 ≤ (4 * d + 14) from (oz_90c46cace3), show 8 + (3 + 11) + 0 ≤ (200 * d + 540) from (oz_2ba881113e)⟩ hl.1 rfl (Nat.le_of_ble_eq_true rfl) d_Mpg_checkCall_204 ⟨Nat.le_of_ble_eq_true rfl, Nat.le_of_ble_eq_true rfl⟩) hw hA (fun p82 H locs hp82 hw => ?_) | (refine px_callv (pr := []) (px_runV (As := [.int 4, .int x94_2]) (rest := []) S (c_mp_bad l D cs h r g tf ta pf na ma_94 wa ca ef ea xf xa cf_94 4 x94_2  (show 1 ≤ (4 : Int) from by first | exact oz_3c03087ebf | omega) (show 0 ≤ x94_2.toInt from by first | exact k94_20 | omega) (show x94_2.toInt < (tf 6).toInt from by first | exact k94_21 | omega) htk hwr _) hT (pr := []) (pcs := [wdP cs h r g tf ta pf na ma_94 wa cf_94 ca ef ea xf xa]) hw px_X.tt (px_recv hT hw 0 0 rfl rfl rfl) m12_173 m12_170 m12_172 ms_11_12 m1_21 q_Mpg_bad ⟨show 0 + 1 ≤ (4 * d + 14) from (by first | exact oz_90c46cace3 | omega), show 8 + (3 + 11) + 0 ≤ (200 * d + 540) from (by first | exact oz_2ba881113e | omega)⟩ hl.1 rfl (Nat.le_of_ble_eq_true rfl) d_Mpg_checkCall_204 ⟨Nat.le_of_ble_eq_true rfl, Nat.le_of_ble_eq_true rfl⟩) hw hA (fun p82 H locs hp82 hw => ?_))
                obtain ⟨cf81, rfl, e84, e85, e86, e87, e88, e89, e90, e91, e92, e93, e94, e95, e96, e97, e98, e99, e100, e101, e102, e103⟩ := hp82
                have e84 : KpE cf_94 cf81 := e84
                have hke := (hke).tr e84
                have hkz_e84 := e84.2
                have hzta := Zr.kp hzta e84 id
                have e85 : WrV cf81 (tf 6).toInt := e85
                have hwr := e85
                have hw0_e85 := hwr.1
                have e86 : 1 ≤ (cf81 30).toInt := e86
                have e87 : (cf81 33).toInt = (cf_94 33).toInt := e87
                have e88 : (cf81 38).toInt = (cf_94 38).toInt := e88
                have e89 : (cf81 48).toInt = (cf_94 48).toInt := e89
                have e90 : (cf81 46).toInt = (cf_94 46).toInt := e90
                have e91 : (cf81 47).toInt = (cf_94 47).toInt := e91
                have e92 : (cf81 57).toInt = (cf_94 57).toInt := e92
                have e93 : (cf81 37).toInt = (cf_94 37).toInt := e93
                have e94 : (cf81 42).toInt = (cf_94 42).toInt := e94
                have e95 : (cf81 43).toInt = (cf_94 43).toInt := e95
                have e96 : (cf81 44).toInt = (cf_94 44).toInt := e96
                have e97 : (cf81 45).toInt = (cf_94 45).toInt := e97
                have e98 : (cf81 54).toInt = (cf_94 54).toInt := e98
                have e99 : (cf81 55).toInt = (cf_94 55).toInt := e99
                have e100 : (cf81 58).toInt = (cf_94 58).toInt := e100
                have e101 : (cf81 59).toInt = (cf_94 59).toInt := e101
                have e102 : (cf81 41).toInt = (cf_94 41).toInt := e102
                have e103 : R_mp_bad (4 : Int32) x94_2 cf_94 cf81 := e103
                refine lv_iload_n S.x S.b d_Mpg_checkCall_207 rfl (lv_at hl 3 rfl) ?_
                refine lv_if_lt (tgt := 234) S.x S.b d_Mpg_checkCall_208 (by decide) (fun c104 => ?_) (fun c104 => ?_)
                · have nc104 : x94_3.toInt < (0 : Int) := (i_lt (x := x94_3) (y := 0)).mp c104
                  refine lv_aload_n S.x S.b d_Mpg_checkCall_234 rfl (lv_at hl 0 rfl) ?_
                  refine gP_22 S hT hw 0 rfl m10_9 d_Mpg_checkCall_235 ?_
                  refine lv_aload_n S.x S.b d_Mpg_checkCall_238 rfl (lv_at hl 0 rfl) ?_
                  refine gP_39 S hT hw 0 rfl m10_28 d_Mpg_checkCall_239 ?_
                  refine lv_iload S.x S.b d_Mpg_checkCall_242 (lv_at hl 4 rfl) ?_
                  refine px_iald S hT hw 0 26 (n := 260) (f := (ca 39)) rfl gp_39 (x := x94_4) (vp_in_iff.mpr (by constructor <;> omega)) d_Mpg_checkCall_244 ?_
                  refine lv_topi (fun z106 ez106 => ?_)
                  have lz106 := Int32.le_toInt z106
                  have uz106 := Int32.toInt_lt z106
                  have rz106 := FnT.at hft (x := x94_4) (by omega) (by omega) ez106
                  refine px_iald S hT hw 0 18 (n := 2100) (f := (ma_94 22)) rfl gp_22 (x := z106) (vp_in_iff.mpr (by constructor <;> omega)) d_Mpg_checkCall_245 ?_
                  refine lv_topi (fun z107 ez107 => ?_)
                  have lz107 := Int32.le_toInt z107
                  have uz107 := Int32.toInt_lt z107
                  refine lv_iconst (v := 2) S.x S.b d_Mpg_checkCall_246 (by decide) ?_
                  refine lv_icmp_ne (tgt := 254) S.x S.b d_Mpg_checkCall_247 (by decide) (fun c108 => ?_) (fun c108 => ?_)
                  · have nc108 : ¬ z107.toInt = (2 : Int) := mt (i_eq (x := z107) (y := 2)).mpr c108
                    refine lv_iconst (v := 0) S.x S.b d_Mpg_checkCall_254 (by decide) ?_
                    refine lv_istore (lv' := [(7, .int 0), (0, .ref h), (1, .int p0), (2, .int x94_2), (3, .int x94_3), (4, .int x94_4), (5, .int x94_5), (6, .int x94_6)]) S.x S.b d_Mpg_checkCall_255 hl (by decide) rfl (fun ls hl => ?_)
                    refine lv_iload S.x S.b d_Mpg_checkCall_257 (lv_at hl 0 rfl) ?_
                    refine lv_if_eq (tgt := 266) S.x S.b d_Mpg_checkCall_259 (by decide) (fun c110 => ?_) (fun c110 => ?_)
                    ·
                      refine lv_iconst (v := 1) S.x S.b d_Mpg_checkCall_266 (by decide) ?_
                      first | exact px_iret (v := 1) S hr rfl hlk hAe hw (Nat.le_of_ble_eq_true rfl) (Nat.le_of_ble_eq_true rfl) (⟨ma_94, cf81, rfl, (show KpE cf cf81 from hke), (show WrV cf81 (tf 6).toInt from hwr), (show (cf81 33).toInt = (cf 33).toInt from (oz_1687f4cc65 k94_2 e87)), (show (cf81 38).toInt = (cf 38).toInt from (oz_1687f4cc65 k94_3 e88)), (show (cf81 48).toInt = (cf 48).toInt from (oz_1687f4cc65 k94_4 e89)), (show (cf81 46).toInt = (cf 46).toInt from (oz_1687f4cc65 k94_5 e90)), (show (cf81 47).toInt = (cf 47).toInt from (oz_1687f4cc65 k94_6 e91)), (show (cf81 57).toInt = (cf 57).toInt from (oz_1687f4cc65 k94_7 e92)), (show Ann na ma0 ma_94 from han), (show FrC lo hi ma ma_94 from hfc), (show 0 ≤ (1 : Int) from oz_19c3a41681), (show (1 : Int) ≤ 4 from oz_39f46dc397), (show ZTy cf81 (Gk ta ca na ma0 ns ys nf) na ma_94 lo hi p0 (1 : Int) from (zr_no (by omega))), (show R_mp_checkCall (RL_mp_check d) tf ta na ca p0 ma cf ma_94 cf81 (1 : Int32) from (k94_27 _ _ _ 1 (Or.inr (Or.inl ⟨rfl, x94_2, x94_3, x94_4, x94_5, x94_6, x94_7, rfl, rfl, rfl, rfl, rfl, Or.inl ⟨nc1, Or.inl ⟨nc3, Or.inl ⟨nc5, z7, ez7, v9, e11, Or.inr ⟨nc12, v57, e59, Or.inr ⟨nc60, cf81, e103, Or.inl ⟨nc104, z106, ez106, z107, ez107, Or.inl ⟨nc108, rfl, rfl, rfl⟩⟩⟩⟩⟩⟩⟩⟩))))⟩) d_Mpg_checkCall_267 | (exact px_iret (v := 1) S hr rfl hlk hAe hw (Nat.le_of_ble_eq_true rfl) (Nat.le_of_ble_eq_true rfl) (⟨ma_94, cf81, rfl, (show KpE cf cf81 from hke), (show WrV cf81 (tf 6).toInt from hwr), (show (cf81 33).toInt = (cf 33).toInt from by first | exact oz_1687f4cc65 k94_2 e87 | omega), (show (cf81 38).toInt = (cf 38).toInt from by first | exact oz_1687f4cc65 k94_3 e88 | omega), (show (cf81 48).toInt = (cf 48).toInt from by first | exact oz_1687f4cc65 k94_4 e89 | omega), (show (cf81 46).toInt = (cf 46).toInt from by first | exact oz_1687f4cc65 k94_5 e90 | omega), (show (cf81 47).toInt = (cf 47).toInt from by first | exact oz_1687f4cc65 k94_6 e91 | omega), (show (cf81 57).toInt = (cf 57).toInt from by first | exact oz_1687f4cc65 k94_7 e92 | omega), (show Ann na ma0 ma_94 from han), (show FrC lo hi ma ma_94 from hfc), (show 0 ≤ (1 : Int) from by first | exact oz_19c3a41681 | omega), (show (1 : Int) ≤ 4 from by first | exact oz_39f46dc397 | omega), (show ZTy cf81 (Gk ta ca na ma0 ns ys nf) na ma_94 lo hi p0 (1 : Int) from (zr_no (by omega))), (show R_mp_checkCall (RL_mp_check d) tf ta na ca p0 ma cf ma_94 cf81 (1 : Int32) from (k94_27 _ _ _ 1 (Or.inr (Or.inl ⟨rfl, x94_2, x94_3, x94_4, x94_5, x94_6, x94_7, rfl, rfl, rfl, rfl, rfl, Or.inl ⟨nc1, Or.inl ⟨nc3, Or.inl ⟨nc5, z7, ez7, v9, e11, Or.inr ⟨nc12, v57, e59, Or.inr ⟨nc60, cf81, e103, Or.inl ⟨nc104, z106, ez106, z107, ez107, Or.inl ⟨nc108, rfl, rfl, rfl⟩⟩⟩⟩⟩⟩⟩⟩))))⟩) d_Mpg_checkCall_267)
                    · exact absurd c110 (by decide)
                  · have nc108 : z107.toInt = (2 : Int) := (i_eq (x := z107) (y := 2)).mp c108
                    refine lv_iconst (v := 1) S.x S.b d_Mpg_checkCall_250 (by decide) ?_
                    refine lv_goto (tgt := 255) S.x S.b d_Mpg_checkCall_251 (by decide) ?_
                    refine lv_istore (lv' := [(7, .int 1), (0, .ref h), (1, .int p0), (2, .int x94_2), (3, .int x94_3), (4, .int x94_4), (5, .int x94_5), (6, .int x94_6)]) S.x S.b d_Mpg_checkCall_255 hl (by decide) rfl (fun ls hl => ?_)
                    refine lv_iload S.x S.b d_Mpg_checkCall_257 (lv_at hl 0 rfl) ?_
                    refine lv_if_eq (tgt := 266) S.x S.b d_Mpg_checkCall_259 (by decide) (fun c111 => ?_) (fun c111 => ?_)
                    · exact absurd c111 (by decide)
                    ·
                      refine lv_iconst (v := 4) S.x S.b d_Mpg_checkCall_262 (by decide) ?_
                      refine lv_goto (tgt := 267) S.x S.b d_Mpg_checkCall_263 (by decide) ?_
                      first | exact px_iret (v := 4) S hr rfl hlk hAe hw (Nat.le_of_ble_eq_true rfl) (Nat.le_of_ble_eq_true rfl) (⟨ma_94, cf81, rfl, (show KpE cf cf81 from hke), (show WrV cf81 (tf 6).toInt from hwr), (show (cf81 33).toInt = (cf 33).toInt from (oz_1687f4cc65 k94_2 e87)), (show (cf81 38).toInt = (cf 38).toInt from (oz_1687f4cc65 k94_3 e88)), (show (cf81 48).toInt = (cf 48).toInt from (oz_1687f4cc65 k94_4 e89)), (show (cf81 46).toInt = (cf 46).toInt from (oz_1687f4cc65 k94_5 e90)), (show (cf81 47).toInt = (cf 47).toInt from (oz_1687f4cc65 k94_6 e91)), (show (cf81 57).toInt = (cf 57).toInt from (oz_1687f4cc65 k94_7 e92)), (show Ann na ma0 ma_94 from han), (show FrC lo hi ma ma_94 from hfc), (show 0 ≤ (4 : Int) from oz_8aa1b7a920), (show (4 : Int) ≤ 4 from oz_00eea3d1ab), (show ZTy cf81 (Gk ta ca na ma0 ns ys nf) na ma_94 lo hi p0 (4 : Int) from (zr_no (by omega))), (show R_mp_checkCall (RL_mp_check d) tf ta na ca p0 ma cf ma_94 cf81 (4 : Int32) from (k94_27 _ _ _ 1 (Or.inr (Or.inl ⟨rfl, x94_2, x94_3, x94_4, x94_5, x94_6, x94_7, rfl, rfl, rfl, rfl, rfl, Or.inl ⟨nc1, Or.inl ⟨nc3, Or.inl ⟨nc5, z7, ez7, v9, e11, Or.inr ⟨nc12, v57, e59, Or.inr ⟨nc60, cf81, e103, Or.inl ⟨nc104, z106, ez106, z107, ez107, Or.inr ⟨nc108, rfl, rfl, rfl⟩⟩⟩⟩⟩⟩⟩⟩))))⟩) d_Mpg_checkCall_267 | (exact px_iret (v := 4) S hr rfl hlk hAe hw (Nat.le_of_ble_eq_true rfl) (Nat.le_of_ble_eq_true rfl) (⟨ma_94, cf81, rfl, (show KpE cf cf81 from hke), (show WrV cf81 (tf 6).toInt from hwr), (show (cf81 33).toInt = (cf 33).toInt from by first | exact oz_1687f4cc65 k94_2 e87 | omega), (show (cf81 38).toInt = (cf 38).toInt from by first | exact oz_1687f4cc65 k94_3 e88 | omega), (show (cf81 48).toInt = (cf 48).toInt from by first | exact oz_1687f4cc65 k94_4 e89 | omega), (show (cf81 46).toInt = (cf 46).toInt from by first | exact oz_1687f4cc65 k94_5 e90 | omega), (show (cf81 47).toInt = (cf 47).toInt from by first | exact oz_1687f4cc65 k94_6 e91 | omega), (show (cf81 57).toInt = (cf 57).toInt from by first | exact oz_1687f4cc65 k94_7 e92 | omega), (show Ann na ma0 ma_94 from han), (show FrC lo hi ma ma_94 from hfc), (show 0 ≤ (4 : Int) from by first | exact oz_8aa1b7a920 | omega), (show (4 : Int) ≤ 4 from by first | exact oz_00eea3d1ab | omega), (show ZTy cf81 (Gk ta ca na ma0 ns ys nf) na ma_94 lo hi p0 (4 : Int) from (zr_no (by omega))), (show R_mp_checkCall (RL_mp_check d) tf ta na ca p0 ma cf ma_94 cf81 (4 : Int32) from (k94_27 _ _ _ 1 (Or.inr (Or.inl ⟨rfl, x94_2, x94_3, x94_4, x94_5, x94_6, x94_7, rfl, rfl, rfl, rfl, rfl, Or.inl ⟨nc1, Or.inl ⟨nc3, Or.inl ⟨nc5, z7, ez7, v9, e11, Or.inr ⟨nc12, v57, e59, Or.inr ⟨nc60, cf81, e103, Or.inl ⟨nc104, z106, ez106, z107, ez107, Or.inr ⟨nc108, rfl, rfl, rfl⟩⟩⟩⟩⟩⟩⟩⟩))))⟩) d_Mpg_checkCall_267)
                · have nc104 : ¬ x94_3.toInt < (0 : Int) := mt (i_lt (x := x94_3) (y := 0)).mpr c104
                  refine lv_aload_n S.x S.b d_Mpg_checkCall_211 rfl (lv_at hl 0 rfl) ?_
                  refine gP_3 S hT hw 0 rfl m9_227 d_Mpg_checkCall_212 ?_
                  refine lv_iload_n S.x S.b d_Mpg_checkCall_215 rfl (lv_at hl 3 rfl) ?_
                  first | have hclsk112 := cl_nat (x := x94_3) ((oz_18a5c06a28 nc104)) | (have hclsk112 := cl_nat (x := x94_3) (by first | exact oz_18a5c06a28 nc104 | omega))
                  obtain ⟨sk112, hgsk112, st113, hSsk112⟩ := hP.2.2.2.2.2.1 x94_3.toNatClampNeg (by omega)
                  have hmsk112 := len_3 (i := x94_3.toNatClampNeg) (by omega)
                  refine px_aaldS S hT hw 0 4 11 (n := 15) (f := (g 3)) rfl rfl rfl (x := x94_3) (vp_in_iff.mpr (by first | exact oz_891c5e5184 nc104 k94_11 | (constructor <;> omega))) hgsk112 d_Mpg_checkCall_216 ?_
                  refine lv_iconst (v := 0) S.x S.b d_Mpg_checkCall_217 (by decide) ?_
                  first | refine px_calli (pr := [wdP cs h r g tf ta pf na ma_94 wa cf81 ca ef ea xf xa]) (px_runV (As := [.int 0]) (rest := []) S (c_String_charAt l D cs sk112 st113 (tlen x94_3.toNatClampNeg) (tby x94_3.toNatClampNeg) 0  (show (tlen x94_3.toNatClampNeg) ≤ 1000000 from by omega) (show 0 ≤ (0 : Int) from oz_5a341f00aa) (show (0 : Int) < ((tlen x94_3.toNatClampNeg) : Int) from by omega) _) hT (pr := [wdP cs h r g tf ta pf na ma_94 wa cf81 ca ef ea xf xa]) (pcs := []) hw (oX_call (P := (fun A U H => (oF A U H) ∧ (oZ A U H) ∧ (oS A sk112 st113 (tlen x94_3.toNatClampNeg) (tby x94_3.toNatClampNeg) U H))) (pr := [wdP cs h r g tf ta pf na ma_94 wa cf81 ca ef ea xf xa]) (oG_and oG_F (oG_and oG_Z oG_S)) hw hA ⟨hF0, hZ, hSsk112⟩) (oS_recv hw hSsk112) m1_68 m11_162 m1_66 m1_67 m1_3 q_String_charAt ⟨show 3 + 1 ≤ (4 * d + 14) from (oz_87f60782ea), show 8 + (2 + 11) + 90 ≤ (200 * d + 540) from (oz_6a6d2d7d66)⟩ hl.1 rfl (Nat.le_of_ble_eq_true rfl) d_Mpg_checkCall_218 ⟨Nat.le_of_ble_eq_true rfl, Nat.le_of_ble_eq_true rfl⟩) hw hA (fun v115 p114 H locs hp114 hw => ?_) | (refine px_calli (pr := [wdP cs h r g tf ta pf na ma_94 wa cf81 ca ef ea xf xa]) (px_runV (As := [.int 0]) (rest := []) S (c_String_charAt l D cs sk112 st113 (tlen x94_3.toNatClampNeg) (tby x94_3.toNatClampNeg) 0  (show (tlen x94_3.toNatClampNeg) ≤ 1000000 from by omega) (show 0 ≤ (0 : Int) from by first | exact oz_5a341f00aa | omega) (show (0 : Int) < ((tlen x94_3.toNatClampNeg) : Int) from by omega) _) hT (pr := [wdP cs h r g tf ta pf na ma_94 wa cf81 ca ef ea xf xa]) (pcs := []) hw (oX_call (P := (fun A U H => (oF A U H) ∧ (oZ A U H) ∧ (oS A sk112 st113 (tlen x94_3.toNatClampNeg) (tby x94_3.toNatClampNeg) U H))) (pr := [wdP cs h r g tf ta pf na ma_94 wa cf81 ca ef ea xf xa]) (oG_and oG_F (oG_and oG_Z oG_S)) hw hA ⟨hF0, hZ, hSsk112⟩) (oS_recv hw hSsk112) m1_68 m11_162 m1_66 m1_67 m1_3 q_String_charAt ⟨show 3 + 1 ≤ (4 * d + 14) from (by first | exact oz_87f60782ea | omega), show 8 + (2 + 11) + 90 ≤ (200 * d + 540) from (by first | exact oz_6a6d2d7d66 | omega)⟩ hl.1 rfl (Nat.le_of_ble_eq_true rfl) d_Mpg_checkCall_218 ⟨Nat.le_of_ble_eq_true rfl, Nat.le_of_ble_eq_true rfl⟩) hw hA (fun v115 p114 H locs hp114 hw => ?_))
                  obtain ⟨rfl, e116, e117⟩ := hp114
                  have e116 : narrow .char (.int v115) = .int v115 := e116
                  have e117 : R_String_charAt (tby x94_3.toNatClampNeg) (0 : Int32) v115 := e117
                  have lv115 := Int32.le_toInt v115
                  have uv115 := Int32.toInt_lt v115
                  refine lv_bipush (v := 118) S.x S.b d_Mpg_checkCall_221 (by decide) ?_
                  refine lv_icmp_ne (tgt := 230) S.x S.b d_Mpg_checkCall_223 (by decide) (fun c118 => ?_) (fun c118 => ?_)
                  · have nc118 : ¬ v115.toInt = (118 : Int) := mt (i_eq (x := v115) (y := 118)).mpr c118
                    refine lv_iconst (v := 0) S.x S.b d_Mpg_checkCall_230 (by decide) ?_
                    refine lv_goto (tgt := 255) S.x S.b d_Mpg_checkCall_231 (by decide) ?_
                    refine lv_istore (lv' := [(7, .int 0), (0, .ref h), (1, .int p0), (2, .int x94_2), (3, .int x94_3), (4, .int x94_4), (5, .int x94_5), (6, .int x94_6)]) S.x S.b d_Mpg_checkCall_255 hl (by decide) rfl (fun ls hl => ?_)
                    refine lv_iload S.x S.b d_Mpg_checkCall_257 (lv_at hl 0 rfl) ?_
                    refine lv_if_eq (tgt := 266) S.x S.b d_Mpg_checkCall_259 (by decide) (fun c120 => ?_) (fun c120 => ?_)
                    ·
                      refine lv_iconst (v := 1) S.x S.b d_Mpg_checkCall_266 (by decide) ?_
                      first | exact px_iret (v := 1) S hr rfl hlk hAe hw (Nat.le_of_ble_eq_true rfl) (Nat.le_of_ble_eq_true rfl) (⟨ma_94, cf81, rfl, (show KpE cf cf81 from hke), (show WrV cf81 (tf 6).toInt from hwr), (show (cf81 33).toInt = (cf 33).toInt from (oz_1687f4cc65 k94_2 e87)), (show (cf81 38).toInt = (cf 38).toInt from (oz_1687f4cc65 k94_3 e88)), (show (cf81 48).toInt = (cf 48).toInt from (oz_1687f4cc65 k94_4 e89)), (show (cf81 46).toInt = (cf 46).toInt from (oz_1687f4cc65 k94_5 e90)), (show (cf81 47).toInt = (cf 47).toInt from (oz_1687f4cc65 k94_6 e91)), (show (cf81 57).toInt = (cf 57).toInt from (oz_1687f4cc65 k94_7 e92)), (show Ann na ma0 ma_94 from han), (show FrC lo hi ma ma_94 from hfc), (show 0 ≤ (1 : Int) from oz_19c3a41681), (show (1 : Int) ≤ 4 from oz_39f46dc397), (show ZTy cf81 (Gk ta ca na ma0 ns ys nf) na ma_94 lo hi p0 (1 : Int) from (zr_no (by omega))), (show R_mp_checkCall (RL_mp_check d) tf ta na ca p0 ma cf ma_94 cf81 (1 : Int32) from (k94_27 _ _ _ 1 (Or.inr (Or.inl ⟨rfl, x94_2, x94_3, x94_4, x94_5, x94_6, x94_7, rfl, rfl, rfl, rfl, rfl, Or.inl ⟨nc1, Or.inl ⟨nc3, Or.inl ⟨nc5, z7, ez7, v9, e11, Or.inr ⟨nc12, v57, e59, Or.inr ⟨nc60, cf81, e103, Or.inr ⟨nc104, v115, e117, Or.inl ⟨nc118, rfl, rfl, rfl⟩⟩⟩⟩⟩⟩⟩⟩))))⟩) d_Mpg_checkCall_267 | (exact px_iret (v := 1) S hr rfl hlk hAe hw (Nat.le_of_ble_eq_true rfl) (Nat.le_of_ble_eq_true rfl) (⟨ma_94, cf81, rfl, (show KpE cf cf81 from hke), (show WrV cf81 (tf 6).toInt from hwr), (show (cf81 33).toInt = (cf 33).toInt from by first | exact oz_1687f4cc65 k94_2 e87 | omega), (show (cf81 38).toInt = (cf 38).toInt from by first | exact oz_1687f4cc65 k94_3 e88 | omega), (show (cf81 48).toInt = (cf 48).toInt from by first | exact oz_1687f4cc65 k94_4 e89 | omega), (show (cf81 46).toInt = (cf 46).toInt from by first | exact oz_1687f4cc65 k94_5 e90 | omega), (show (cf81 47).toInt = (cf 47).toInt from by first | exact oz_1687f4cc65 k94_6 e91 | omega), (show (cf81 57).toInt = (cf 57).toInt from by first | exact oz_1687f4cc65 k94_7 e92 | omega), (show Ann na ma0 ma_94 from han), (show FrC lo hi ma ma_94 from hfc), (show 0 ≤ (1 : Int) from by first | exact oz_19c3a41681 | omega), (show (1 : Int) ≤ 4 from by first | exact oz_39f46dc397 | omega), (show ZTy cf81 (Gk ta ca na ma0 ns ys nf) na ma_94 lo hi p0 (1 : Int) from (zr_no (by omega))), (show R_mp_checkCall (RL_mp_check d) tf ta na ca p0 ma cf ma_94 cf81 (1 : Int32) from (k94_27 _ _ _ 1 (Or.inr (Or.inl ⟨rfl, x94_2, x94_3, x94_4, x94_5, x94_6, x94_7, rfl, rfl, rfl, rfl, rfl, Or.inl ⟨nc1, Or.inl ⟨nc3, Or.inl ⟨nc5, z7, ez7, v9, e11, Or.inr ⟨nc12, v57, e59, Or.inr ⟨nc60, cf81, e103, Or.inr ⟨nc104, v115, e117, Or.inl ⟨nc118, rfl, rfl, rfl⟩⟩⟩⟩⟩⟩⟩⟩))))⟩) d_Mpg_checkCall_267)
                    · exact absurd c120 (by decide)
                  · have nc118 : v115.toInt = (118 : Int) := (i_eq (x := v115) (y := 118)).mp c118
                    refine lv_iconst (v := 1) S.x S.b d_Mpg_checkCall_226 (by decide) ?_
                    refine lv_goto (tgt := 255) S.x S.b d_Mpg_checkCall_227 (by decide) ?_
                    refine lv_istore (lv' := [(7, .int 1), (0, .ref h), (1, .int p0), (2, .int x94_2), (3, .int x94_3), (4, .int x94_4), (5, .int x94_5), (6, .int x94_6)]) S.x S.b d_Mpg_checkCall_255 hl (by decide) rfl (fun ls hl => ?_)
                    refine lv_iload S.x S.b d_Mpg_checkCall_257 (lv_at hl 0 rfl) ?_
                    refine lv_if_eq (tgt := 266) S.x S.b d_Mpg_checkCall_259 (by decide) (fun c121 => ?_) (fun c121 => ?_)
                    · exact absurd c121 (by decide)
                    ·
                      refine lv_iconst (v := 4) S.x S.b d_Mpg_checkCall_262 (by decide) ?_
                      refine lv_goto (tgt := 267) S.x S.b d_Mpg_checkCall_263 (by decide) ?_
                      first | exact px_iret (v := 4) S hr rfl hlk hAe hw (Nat.le_of_ble_eq_true rfl) (Nat.le_of_ble_eq_true rfl) (⟨ma_94, cf81, rfl, (show KpE cf cf81 from hke), (show WrV cf81 (tf 6).toInt from hwr), (show (cf81 33).toInt = (cf 33).toInt from (oz_1687f4cc65 k94_2 e87)), (show (cf81 38).toInt = (cf 38).toInt from (oz_1687f4cc65 k94_3 e88)), (show (cf81 48).toInt = (cf 48).toInt from (oz_1687f4cc65 k94_4 e89)), (show (cf81 46).toInt = (cf 46).toInt from (oz_1687f4cc65 k94_5 e90)), (show (cf81 47).toInt = (cf 47).toInt from (oz_1687f4cc65 k94_6 e91)), (show (cf81 57).toInt = (cf 57).toInt from (oz_1687f4cc65 k94_7 e92)), (show Ann na ma0 ma_94 from han), (show FrC lo hi ma ma_94 from hfc), (show 0 ≤ (4 : Int) from oz_8aa1b7a920), (show (4 : Int) ≤ 4 from oz_00eea3d1ab), (show ZTy cf81 (Gk ta ca na ma0 ns ys nf) na ma_94 lo hi p0 (4 : Int) from (zr_no (by omega))), (show R_mp_checkCall (RL_mp_check d) tf ta na ca p0 ma cf ma_94 cf81 (4 : Int32) from (k94_27 _ _ _ 1 (Or.inr (Or.inl ⟨rfl, x94_2, x94_3, x94_4, x94_5, x94_6, x94_7, rfl, rfl, rfl, rfl, rfl, Or.inl ⟨nc1, Or.inl ⟨nc3, Or.inl ⟨nc5, z7, ez7, v9, e11, Or.inr ⟨nc12, v57, e59, Or.inr ⟨nc60, cf81, e103, Or.inr ⟨nc104, v115, e117, Or.inr ⟨nc118, rfl, rfl, rfl⟩⟩⟩⟩⟩⟩⟩⟩))))⟩) d_Mpg_checkCall_267 | (exact px_iret (v := 4) S hr rfl hlk hAe hw (Nat.le_of_ble_eq_true rfl) (Nat.le_of_ble_eq_true rfl) (⟨ma_94, cf81, rfl, (show KpE cf cf81 from hke), (show WrV cf81 (tf 6).toInt from hwr), (show (cf81 33).toInt = (cf 33).toInt from by first | exact oz_1687f4cc65 k94_2 e87 | omega), (show (cf81 38).toInt = (cf 38).toInt from by first | exact oz_1687f4cc65 k94_3 e88 | omega), (show (cf81 48).toInt = (cf 48).toInt from by first | exact oz_1687f4cc65 k94_4 e89 | omega), (show (cf81 46).toInt = (cf 46).toInt from by first | exact oz_1687f4cc65 k94_5 e90 | omega), (show (cf81 47).toInt = (cf 47).toInt from by first | exact oz_1687f4cc65 k94_6 e91 | omega), (show (cf81 57).toInt = (cf 57).toInt from by first | exact oz_1687f4cc65 k94_7 e92 | omega), (show Ann na ma0 ma_94 from han), (show FrC lo hi ma ma_94 from hfc), (show 0 ≤ (4 : Int) from by first | exact oz_8aa1b7a920 | omega), (show (4 : Int) ≤ 4 from by first | exact oz_00eea3d1ab | omega), (show ZTy cf81 (Gk ta ca na ma0 ns ys nf) na ma_94 lo hi p0 (4 : Int) from (zr_no (by omega))), (show R_mp_checkCall (RL_mp_check d) tf ta na ca p0 ma cf ma_94 cf81 (4 : Int32) from (k94_27 _ _ _ 1 (Or.inr (Or.inl ⟨rfl, x94_2, x94_3, x94_4, x94_5, x94_6, x94_7, rfl, rfl, rfl, rfl, rfl, Or.inl ⟨nc1, Or.inl ⟨nc3, Or.inl ⟨nc5, z7, ez7, v9, e11, Or.inr ⟨nc12, v57, e59, Or.inr ⟨nc60, cf81, e103, Or.inr ⟨nc104, v115, e117, Or.inr ⟨nc118, rfl, rfl, rfl⟩⟩⟩⟩⟩⟩⟩⟩))))⟩) d_Mpg_checkCall_267)
          · have nc5 : x94_6.toInt = (0 : Int) := (i_eq (x := x94_6) (y := 0)).mp c5
            refine lv_aload_n S.x S.b d_Mpg_checkCall_155 rfl (lv_at hl 0 rfl) ?_
            refine lv_iload S.x S.b d_Mpg_checkCall_156 (lv_at hl 4 rfl) ?_
            refine lv_iload_n S.x S.b d_Mpg_checkCall_158 rfl (lv_at hl 3 rfl) ?_
            refine lv_iconst (v := 0) S.x S.b d_Mpg_checkCall_159 (by decide) ?_
            first | refine px_calli (pr := []) (px_runV (As := [.int x94_4, .int x94_3, .int 0]) (rest := []) S (c_mp_taken l D cs h r g tf ta pf na ma_94 wa cf_94 ca ef ea xf xa x94_4 x94_3 0  (show -1 ≤ x94_4.toInt from k94_12) (show x94_4.toInt < (cf_94 38).toInt from (oz_0f2ac8ea3f k94_3 k94_13 g7)) (show x94_4.toInt < 0 → 0 ≤ x94_3.toInt ∧ x94_3.toInt < 10 from by omega) (show 0 ≤ (0 : Int) from oz_5a341f00aa) (show (0 : Int) ≤ 4000 from oz_bf976ee9ac) (show 0 ≤ (cf_94 38).toInt from (oz_e2fef14871 k94_3 g7 g8)) htk (FnT.eq hft (by omega)) (FnP.eq hfp (by omega)) _) hT (pr := []) (pcs := [wdP cs h r g tf ta pf na ma_94 wa cf_94 ca ef ea xf xa]) hw (oX_call (P := (fun A U H => (oP A g U H))) (pr := []) oG_P hw hA hP) (px_recv hT hw 0 0 rfl rfl rfl) m12_229 m12_226 m12_228 ms_12_10 m1_21 q_Mpg_taken ⟨show 4 + 1 ≤ (4 * d + 14) from (oz_0cd0036c91), show 8 + (6 + 11) + 140 ≤ (200 * d + 540) from (oz_dff5f80a3a)⟩ hl.1 rfl (Nat.le_of_ble_eq_true rfl) d_Mpg_checkCall_160 ⟨Nat.le_of_ble_eq_true rfl, Nat.le_of_ble_eq_true rfl⟩) hw hA (fun v123 p122 H locs hp122 hw => ?_) | (refine px_calli (pr := []) (px_runV (As := [.int x94_4, .int x94_3, .int 0]) (rest := []) S (c_mp_taken l D cs h r g tf ta pf na ma_94 wa cf_94 ca ef ea xf xa x94_4 x94_3 0  (show -1 ≤ x94_4.toInt from by first | exact k94_12 | omega) (show x94_4.toInt < (cf_94 38).toInt from by first | exact oz_0f2ac8ea3f k94_3 k94_13 g7 | omega) (show x94_4.toInt < 0 → 0 ≤ x94_3.toInt ∧ x94_3.toInt < 10 from by omega) (show 0 ≤ (0 : Int) from by first | exact oz_5a341f00aa | omega) (show (0 : Int) ≤ 4000 from by first | exact oz_bf976ee9ac | omega) (show 0 ≤ (cf_94 38).toInt from by first | exact oz_e2fef14871 k94_3 g7 g8 | omega) htk (FnT.eq hft (by omega)) (FnP.eq hfp (by omega)) _) hT (pr := []) (pcs := [wdP cs h r g tf ta pf na ma_94 wa cf_94 ca ef ea xf xa]) hw (oX_call (P := (fun A U H => (oP A g U H))) (pr := []) oG_P hw hA hP) (px_recv hT hw 0 0 rfl rfl rfl) m12_229 m12_226 m12_228 ms_12_10 m1_21 q_Mpg_taken ⟨show 4 + 1 ≤ (4 * d + 14) from (by first | exact oz_0cd0036c91 | omega), show 8 + (6 + 11) + 140 ≤ (200 * d + 540) from (by first | exact oz_dff5f80a3a | omega)⟩ hl.1 rfl (Nat.le_of_ble_eq_true rfl) d_Mpg_checkCall_160 ⟨Nat.le_of_ble_eq_true rfl, Nat.le_of_ble_eq_true rfl⟩) hw hA (fun v123 p122 H locs hp122 hw => ?_))
            obtain ⟨rfl, e124, e125⟩ := hp122
            have e124 : TkV na ma_94 ca x94_4.toInt x94_3.toInt (0 : Int) v123.toInt := e124
            have e125 : R_mp_taken na ma_94 ca x94_4 x94_3 (0 : Int32) v123 := e125
            have lv123 := Int32.le_toInt v123
            have uv123 := Int32.toInt_lt v123
            have hcn_160 : CeN nf (cod x94_4.toInt x94_3.toInt) := cen_mk (by omega); have htv_160 := tkv_at (ta := ta) (ns := ns) (ys := ys) e124 han hfp hcn_160; have htg_160 := tkv_rng e124 hcn_160
            refine lv_bipush (v := 32) S.x S.b d_Mpg_checkCall_163 (by decide) ?_
            refine lv_icmp_eq (tgt := 207) S.x S.b d_Mpg_checkCall_165 (by decide) (fun c126 => ?_) (fun c126 => ?_)
            · have nc126 : v123.toInt = (32 : Int) := (i_eq (x := v123) (y := 32)).mp c126
              refine lv_iload_n S.x S.b d_Mpg_checkCall_207 rfl (lv_at hl 3 rfl) ?_
              refine lv_if_lt (tgt := 234) S.x S.b d_Mpg_checkCall_208 (by decide) (fun c128 => ?_) (fun c128 => ?_)
              · have nc128 : x94_3.toInt < (0 : Int) := (i_lt (x := x94_3) (y := 0)).mp c128
                refine lv_aload_n S.x S.b d_Mpg_checkCall_234 rfl (lv_at hl 0 rfl) ?_
                refine gP_22 S hT hw 0 rfl m10_9 d_Mpg_checkCall_235 ?_
                refine lv_aload_n S.x S.b d_Mpg_checkCall_238 rfl (lv_at hl 0 rfl) ?_
                refine gP_39 S hT hw 0 rfl m10_28 d_Mpg_checkCall_239 ?_
                refine lv_iload S.x S.b d_Mpg_checkCall_242 (lv_at hl 4 rfl) ?_
                refine px_iald S hT hw 0 26 (n := 260) (f := (ca 39)) rfl gp_39 (x := x94_4) (vp_in_iff.mpr (by constructor <;> omega)) d_Mpg_checkCall_244 ?_
                refine lv_topi (fun z130 ez130 => ?_)
                have lz130 := Int32.le_toInt z130
                have uz130 := Int32.toInt_lt z130
                have rz130 := FnT.at hft (x := x94_4) (by omega) (by omega) ez130
                refine px_iald S hT hw 0 18 (n := 2100) (f := (ma_94 22)) rfl gp_22 (x := z130) (vp_in_iff.mpr (by constructor <;> omega)) d_Mpg_checkCall_245 ?_
                refine lv_topi (fun z131 ez131 => ?_)
                have lz131 := Int32.le_toInt z131
                have uz131 := Int32.toInt_lt z131
                refine lv_iconst (v := 2) S.x S.b d_Mpg_checkCall_246 (by decide) ?_
                refine lv_icmp_ne (tgt := 254) S.x S.b d_Mpg_checkCall_247 (by decide) (fun c132 => ?_) (fun c132 => ?_)
                · have nc132 : ¬ z131.toInt = (2 : Int) := mt (i_eq (x := z131) (y := 2)).mpr c132
                  refine lv_iconst (v := 0) S.x S.b d_Mpg_checkCall_254 (by decide) ?_
                  refine lv_istore (lv' := [(7, .int 0), (0, .ref h), (1, .int p0), (2, .int x94_2), (3, .int x94_3), (4, .int x94_4), (5, .int x94_5), (6, .int x94_6)]) S.x S.b d_Mpg_checkCall_255 hl (by decide) rfl (fun ls hl => ?_)
                  refine lv_iload S.x S.b d_Mpg_checkCall_257 (lv_at hl 0 rfl) ?_
                  refine lv_if_eq (tgt := 266) S.x S.b d_Mpg_checkCall_259 (by decide) (fun c134 => ?_) (fun c134 => ?_)
                  ·
                    refine lv_iconst (v := 1) S.x S.b d_Mpg_checkCall_266 (by decide) ?_
                    first | exact px_iret (v := 1) S hr rfl hlk hAe hw (Nat.le_of_ble_eq_true rfl) (Nat.le_of_ble_eq_true rfl) (⟨ma_94, cf_94, rfl, (show KpE cf cf_94 from hke), (show WrV cf_94 (tf 6).toInt from hwr), (show (cf_94 33).toInt = (cf 33).toInt from k94_2), (show (cf_94 38).toInt = (cf 38).toInt from k94_3), (show (cf_94 48).toInt = (cf 48).toInt from k94_4), (show (cf_94 46).toInt = (cf 46).toInt from k94_5), (show (cf_94 47).toInt = (cf 47).toInt from k94_6), (show (cf_94 57).toInt = (cf 57).toInt from k94_7), (show Ann na ma0 ma_94 from han), (show FrC lo hi ma ma_94 from hfc), (show 0 ≤ (1 : Int) from oz_19c3a41681), (show (1 : Int) ≤ 4 from oz_39f46dc397), (show ZTy cf_94 (Gk ta ca na ma0 ns ys nf) na ma_94 lo hi p0 (1 : Int) from (call_ty hrg (by omega) (hkb (by omega)) (cen_mk (by omega)) rfl (ZTy_le hzta (by omega)) (by omega) (by omega) (by rw [show x94_6.toInt = (0 : Int) by omega, ← htv_160]; omega) (Or.inl (by omega)) (by omega))), (show R_mp_checkCall (RL_mp_check d) tf ta na ca p0 ma cf ma_94 cf_94 (1 : Int32) from (k94_27 _ _ _ 1 (Or.inr (Or.inl ⟨rfl, x94_2, x94_3, x94_4, x94_5, x94_6, x94_7, rfl, rfl, rfl, rfl, rfl, Or.inl ⟨nc1, Or.inl ⟨nc3, Or.inr ⟨nc5, v123, e125, Or.inl ⟨nc126, Or.inl ⟨nc128, z130, ez130, z131, ez131, Or.inl ⟨nc132, rfl, rfl, rfl⟩⟩⟩⟩⟩⟩⟩))))⟩) d_Mpg_checkCall_267 | (exact px_iret (v := 1) S hr rfl hlk hAe hw (Nat.le_of_ble_eq_true rfl) (Nat.le_of_ble_eq_true rfl) (⟨ma_94, cf_94, rfl, (show KpE cf cf_94 from hke), (show WrV cf_94 (tf 6).toInt from hwr), (show (cf_94 33).toInt = (cf 33).toInt from by first | exact k94_2 | omega), (show (cf_94 38).toInt = (cf 38).toInt from by first | exact k94_3 | omega), (show (cf_94 48).toInt = (cf 48).toInt from by first | exact k94_4 | omega), (show (cf_94 46).toInt = (cf 46).toInt from by first | exact k94_5 | omega), (show (cf_94 47).toInt = (cf 47).toInt from by first | exact k94_6 | omega), (show (cf_94 57).toInt = (cf 57).toInt from by first | exact k94_7 | omega), (show Ann na ma0 ma_94 from han), (show FrC lo hi ma ma_94 from hfc), (show 0 ≤ (1 : Int) from by first | exact oz_19c3a41681 | omega), (show (1 : Int) ≤ 4 from by first | exact oz_39f46dc397 | omega), (show ZTy cf_94 (Gk ta ca na ma0 ns ys nf) na ma_94 lo hi p0 (1 : Int) from (call_ty hrg (by omega) (hkb (by omega)) (cen_mk (by omega)) rfl (ZTy_le hzta (by omega)) (by omega) (by omega) (by rw [show x94_6.toInt = (0 : Int) by omega, ← htv_160]; omega) (Or.inl (by omega)) (by omega))), (show R_mp_checkCall (RL_mp_check d) tf ta na ca p0 ma cf ma_94 cf_94 (1 : Int32) from (k94_27 _ _ _ 1 (Or.inr (Or.inl ⟨rfl, x94_2, x94_3, x94_4, x94_5, x94_6, x94_7, rfl, rfl, rfl, rfl, rfl, Or.inl ⟨nc1, Or.inl ⟨nc3, Or.inr ⟨nc5, v123, e125, Or.inl ⟨nc126, Or.inl ⟨nc128, z130, ez130, z131, ez131, Or.inl ⟨nc132, rfl, rfl, rfl⟩⟩⟩⟩⟩⟩⟩))))⟩) d_Mpg_checkCall_267)
                  · exact absurd c134 (by decide)
                · have nc132 : z131.toInt = (2 : Int) := (i_eq (x := z131) (y := 2)).mp c132
                  refine lv_iconst (v := 1) S.x S.b d_Mpg_checkCall_250 (by decide) ?_
                  refine lv_goto (tgt := 255) S.x S.b d_Mpg_checkCall_251 (by decide) ?_
                  refine lv_istore (lv' := [(7, .int 1), (0, .ref h), (1, .int p0), (2, .int x94_2), (3, .int x94_3), (4, .int x94_4), (5, .int x94_5), (6, .int x94_6)]) S.x S.b d_Mpg_checkCall_255 hl (by decide) rfl (fun ls hl => ?_)
                  refine lv_iload S.x S.b d_Mpg_checkCall_257 (lv_at hl 0 rfl) ?_
                  refine lv_if_eq (tgt := 266) S.x S.b d_Mpg_checkCall_259 (by decide) (fun c135 => ?_) (fun c135 => ?_)
                  · exact absurd c135 (by decide)
                  ·
                    refine lv_iconst (v := 4) S.x S.b d_Mpg_checkCall_262 (by decide) ?_
                    refine lv_goto (tgt := 267) S.x S.b d_Mpg_checkCall_263 (by decide) ?_
                    first | exact px_iret (v := 4) S hr rfl hlk hAe hw (Nat.le_of_ble_eq_true rfl) (Nat.le_of_ble_eq_true rfl) (⟨ma_94, cf_94, rfl, (show KpE cf cf_94 from hke), (show WrV cf_94 (tf 6).toInt from hwr), (show (cf_94 33).toInt = (cf 33).toInt from k94_2), (show (cf_94 38).toInt = (cf 38).toInt from k94_3), (show (cf_94 48).toInt = (cf 48).toInt from k94_4), (show (cf_94 46).toInt = (cf 46).toInt from k94_5), (show (cf_94 47).toInt = (cf 47).toInt from k94_6), (show (cf_94 57).toInt = (cf 57).toInt from k94_7), (show Ann na ma0 ma_94 from han), (show FrC lo hi ma ma_94 from hfc), (show 0 ≤ (4 : Int) from oz_8aa1b7a920), (show (4 : Int) ≤ 4 from oz_00eea3d1ab), (show ZTy cf_94 (Gk ta ca na ma0 ns ys nf) na ma_94 lo hi p0 (4 : Int) from (call_ty hrg (by omega) (hkb (by omega)) (cen_mk (by omega)) rfl (ZTy_le hzta (by omega)) (by omega) (by omega) (by rw [show x94_6.toInt = (0 : Int) by omega, ← htv_160]; omega) (Or.inl (by omega)) (by omega))), (show R_mp_checkCall (RL_mp_check d) tf ta na ca p0 ma cf ma_94 cf_94 (4 : Int32) from (k94_27 _ _ _ 1 (Or.inr (Or.inl ⟨rfl, x94_2, x94_3, x94_4, x94_5, x94_6, x94_7, rfl, rfl, rfl, rfl, rfl, Or.inl ⟨nc1, Or.inl ⟨nc3, Or.inr ⟨nc5, v123, e125, Or.inl ⟨nc126, Or.inl ⟨nc128, z130, ez130, z131, ez131, Or.inr ⟨nc132, rfl, rfl, rfl⟩⟩⟩⟩⟩⟩⟩))))⟩) d_Mpg_checkCall_267 | (exact px_iret (v := 4) S hr rfl hlk hAe hw (Nat.le_of_ble_eq_true rfl) (Nat.le_of_ble_eq_true rfl) (⟨ma_94, cf_94, rfl, (show KpE cf cf_94 from hke), (show WrV cf_94 (tf 6).toInt from hwr), (show (cf_94 33).toInt = (cf 33).toInt from by first | exact k94_2 | omega), (show (cf_94 38).toInt = (cf 38).toInt from by first | exact k94_3 | omega), (show (cf_94 48).toInt = (cf 48).toInt from by first | exact k94_4 | omega), (show (cf_94 46).toInt = (cf 46).toInt from by first | exact k94_5 | omega), (show (cf_94 47).toInt = (cf 47).toInt from by first | exact k94_6 | omega), (show (cf_94 57).toInt = (cf 57).toInt from by first | exact k94_7 | omega), (show Ann na ma0 ma_94 from han), (show FrC lo hi ma ma_94 from hfc), (show 0 ≤ (4 : Int) from by first | exact oz_8aa1b7a920 | omega), (show (4 : Int) ≤ 4 from by first | exact oz_00eea3d1ab | omega), (show ZTy cf_94 (Gk ta ca na ma0 ns ys nf) na ma_94 lo hi p0 (4 : Int) from (call_ty hrg (by omega) (hkb (by omega)) (cen_mk (by omega)) rfl (ZTy_le hzta (by omega)) (by omega) (by omega) (by rw [show x94_6.toInt = (0 : Int) by omega, ← htv_160]; omega) (Or.inl (by omega)) (by omega))), (show R_mp_checkCall (RL_mp_check d) tf ta na ca p0 ma cf ma_94 cf_94 (4 : Int32) from (k94_27 _ _ _ 1 (Or.inr (Or.inl ⟨rfl, x94_2, x94_3, x94_4, x94_5, x94_6, x94_7, rfl, rfl, rfl, rfl, rfl, Or.inl ⟨nc1, Or.inl ⟨nc3, Or.inr ⟨nc5, v123, e125, Or.inl ⟨nc126, Or.inl ⟨nc128, z130, ez130, z131, ez131, Or.inr ⟨nc132, rfl, rfl, rfl⟩⟩⟩⟩⟩⟩⟩))))⟩) d_Mpg_checkCall_267)
              · have nc128 : ¬ x94_3.toInt < (0 : Int) := mt (i_lt (x := x94_3) (y := 0)).mpr c128
                refine lv_aload_n S.x S.b d_Mpg_checkCall_211 rfl (lv_at hl 0 rfl) ?_
                refine gP_3 S hT hw 0 rfl m9_227 d_Mpg_checkCall_212 ?_
                refine lv_iload_n S.x S.b d_Mpg_checkCall_215 rfl (lv_at hl 3 rfl) ?_
                first | have hclsk136 := cl_nat (x := x94_3) ((oz_18a5c06a28 nc128)) | (have hclsk136 := cl_nat (x := x94_3) (by first | exact oz_18a5c06a28 nc128 | omega))
                obtain ⟨sk136, hgsk136, st137, hSsk136⟩ := hP.2.2.2.2.2.1 x94_3.toNatClampNeg (by omega)
                have hmsk136 := len_3 (i := x94_3.toNatClampNeg) (by omega)
                refine px_aaldS S hT hw 0 4 11 (n := 15) (f := (g 3)) rfl rfl rfl (x := x94_3) (vp_in_iff.mpr (by first | exact oz_891c5e5184 nc128 k94_11 | (constructor <;> omega))) hgsk136 d_Mpg_checkCall_216 ?_
                refine lv_iconst (v := 0) S.x S.b d_Mpg_checkCall_217 (by decide) ?_
                first | refine px_calli (pr := [wdP cs h r g tf ta pf na ma_94 wa cf_94 ca ef ea xf xa]) (px_runV (As := [.int 0]) (rest := []) S (c_String_charAt l D cs sk136 st137 (tlen x94_3.toNatClampNeg) (tby x94_3.toNatClampNeg) 0  (show (tlen x94_3.toNatClampNeg) ≤ 1000000 from by omega) (show 0 ≤ (0 : Int) from oz_5a341f00aa) (show (0 : Int) < ((tlen x94_3.toNatClampNeg) : Int) from by omega) _) hT (pr := [wdP cs h r g tf ta pf na ma_94 wa cf_94 ca ef ea xf xa]) (pcs := []) hw (oX_call (P := (fun A U H => (oF A U H) ∧ (oZ A U H) ∧ (oS A sk136 st137 (tlen x94_3.toNatClampNeg) (tby x94_3.toNatClampNeg) U H))) (pr := [wdP cs h r g tf ta pf na ma_94 wa cf_94 ca ef ea xf xa]) (oG_and oG_F (oG_and oG_Z oG_S)) hw hA ⟨hF0, hZ, hSsk136⟩) (oS_recv hw hSsk136) m1_68 m11_162 m1_66 m1_67 m1_3 q_String_charAt ⟨show 3 + 1 ≤ (4 * d + 14) from (oz_87f60782ea), show 8 + (2 + 11) + 90 ≤ (200 * d + 540) from (oz_6a6d2d7d66)⟩ hl.1 rfl (Nat.le_of_ble_eq_true rfl) d_Mpg_checkCall_218 ⟨Nat.le_of_ble_eq_true rfl, Nat.le_of_ble_eq_true rfl⟩) hw hA (fun v139 p138 H locs hp138 hw => ?_) | (refine px_calli (pr := [wdP cs h r g tf ta pf na ma_94 wa cf_94 ca ef ea xf xa]) (px_runV (As := [.int 0]) (rest := []) S (c_String_charAt l D cs sk136 st137 (tlen x94_3.toNatClampNeg) (tby x94_3.toNatClampNeg) 0  (show (tlen x94_3.toNatClampNeg) ≤ 1000000 from by omega) (show 0 ≤ (0 : Int) from by first | exact oz_5a341f00aa | omega) (show (0 : Int) < ((tlen x94_3.toNatClampNeg) : Int) from by omega) _) hT (pr := [wdP cs h r g tf ta pf na ma_94 wa cf_94 ca ef ea xf xa]) (pcs := []) hw (oX_call (P := (fun A U H => (oF A U H) ∧ (oZ A U H) ∧ (oS A sk136 st137 (tlen x94_3.toNatClampNeg) (tby x94_3.toNatClampNeg) U H))) (pr := [wdP cs h r g tf ta pf na ma_94 wa cf_94 ca ef ea xf xa]) (oG_and oG_F (oG_and oG_Z oG_S)) hw hA ⟨hF0, hZ, hSsk136⟩) (oS_recv hw hSsk136) m1_68 m11_162 m1_66 m1_67 m1_3 q_String_charAt ⟨show 3 + 1 ≤ (4 * d + 14) from (by first | exact oz_87f60782ea | omega), show 8 + (2 + 11) + 90 ≤ (200 * d + 540) from (by first | exact oz_6a6d2d7d66 | omega)⟩ hl.1 rfl (Nat.le_of_ble_eq_true rfl) d_Mpg_checkCall_218 ⟨Nat.le_of_ble_eq_true rfl, Nat.le_of_ble_eq_true rfl⟩) hw hA (fun v139 p138 H locs hp138 hw => ?_))
                obtain ⟨rfl, e140, e141⟩ := hp138
                have e140 : narrow .char (.int v139) = .int v139 := e140
                have e141 : R_String_charAt (tby x94_3.toNatClampNeg) (0 : Int32) v139 := e141
                have lv139 := Int32.le_toInt v139
                have uv139 := Int32.toInt_lt v139
                refine lv_bipush (v := 118) S.x S.b d_Mpg_checkCall_221 (by decide) ?_
                refine lv_icmp_ne (tgt := 230) S.x S.b d_Mpg_checkCall_223 (by decide) (fun c142 => ?_) (fun c142 => ?_)
                · have nc142 : ¬ v139.toInt = (118 : Int) := mt (i_eq (x := v139) (y := 118)).mpr c142
                  refine lv_iconst (v := 0) S.x S.b d_Mpg_checkCall_230 (by decide) ?_
                  refine lv_goto (tgt := 255) S.x S.b d_Mpg_checkCall_231 (by decide) ?_
                  refine lv_istore (lv' := [(7, .int 0), (0, .ref h), (1, .int p0), (2, .int x94_2), (3, .int x94_3), (4, .int x94_4), (5, .int x94_5), (6, .int x94_6)]) S.x S.b d_Mpg_checkCall_255 hl (by decide) rfl (fun ls hl => ?_)
                  refine lv_iload S.x S.b d_Mpg_checkCall_257 (lv_at hl 0 rfl) ?_
                  refine lv_if_eq (tgt := 266) S.x S.b d_Mpg_checkCall_259 (by decide) (fun c144 => ?_) (fun c144 => ?_)
                  ·
                    refine lv_iconst (v := 1) S.x S.b d_Mpg_checkCall_266 (by decide) ?_
                    first | exact px_iret (v := 1) S hr rfl hlk hAe hw (Nat.le_of_ble_eq_true rfl) (Nat.le_of_ble_eq_true rfl) (⟨ma_94, cf_94, rfl, (show KpE cf cf_94 from hke), (show WrV cf_94 (tf 6).toInt from hwr), (show (cf_94 33).toInt = (cf 33).toInt from k94_2), (show (cf_94 38).toInt = (cf 38).toInt from k94_3), (show (cf_94 48).toInt = (cf 48).toInt from k94_4), (show (cf_94 46).toInt = (cf 46).toInt from k94_5), (show (cf_94 47).toInt = (cf 47).toInt from k94_6), (show (cf_94 57).toInt = (cf 57).toInt from k94_7), (show Ann na ma0 ma_94 from han), (show FrC lo hi ma ma_94 from hfc), (show 0 ≤ (1 : Int) from oz_19c3a41681), (show (1 : Int) ≤ 4 from oz_39f46dc397), (show ZTy cf_94 (Gk ta ca na ma0 ns ys nf) na ma_94 lo hi p0 (1 : Int) from (call_ty hrg (by omega) (hkb (by omega)) (cen_mk (by omega)) rfl (ZTy_le hzta (by omega)) (by omega) (by omega) (by rw [show x94_6.toInt = (0 : Int) by omega, ← htv_160]; omega) (Or.inl (by omega)) (by omega))), (show R_mp_checkCall (RL_mp_check d) tf ta na ca p0 ma cf ma_94 cf_94 (1 : Int32) from (k94_27 _ _ _ 1 (Or.inr (Or.inl ⟨rfl, x94_2, x94_3, x94_4, x94_5, x94_6, x94_7, rfl, rfl, rfl, rfl, rfl, Or.inl ⟨nc1, Or.inl ⟨nc3, Or.inr ⟨nc5, v123, e125, Or.inl ⟨nc126, Or.inr ⟨nc128, v139, e141, Or.inl ⟨nc142, rfl, rfl, rfl⟩⟩⟩⟩⟩⟩⟩))))⟩) d_Mpg_checkCall_267 | (exact px_iret (v := 1) S hr rfl hlk hAe hw (Nat.le_of_ble_eq_true rfl) (Nat.le_of_ble_eq_true rfl) (⟨ma_94, cf_94, rfl, (show KpE cf cf_94 from hke), (show WrV cf_94 (tf 6).toInt from hwr), (show (cf_94 33).toInt = (cf 33).toInt from by first | exact k94_2 | omega), (show (cf_94 38).toInt = (cf 38).toInt from by first | exact k94_3 | omega), (show (cf_94 48).toInt = (cf 48).toInt from by first | exact k94_4 | omega), (show (cf_94 46).toInt = (cf 46).toInt from by first | exact k94_5 | omega), (show (cf_94 47).toInt = (cf 47).toInt from by first | exact k94_6 | omega), (show (cf_94 57).toInt = (cf 57).toInt from by first | exact k94_7 | omega), (show Ann na ma0 ma_94 from han), (show FrC lo hi ma ma_94 from hfc), (show 0 ≤ (1 : Int) from by first | exact oz_19c3a41681 | omega), (show (1 : Int) ≤ 4 from by first | exact oz_39f46dc397 | omega), (show ZTy cf_94 (Gk ta ca na ma0 ns ys nf) na ma_94 lo hi p0 (1 : Int) from (call_ty hrg (by omega) (hkb (by omega)) (cen_mk (by omega)) rfl (ZTy_le hzta (by omega)) (by omega) (by omega) (by rw [show x94_6.toInt = (0 : Int) by omega, ← htv_160]; omega) (Or.inl (by omega)) (by omega))), (show R_mp_checkCall (RL_mp_check d) tf ta na ca p0 ma cf ma_94 cf_94 (1 : Int32) from (k94_27 _ _ _ 1 (Or.inr (Or.inl ⟨rfl, x94_2, x94_3, x94_4, x94_5, x94_6, x94_7, rfl, rfl, rfl, rfl, rfl, Or.inl ⟨nc1, Or.inl ⟨nc3, Or.inr ⟨nc5, v123, e125, Or.inl ⟨nc126, Or.inr ⟨nc128, v139, e141, Or.inl ⟨nc142, rfl, rfl, rfl⟩⟩⟩⟩⟩⟩⟩))))⟩) d_Mpg_checkCall_267)
                  · exact absurd c144 (by decide)
                · have nc142 : v139.toInt = (118 : Int) := (i_eq (x := v139) (y := 118)).mp c142
                  refine lv_iconst (v := 1) S.x S.b d_Mpg_checkCall_226 (by decide) ?_
                  refine lv_goto (tgt := 255) S.x S.b d_Mpg_checkCall_227 (by decide) ?_
                  refine lv_istore (lv' := [(7, .int 1), (0, .ref h), (1, .int p0), (2, .int x94_2), (3, .int x94_3), (4, .int x94_4), (5, .int x94_5), (6, .int x94_6)]) S.x S.b d_Mpg_checkCall_255 hl (by decide) rfl (fun ls hl => ?_)
                  refine lv_iload S.x S.b d_Mpg_checkCall_257 (lv_at hl 0 rfl) ?_
                  refine lv_if_eq (tgt := 266) S.x S.b d_Mpg_checkCall_259 (by decide) (fun c145 => ?_) (fun c145 => ?_)
                  · exact absurd c145 (by decide)
                  ·
                    refine lv_iconst (v := 4) S.x S.b d_Mpg_checkCall_262 (by decide) ?_
                    refine lv_goto (tgt := 267) S.x S.b d_Mpg_checkCall_263 (by decide) ?_
                    first | exact px_iret (v := 4) S hr rfl hlk hAe hw (Nat.le_of_ble_eq_true rfl) (Nat.le_of_ble_eq_true rfl) (⟨ma_94, cf_94, rfl, (show KpE cf cf_94 from hke), (show WrV cf_94 (tf 6).toInt from hwr), (show (cf_94 33).toInt = (cf 33).toInt from k94_2), (show (cf_94 38).toInt = (cf 38).toInt from k94_3), (show (cf_94 48).toInt = (cf 48).toInt from k94_4), (show (cf_94 46).toInt = (cf 46).toInt from k94_5), (show (cf_94 47).toInt = (cf 47).toInt from k94_6), (show (cf_94 57).toInt = (cf 57).toInt from k94_7), (show Ann na ma0 ma_94 from han), (show FrC lo hi ma ma_94 from hfc), (show 0 ≤ (4 : Int) from oz_8aa1b7a920), (show (4 : Int) ≤ 4 from oz_00eea3d1ab), (show ZTy cf_94 (Gk ta ca na ma0 ns ys nf) na ma_94 lo hi p0 (4 : Int) from (call_ty hrg (by omega) (hkb (by omega)) (cen_mk (by omega)) rfl (ZTy_le hzta (by omega)) (by omega) (by omega) (by rw [show x94_6.toInt = (0 : Int) by omega, ← htv_160]; omega) (Or.inl (by omega)) (by omega))), (show R_mp_checkCall (RL_mp_check d) tf ta na ca p0 ma cf ma_94 cf_94 (4 : Int32) from (k94_27 _ _ _ 1 (Or.inr (Or.inl ⟨rfl, x94_2, x94_3, x94_4, x94_5, x94_6, x94_7, rfl, rfl, rfl, rfl, rfl, Or.inl ⟨nc1, Or.inl ⟨nc3, Or.inr ⟨nc5, v123, e125, Or.inl ⟨nc126, Or.inr ⟨nc128, v139, e141, Or.inr ⟨nc142, rfl, rfl, rfl⟩⟩⟩⟩⟩⟩⟩))))⟩) d_Mpg_checkCall_267 | (exact px_iret (v := 4) S hr rfl hlk hAe hw (Nat.le_of_ble_eq_true rfl) (Nat.le_of_ble_eq_true rfl) (⟨ma_94, cf_94, rfl, (show KpE cf cf_94 from hke), (show WrV cf_94 (tf 6).toInt from hwr), (show (cf_94 33).toInt = (cf 33).toInt from by first | exact k94_2 | omega), (show (cf_94 38).toInt = (cf 38).toInt from by first | exact k94_3 | omega), (show (cf_94 48).toInt = (cf 48).toInt from by first | exact k94_4 | omega), (show (cf_94 46).toInt = (cf 46).toInt from by first | exact k94_5 | omega), (show (cf_94 47).toInt = (cf 47).toInt from by first | exact k94_6 | omega), (show (cf_94 57).toInt = (cf 57).toInt from by first | exact k94_7 | omega), (show Ann na ma0 ma_94 from han), (show FrC lo hi ma ma_94 from hfc), (show 0 ≤ (4 : Int) from by first | exact oz_8aa1b7a920 | omega), (show (4 : Int) ≤ 4 from by first | exact oz_00eea3d1ab | omega), (show ZTy cf_94 (Gk ta ca na ma0 ns ys nf) na ma_94 lo hi p0 (4 : Int) from (call_ty hrg (by omega) (hkb (by omega)) (cen_mk (by omega)) rfl (ZTy_le hzta (by omega)) (by omega) (by omega) (by rw [show x94_6.toInt = (0 : Int) by omega, ← htv_160]; omega) (Or.inl (by omega)) (by omega))), (show R_mp_checkCall (RL_mp_check d) tf ta na ca p0 ma cf ma_94 cf_94 (4 : Int32) from (k94_27 _ _ _ 1 (Or.inr (Or.inl ⟨rfl, x94_2, x94_3, x94_4, x94_5, x94_6, x94_7, rfl, rfl, rfl, rfl, rfl, Or.inl ⟨nc1, Or.inl ⟨nc3, Or.inr ⟨nc5, v123, e125, Or.inl ⟨nc126, Or.inr ⟨nc128, v139, e141, Or.inr ⟨nc142, rfl, rfl, rfl⟩⟩⟩⟩⟩⟩⟩))))⟩) d_Mpg_checkCall_267)
            · have nc126 : ¬ v123.toInt = (32 : Int) := mt (i_eq (x := v123) (y := 32)).mpr c126
              refine lv_goto (tgt := 201) S.x S.b d_Mpg_checkCall_168 (by decide) ?_
              refine lv_aload_n S.x S.b d_Mpg_checkCall_201 rfl (lv_at hl 0 rfl) ?_
              refine lv_iconst (v := 4) S.x S.b d_Mpg_checkCall_202 (by decide) ?_
              refine lv_iload_n S.x S.b d_Mpg_checkCall_203 rfl (lv_at hl 2 rfl) ?_
              first | refine px_callv (pr := []) (px_runV (As := [.int 4, .int x94_2]) (rest := []) S (c_mp_bad l D cs h r g tf ta pf na ma_94 wa ca ef ea xf xa cf_94 4 x94_2  (show 1 ≤ (4 : Int) from oz_3c03087ebf) (show 0 ≤ x94_2.toInt from k94_20) (show x94_2.toInt < (tf 6).toInt from k94_21) htk hwr _) hT (pr := []) (pcs := [wdP cs h r g tf ta pf na ma_94 wa cf_94 ca ef ea xf xa]) hw px_X.tt (px_recv hT hw 0 0 rfl rfl rfl) m12_173 m12_170 m12_172 ms_11_12 m1_21 q_Mpg_bad ⟨show 0 + 1 ≤ (4 * d + 14) from (oz_90c46cace3), show 8 + (3 + 11) + 0 ≤ (200 * d + 540) from (oz_2ba881113e)⟩ hl.1 rfl (Nat.le_of_ble_eq_true rfl) d_Mpg_checkCall_204 ⟨Nat.le_of_ble_eq_true rfl, Nat.le_of_ble_eq_true rfl⟩) hw hA (fun p148 H locs hp148 hw => ?_) | (refine px_callv (pr := []) (px_runV (As := [.int 4, .int x94_2]) (rest := []) S (c_mp_bad l D cs h r g tf ta pf na ma_94 wa ca ef ea xf xa cf_94 4 x94_2  (show 1 ≤ (4 : Int) from by first | exact oz_3c03087ebf | omega) (show 0 ≤ x94_2.toInt from by first | exact k94_20 | omega) (show x94_2.toInt < (tf 6).toInt from by first | exact k94_21 | omega) htk hwr _) hT (pr := []) (pcs := [wdP cs h r g tf ta pf na ma_94 wa cf_94 ca ef ea xf xa]) hw px_X.tt (px_recv hT hw 0 0 rfl rfl rfl) m12_173 m12_170 m12_172 ms_11_12 m1_21 q_Mpg_bad ⟨show 0 + 1 ≤ (4 * d + 14) from (by first | exact oz_90c46cace3 | omega), show 8 + (3 + 11) + 0 ≤ (200 * d + 540) from (by first | exact oz_2ba881113e | omega)⟩ hl.1 rfl (Nat.le_of_ble_eq_true rfl) d_Mpg_checkCall_204 ⟨Nat.le_of_ble_eq_true rfl, Nat.le_of_ble_eq_true rfl⟩) hw hA (fun p148 H locs hp148 hw => ?_))
              obtain ⟨cf147, rfl, e150, e151, e152, e153, e154, e155, e156, e157, e158, e159, e160, e161, e162, e163, e164, e165, e166, e167, e168, e169⟩ := hp148
              have e150 : KpE cf_94 cf147 := e150
              have hke := (hke).tr e150
              have hkz_e150 := e150.2
              have hzta := Zr.kp hzta e150 id
              have e151 : WrV cf147 (tf 6).toInt := e151
              have hwr := e151
              have hw0_e151 := hwr.1
              have e152 : 1 ≤ (cf147 30).toInt := e152
              have e153 : (cf147 33).toInt = (cf_94 33).toInt := e153
              have e154 : (cf147 38).toInt = (cf_94 38).toInt := e154
              have e155 : (cf147 48).toInt = (cf_94 48).toInt := e155
              have e156 : (cf147 46).toInt = (cf_94 46).toInt := e156
              have e157 : (cf147 47).toInt = (cf_94 47).toInt := e157
              have e158 : (cf147 57).toInt = (cf_94 57).toInt := e158
              have e159 : (cf147 37).toInt = (cf_94 37).toInt := e159
              have e160 : (cf147 42).toInt = (cf_94 42).toInt := e160
              have e161 : (cf147 43).toInt = (cf_94 43).toInt := e161
              have e162 : (cf147 44).toInt = (cf_94 44).toInt := e162
              have e163 : (cf147 45).toInt = (cf_94 45).toInt := e163
              have e164 : (cf147 54).toInt = (cf_94 54).toInt := e164
              have e165 : (cf147 55).toInt = (cf_94 55).toInt := e165
              have e166 : (cf147 58).toInt = (cf_94 58).toInt := e166
              have e167 : (cf147 59).toInt = (cf_94 59).toInt := e167
              have e168 : (cf147 41).toInt = (cf_94 41).toInt := e168
              have e169 : R_mp_bad (4 : Int32) x94_2 cf_94 cf147 := e169
              refine lv_iload_n S.x S.b d_Mpg_checkCall_207 rfl (lv_at hl 3 rfl) ?_
              refine lv_if_lt (tgt := 234) S.x S.b d_Mpg_checkCall_208 (by decide) (fun c170 => ?_) (fun c170 => ?_)
              · have nc170 : x94_3.toInt < (0 : Int) := (i_lt (x := x94_3) (y := 0)).mp c170
                refine lv_aload_n S.x S.b d_Mpg_checkCall_234 rfl (lv_at hl 0 rfl) ?_
                refine gP_22 S hT hw 0 rfl m10_9 d_Mpg_checkCall_235 ?_
                refine lv_aload_n S.x S.b d_Mpg_checkCall_238 rfl (lv_at hl 0 rfl) ?_
                refine gP_39 S hT hw 0 rfl m10_28 d_Mpg_checkCall_239 ?_
                refine lv_iload S.x S.b d_Mpg_checkCall_242 (lv_at hl 4 rfl) ?_
                refine px_iald S hT hw 0 26 (n := 260) (f := (ca 39)) rfl gp_39 (x := x94_4) (vp_in_iff.mpr (by constructor <;> omega)) d_Mpg_checkCall_244 ?_
                refine lv_topi (fun z172 ez172 => ?_)
                have lz172 := Int32.le_toInt z172
                have uz172 := Int32.toInt_lt z172
                have rz172 := FnT.at hft (x := x94_4) (by omega) (by omega) ez172
                refine px_iald S hT hw 0 18 (n := 2100) (f := (ma_94 22)) rfl gp_22 (x := z172) (vp_in_iff.mpr (by constructor <;> omega)) d_Mpg_checkCall_245 ?_
                refine lv_topi (fun z173 ez173 => ?_)
                have lz173 := Int32.le_toInt z173
                have uz173 := Int32.toInt_lt z173
                refine lv_iconst (v := 2) S.x S.b d_Mpg_checkCall_246 (by decide) ?_
                refine lv_icmp_ne (tgt := 254) S.x S.b d_Mpg_checkCall_247 (by decide) (fun c174 => ?_) (fun c174 => ?_)
                · have nc174 : ¬ z173.toInt = (2 : Int) := mt (i_eq (x := z173) (y := 2)).mpr c174
                  refine lv_iconst (v := 0) S.x S.b d_Mpg_checkCall_254 (by decide) ?_
                  refine lv_istore (lv' := [(7, .int 0), (0, .ref h), (1, .int p0), (2, .int x94_2), (3, .int x94_3), (4, .int x94_4), (5, .int x94_5), (6, .int x94_6)]) S.x S.b d_Mpg_checkCall_255 hl (by decide) rfl (fun ls hl => ?_)
                  refine lv_iload S.x S.b d_Mpg_checkCall_257 (lv_at hl 0 rfl) ?_
                  refine lv_if_eq (tgt := 266) S.x S.b d_Mpg_checkCall_259 (by decide) (fun c176 => ?_) (fun c176 => ?_)
                  ·
                    refine lv_iconst (v := 1) S.x S.b d_Mpg_checkCall_266 (by decide) ?_
                    first | exact px_iret (v := 1) S hr rfl hlk hAe hw (Nat.le_of_ble_eq_true rfl) (Nat.le_of_ble_eq_true rfl) (⟨ma_94, cf147, rfl, (show KpE cf cf147 from hke), (show WrV cf147 (tf 6).toInt from hwr), (show (cf147 33).toInt = (cf 33).toInt from (oz_1687f4cc65 k94_2 e153)), (show (cf147 38).toInt = (cf 38).toInt from (oz_1687f4cc65 k94_3 e154)), (show (cf147 48).toInt = (cf 48).toInt from (oz_1687f4cc65 k94_4 e155)), (show (cf147 46).toInt = (cf 46).toInt from (oz_1687f4cc65 k94_5 e156)), (show (cf147 47).toInt = (cf 47).toInt from (oz_1687f4cc65 k94_6 e157)), (show (cf147 57).toInt = (cf 57).toInt from (oz_1687f4cc65 k94_7 e158)), (show Ann na ma0 ma_94 from han), (show FrC lo hi ma ma_94 from hfc), (show 0 ≤ (1 : Int) from oz_19c3a41681), (show (1 : Int) ≤ 4 from oz_39f46dc397), (show ZTy cf147 (Gk ta ca na ma0 ns ys nf) na ma_94 lo hi p0 (1 : Int) from (zr_no (by omega))), (show R_mp_checkCall (RL_mp_check d) tf ta na ca p0 ma cf ma_94 cf147 (1 : Int32) from (k94_27 _ _ _ 1 (Or.inr (Or.inl ⟨rfl, x94_2, x94_3, x94_4, x94_5, x94_6, x94_7, rfl, rfl, rfl, rfl, rfl, Or.inl ⟨nc1, Or.inl ⟨nc3, Or.inr ⟨nc5, v123, e125, Or.inr ⟨nc126, cf147, e169, Or.inl ⟨nc170, z172, ez172, z173, ez173, Or.inl ⟨nc174, rfl, rfl, rfl⟩⟩⟩⟩⟩⟩⟩))))⟩) d_Mpg_checkCall_267 | (exact px_iret (v := 1) S hr rfl hlk hAe hw (Nat.le_of_ble_eq_true rfl) (Nat.le_of_ble_eq_true rfl) (⟨ma_94, cf147, rfl, (show KpE cf cf147 from hke), (show WrV cf147 (tf 6).toInt from hwr), (show (cf147 33).toInt = (cf 33).toInt from by first | exact oz_1687f4cc65 k94_2 e153 | omega), (show (cf147 38).toInt = (cf 38).toInt from by first | exact oz_1687f4cc65 k94_3 e154 | omega), (show (cf147 48).toInt = (cf 48).toInt from by first | exact oz_1687f4cc65 k94_4 e155 | omega), (show (cf147 46).toInt = (cf 46).toInt from by first | exact oz_1687f4cc65 k94_5 e156 | omega), (show (cf147 47).toInt = (cf 47).toInt from by first | exact oz_1687f4cc65 k94_6 e157 | omega), (show (cf147 57).toInt = (cf 57).toInt from by first | exact oz_1687f4cc65 k94_7 e158 | omega), (show Ann na ma0 ma_94 from han), (show FrC lo hi ma ma_94 from hfc), (show 0 ≤ (1 : Int) from by first | exact oz_19c3a41681 | omega), (show (1 : Int) ≤ 4 from by first | exact oz_39f46dc397 | omega), (show ZTy cf147 (Gk ta ca na ma0 ns ys nf) na ma_94 lo hi p0 (1 : Int) from (zr_no (by omega))), (show R_mp_checkCall (RL_mp_check d) tf ta na ca p0 ma cf ma_94 cf147 (1 : Int32) from (k94_27 _ _ _ 1 (Or.inr (Or.inl ⟨rfl, x94_2, x94_3, x94_4, x94_5, x94_6, x94_7, rfl, rfl, rfl, rfl, rfl, Or.inl ⟨nc1, Or.inl ⟨nc3, Or.inr ⟨nc5, v123, e125, Or.inr ⟨nc126, cf147, e169, Or.inl ⟨nc170, z172, ez172, z173, ez173, Or.inl ⟨nc174, rfl, rfl, rfl⟩⟩⟩⟩⟩⟩⟩))))⟩) d_Mpg_checkCall_267)
                  · exact absurd c176 (by decide)
                · have nc174 : z173.toInt = (2 : Int) := (i_eq (x := z173) (y := 2)).mp c174
                  refine lv_iconst (v := 1) S.x S.b d_Mpg_checkCall_250 (by decide) ?_
                  refine lv_goto (tgt := 255) S.x S.b d_Mpg_checkCall_251 (by decide) ?_
                  refine lv_istore (lv' := [(7, .int 1), (0, .ref h), (1, .int p0), (2, .int x94_2), (3, .int x94_3), (4, .int x94_4), (5, .int x94_5), (6, .int x94_6)]) S.x S.b d_Mpg_checkCall_255 hl (by decide) rfl (fun ls hl => ?_)
                  refine lv_iload S.x S.b d_Mpg_checkCall_257 (lv_at hl 0 rfl) ?_
                  refine lv_if_eq (tgt := 266) S.x S.b d_Mpg_checkCall_259 (by decide) (fun c177 => ?_) (fun c177 => ?_)
                  · exact absurd c177 (by decide)
                  ·
                    refine lv_iconst (v := 4) S.x S.b d_Mpg_checkCall_262 (by decide) ?_
                    refine lv_goto (tgt := 267) S.x S.b d_Mpg_checkCall_263 (by decide) ?_
                    first | exact px_iret (v := 4) S hr rfl hlk hAe hw (Nat.le_of_ble_eq_true rfl) (Nat.le_of_ble_eq_true rfl) (⟨ma_94, cf147, rfl, (show KpE cf cf147 from hke), (show WrV cf147 (tf 6).toInt from hwr), (show (cf147 33).toInt = (cf 33).toInt from (oz_1687f4cc65 k94_2 e153)), (show (cf147 38).toInt = (cf 38).toInt from (oz_1687f4cc65 k94_3 e154)), (show (cf147 48).toInt = (cf 48).toInt from (oz_1687f4cc65 k94_4 e155)), (show (cf147 46).toInt = (cf 46).toInt from (oz_1687f4cc65 k94_5 e156)), (show (cf147 47).toInt = (cf 47).toInt from (oz_1687f4cc65 k94_6 e157)), (show (cf147 57).toInt = (cf 57).toInt from (oz_1687f4cc65 k94_7 e158)), (show Ann na ma0 ma_94 from han), (show FrC lo hi ma ma_94 from hfc), (show 0 ≤ (4 : Int) from oz_8aa1b7a920), (show (4 : Int) ≤ 4 from oz_00eea3d1ab), (show ZTy cf147 (Gk ta ca na ma0 ns ys nf) na ma_94 lo hi p0 (4 : Int) from (zr_no (by omega))), (show R_mp_checkCall (RL_mp_check d) tf ta na ca p0 ma cf ma_94 cf147 (4 : Int32) from (k94_27 _ _ _ 1 (Or.inr (Or.inl ⟨rfl, x94_2, x94_3, x94_4, x94_5, x94_6, x94_7, rfl, rfl, rfl, rfl, rfl, Or.inl ⟨nc1, Or.inl ⟨nc3, Or.inr ⟨nc5, v123, e125, Or.inr ⟨nc126, cf147, e169, Or.inl ⟨nc170, z172, ez172, z173, ez173, Or.inr ⟨nc174, rfl, rfl, rfl⟩⟩⟩⟩⟩⟩⟩))))⟩) d_Mpg_checkCall_267 | (exact px_iret (v := 4) S hr rfl hlk hAe hw (Nat.le_of_ble_eq_true rfl) (Nat.le_of_ble_eq_true rfl) (⟨ma_94, cf147, rfl, (show KpE cf cf147 from hke), (show WrV cf147 (tf 6).toInt from hwr), (show (cf147 33).toInt = (cf 33).toInt from by first | exact oz_1687f4cc65 k94_2 e153 | omega), (show (cf147 38).toInt = (cf 38).toInt from by first | exact oz_1687f4cc65 k94_3 e154 | omega), (show (cf147 48).toInt = (cf 48).toInt from by first | exact oz_1687f4cc65 k94_4 e155 | omega), (show (cf147 46).toInt = (cf 46).toInt from by first | exact oz_1687f4cc65 k94_5 e156 | omega), (show (cf147 47).toInt = (cf 47).toInt from by first | exact oz_1687f4cc65 k94_6 e157 | omega), (show (cf147 57).toInt = (cf 57).toInt from by first | exact oz_1687f4cc65 k94_7 e158 | omega), (show Ann na ma0 ma_94 from han), (show FrC lo hi ma ma_94 from hfc), (show 0 ≤ (4 : Int) from by first | exact oz_8aa1b7a920 | omega), (show (4 : Int) ≤ 4 from by first | exact oz_00eea3d1ab | omega), (show ZTy cf147 (Gk ta ca na ma0 ns ys nf) na ma_94 lo hi p0 (4 : Int) from (zr_no (by omega))), (show R_mp_checkCall (RL_mp_check d) tf ta na ca p0 ma cf ma_94 cf147 (4 : Int32) from (k94_27 _ _ _ 1 (Or.inr (Or.inl ⟨rfl, x94_2, x94_3, x94_4, x94_5, x94_6, x94_7, rfl, rfl, rfl, rfl, rfl, Or.inl ⟨nc1, Or.inl ⟨nc3, Or.inr ⟨nc5, v123, e125, Or.inr ⟨nc126, cf147, e169, Or.inl ⟨nc170, z172, ez172, z173, ez173, Or.inr ⟨nc174, rfl, rfl, rfl⟩⟩⟩⟩⟩⟩⟩))))⟩) d_Mpg_checkCall_267)
              · have nc170 : ¬ x94_3.toInt < (0 : Int) := mt (i_lt (x := x94_3) (y := 0)).mpr c170
                refine lv_aload_n S.x S.b d_Mpg_checkCall_211 rfl (lv_at hl 0 rfl) ?_
                refine gP_3 S hT hw 0 rfl m9_227 d_Mpg_checkCall_212 ?_
                refine lv_iload_n S.x S.b d_Mpg_checkCall_215 rfl (lv_at hl 3 rfl) ?_
                first | have hclsk178 := cl_nat (x := x94_3) ((oz_18a5c06a28 nc170)) | (have hclsk178 := cl_nat (x := x94_3) (by first | exact oz_18a5c06a28 nc170 | omega))
                obtain ⟨sk178, hgsk178, st179, hSsk178⟩ := hP.2.2.2.2.2.1 x94_3.toNatClampNeg (by omega)
                have hmsk178 := len_3 (i := x94_3.toNatClampNeg) (by omega)
                refine px_aaldS S hT hw 0 4 11 (n := 15) (f := (g 3)) rfl rfl rfl (x := x94_3) (vp_in_iff.mpr (by first | exact oz_891c5e5184 nc170 k94_11 | (constructor <;> omega))) hgsk178 d_Mpg_checkCall_216 ?_
                refine lv_iconst (v := 0) S.x S.b d_Mpg_checkCall_217 (by decide) ?_
                first | refine px_calli (pr := [wdP cs h r g tf ta pf na ma_94 wa cf147 ca ef ea xf xa]) (px_runV (As := [.int 0]) (rest := []) S (c_String_charAt l D cs sk178 st179 (tlen x94_3.toNatClampNeg) (tby x94_3.toNatClampNeg) 0  (show (tlen x94_3.toNatClampNeg) ≤ 1000000 from by omega) (show 0 ≤ (0 : Int) from oz_5a341f00aa) (show (0 : Int) < ((tlen x94_3.toNatClampNeg) : Int) from by omega) _) hT (pr := [wdP cs h r g tf ta pf na ma_94 wa cf147 ca ef ea xf xa]) (pcs := []) hw (oX_call (P := (fun A U H => (oF A U H) ∧ (oZ A U H) ∧ (oS A sk178 st179 (tlen x94_3.toNatClampNeg) (tby x94_3.toNatClampNeg) U H))) (pr := [wdP cs h r g tf ta pf na ma_94 wa cf147 ca ef ea xf xa]) (oG_and oG_F (oG_and oG_Z oG_S)) hw hA ⟨hF0, hZ, hSsk178⟩) (oS_recv hw hSsk178) m1_68 m11_162 m1_66 m1_67 m1_3 q_String_charAt ⟨show 3 + 1 ≤ (4 * d + 14) from (oz_87f60782ea), show 8 + (2 + 11) + 90 ≤ (200 * d + 540) from (oz_6a6d2d7d66)⟩ hl.1 rfl (Nat.le_of_ble_eq_true rfl) d_Mpg_checkCall_218 ⟨Nat.le_of_ble_eq_true rfl, Nat.le_of_ble_eq_true rfl⟩) hw hA (fun v181 p180 H locs hp180 hw => ?_) | (refine px_calli (pr := [wdP cs h r g tf ta pf na ma_94 wa cf147 ca ef ea xf xa]) (px_runV (As := [.int 0]) (rest := []) S (c_String_charAt l D cs sk178 st179 (tlen x94_3.toNatClampNeg) (tby x94_3.toNatClampNeg) 0  (show (tlen x94_3.toNatClampNeg) ≤ 1000000 from by omega) (show 0 ≤ (0 : Int) from by first | exact oz_5a341f00aa | omega) (show (0 : Int) < ((tlen x94_3.toNatClampNeg) : Int) from by omega) _) hT (pr := [wdP cs h r g tf ta pf na ma_94 wa cf147 ca ef ea xf xa]) (pcs := []) hw (oX_call (P := (fun A U H => (oF A U H) ∧ (oZ A U H) ∧ (oS A sk178 st179 (tlen x94_3.toNatClampNeg) (tby x94_3.toNatClampNeg) U H))) (pr := [wdP cs h r g tf ta pf na ma_94 wa cf147 ca ef ea xf xa]) (oG_and oG_F (oG_and oG_Z oG_S)) hw hA ⟨hF0, hZ, hSsk178⟩) (oS_recv hw hSsk178) m1_68 m11_162 m1_66 m1_67 m1_3 q_String_charAt ⟨show 3 + 1 ≤ (4 * d + 14) from (by first | exact oz_87f60782ea | omega), show 8 + (2 + 11) + 90 ≤ (200 * d + 540) from (by first | exact oz_6a6d2d7d66 | omega)⟩ hl.1 rfl (Nat.le_of_ble_eq_true rfl) d_Mpg_checkCall_218 ⟨Nat.le_of_ble_eq_true rfl, Nat.le_of_ble_eq_true rfl⟩) hw hA (fun v181 p180 H locs hp180 hw => ?_))
                obtain ⟨rfl, e182, e183⟩ := hp180
                have e182 : narrow .char (.int v181) = .int v181 := e182
                have e183 : R_String_charAt (tby x94_3.toNatClampNeg) (0 : Int32) v181 := e183
                have lv181 := Int32.le_toInt v181
                have uv181 := Int32.toInt_lt v181
                refine lv_bipush (v := 118) S.x S.b d_Mpg_checkCall_221 (by decide) ?_
                refine lv_icmp_ne (tgt := 230) S.x S.b d_Mpg_checkCall_223 (by decide) (fun c184 => ?_) (fun c184 => ?_)
                · have nc184 : ¬ v181.toInt = (118 : Int) := mt (i_eq (x := v181) (y := 118)).mpr c184
                  refine lv_iconst (v := 0) S.x S.b d_Mpg_checkCall_230 (by decide) ?_
                  refine lv_goto (tgt := 255) S.x S.b d_Mpg_checkCall_231 (by decide) ?_
                  refine lv_istore (lv' := [(7, .int 0), (0, .ref h), (1, .int p0), (2, .int x94_2), (3, .int x94_3), (4, .int x94_4), (5, .int x94_5), (6, .int x94_6)]) S.x S.b d_Mpg_checkCall_255 hl (by decide) rfl (fun ls hl => ?_)
                  refine lv_iload S.x S.b d_Mpg_checkCall_257 (lv_at hl 0 rfl) ?_
                  refine lv_if_eq (tgt := 266) S.x S.b d_Mpg_checkCall_259 (by decide) (fun c186 => ?_) (fun c186 => ?_)
                  ·
                    refine lv_iconst (v := 1) S.x S.b d_Mpg_checkCall_266 (by decide) ?_
                    first | exact px_iret (v := 1) S hr rfl hlk hAe hw (Nat.le_of_ble_eq_true rfl) (Nat.le_of_ble_eq_true rfl) (⟨ma_94, cf147, rfl, (show KpE cf cf147 from hke), (show WrV cf147 (tf 6).toInt from hwr), (show (cf147 33).toInt = (cf 33).toInt from (oz_1687f4cc65 k94_2 e153)), (show (cf147 38).toInt = (cf 38).toInt from (oz_1687f4cc65 k94_3 e154)), (show (cf147 48).toInt = (cf 48).toInt from (oz_1687f4cc65 k94_4 e155)), (show (cf147 46).toInt = (cf 46).toInt from (oz_1687f4cc65 k94_5 e156)), (show (cf147 47).toInt = (cf 47).toInt from (oz_1687f4cc65 k94_6 e157)), (show (cf147 57).toInt = (cf 57).toInt from (oz_1687f4cc65 k94_7 e158)), (show Ann na ma0 ma_94 from han), (show FrC lo hi ma ma_94 from hfc), (show 0 ≤ (1 : Int) from oz_19c3a41681), (show (1 : Int) ≤ 4 from oz_39f46dc397), (show ZTy cf147 (Gk ta ca na ma0 ns ys nf) na ma_94 lo hi p0 (1 : Int) from (zr_no (by omega))), (show R_mp_checkCall (RL_mp_check d) tf ta na ca p0 ma cf ma_94 cf147 (1 : Int32) from (k94_27 _ _ _ 1 (Or.inr (Or.inl ⟨rfl, x94_2, x94_3, x94_4, x94_5, x94_6, x94_7, rfl, rfl, rfl, rfl, rfl, Or.inl ⟨nc1, Or.inl ⟨nc3, Or.inr ⟨nc5, v123, e125, Or.inr ⟨nc126, cf147, e169, Or.inr ⟨nc170, v181, e183, Or.inl ⟨nc184, rfl, rfl, rfl⟩⟩⟩⟩⟩⟩⟩))))⟩) d_Mpg_checkCall_267 | (exact px_iret (v := 1) S hr rfl hlk hAe hw (Nat.le_of_ble_eq_true rfl) (Nat.le_of_ble_eq_true rfl) (⟨ma_94, cf147, rfl, (show KpE cf cf147 from hke), (show WrV cf147 (tf 6).toInt from hwr), (show (cf147 33).toInt = (cf 33).toInt from by first | exact oz_1687f4cc65 k94_2 e153 | omega), (show (cf147 38).toInt = (cf 38).toInt from by first | exact oz_1687f4cc65 k94_3 e154 | omega), (show (cf147 48).toInt = (cf 48).toInt from by first | exact oz_1687f4cc65 k94_4 e155 | omega), (show (cf147 46).toInt = (cf 46).toInt from by first | exact oz_1687f4cc65 k94_5 e156 | omega), (show (cf147 47).toInt = (cf 47).toInt from by first | exact oz_1687f4cc65 k94_6 e157 | omega), (show (cf147 57).toInt = (cf 57).toInt from by first | exact oz_1687f4cc65 k94_7 e158 | omega), (show Ann na ma0 ma_94 from han), (show FrC lo hi ma ma_94 from hfc), (show 0 ≤ (1 : Int) from by first | exact oz_19c3a41681 | omega), (show (1 : Int) ≤ 4 from by first | exact oz_39f46dc397 | omega), (show ZTy cf147 (Gk ta ca na ma0 ns ys nf) na ma_94 lo hi p0 (1 : Int) from (zr_no (by omega))), (show R_mp_checkCall (RL_mp_check d) tf ta na ca p0 ma cf ma_94 cf147 (1 : Int32) from (k94_27 _ _ _ 1 (Or.inr (Or.inl ⟨rfl, x94_2, x94_3, x94_4, x94_5, x94_6, x94_7, rfl, rfl, rfl, rfl, rfl, Or.inl ⟨nc1, Or.inl ⟨nc3, Or.inr ⟨nc5, v123, e125, Or.inr ⟨nc126, cf147, e169, Or.inr ⟨nc170, v181, e183, Or.inl ⟨nc184, rfl, rfl, rfl⟩⟩⟩⟩⟩⟩⟩))))⟩) d_Mpg_checkCall_267)
                  · exact absurd c186 (by decide)
                · have nc184 : v181.toInt = (118 : Int) := (i_eq (x := v181) (y := 118)).mp c184
                  refine lv_iconst (v := 1) S.x S.b d_Mpg_checkCall_226 (by decide) ?_
                  refine lv_goto (tgt := 255) S.x S.b d_Mpg_checkCall_227 (by decide) ?_
                  refine lv_istore (lv' := [(7, .int 1), (0, .ref h), (1, .int p0), (2, .int x94_2), (3, .int x94_3), (4, .int x94_4), (5, .int x94_5), (6, .int x94_6)]) S.x S.b d_Mpg_checkCall_255 hl (by decide) rfl (fun ls hl => ?_)
                  refine lv_iload S.x S.b d_Mpg_checkCall_257 (lv_at hl 0 rfl) ?_
                  refine lv_if_eq (tgt := 266) S.x S.b d_Mpg_checkCall_259 (by decide) (fun c187 => ?_) (fun c187 => ?_)
                  · exact absurd c187 (by decide)
                  ·
                    refine lv_iconst (v := 4) S.x S.b d_Mpg_checkCall_262 (by decide) ?_
                    refine lv_goto (tgt := 267) S.x S.b d_Mpg_checkCall_263 (by decide) ?_
                    first | exact px_iret (v := 4) S hr rfl hlk hAe hw (Nat.le_of_ble_eq_true rfl) (Nat.le_of_ble_eq_true rfl) (⟨ma_94, cf147, rfl, (show KpE cf cf147 from hke), (show WrV cf147 (tf 6).toInt from hwr), (show (cf147 33).toInt = (cf 33).toInt from (oz_1687f4cc65 k94_2 e153)), (show (cf147 38).toInt = (cf 38).toInt from (oz_1687f4cc65 k94_3 e154)), (show (cf147 48).toInt = (cf 48).toInt from (oz_1687f4cc65 k94_4 e155)), (show (cf147 46).toInt = (cf 46).toInt from (oz_1687f4cc65 k94_5 e156)), (show (cf147 47).toInt = (cf 47).toInt from (oz_1687f4cc65 k94_6 e157)), (show (cf147 57).toInt = (cf 57).toInt from (oz_1687f4cc65 k94_7 e158)), (show Ann na ma0 ma_94 from han), (show FrC lo hi ma ma_94 from hfc), (show 0 ≤ (4 : Int) from oz_8aa1b7a920), (show (4 : Int) ≤ 4 from oz_00eea3d1ab), (show ZTy cf147 (Gk ta ca na ma0 ns ys nf) na ma_94 lo hi p0 (4 : Int) from (zr_no (by omega))), (show R_mp_checkCall (RL_mp_check d) tf ta na ca p0 ma cf ma_94 cf147 (4 : Int32) from (k94_27 _ _ _ 1 (Or.inr (Or.inl ⟨rfl, x94_2, x94_3, x94_4, x94_5, x94_6, x94_7, rfl, rfl, rfl, rfl, rfl, Or.inl ⟨nc1, Or.inl ⟨nc3, Or.inr ⟨nc5, v123, e125, Or.inr ⟨nc126, cf147, e169, Or.inr ⟨nc170, v181, e183, Or.inr ⟨nc184, rfl, rfl, rfl⟩⟩⟩⟩⟩⟩⟩))))⟩) d_Mpg_checkCall_267 | (exact px_iret (v := 4) S hr rfl hlk hAe hw (Nat.le_of_ble_eq_true rfl) (Nat.le_of_ble_eq_true rfl) (⟨ma_94, cf147, rfl, (show KpE cf cf147 from hke), (show WrV cf147 (tf 6).toInt from hwr), (show (cf147 33).toInt = (cf 33).toInt from by first | exact oz_1687f4cc65 k94_2 e153 | omega), (show (cf147 38).toInt = (cf 38).toInt from by first | exact oz_1687f4cc65 k94_3 e154 | omega), (show (cf147 48).toInt = (cf 48).toInt from by first | exact oz_1687f4cc65 k94_4 e155 | omega), (show (cf147 46).toInt = (cf 46).toInt from by first | exact oz_1687f4cc65 k94_5 e156 | omega), (show (cf147 47).toInt = (cf 47).toInt from by first | exact oz_1687f4cc65 k94_6 e157 | omega), (show (cf147 57).toInt = (cf 57).toInt from by first | exact oz_1687f4cc65 k94_7 e158 | omega), (show Ann na ma0 ma_94 from han), (show FrC lo hi ma ma_94 from hfc), (show 0 ≤ (4 : Int) from by first | exact oz_8aa1b7a920 | omega), (show (4 : Int) ≤ 4 from by first | exact oz_00eea3d1ab | omega), (show ZTy cf147 (Gk ta ca na ma0 ns ys nf) na ma_94 lo hi p0 (4 : Int) from (zr_no (by omega))), (show R_mp_checkCall (RL_mp_check d) tf ta na ca p0 ma cf ma_94 cf147 (4 : Int32) from (k94_27 _ _ _ 1 (Or.inr (Or.inl ⟨rfl, x94_2, x94_3, x94_4, x94_5, x94_6, x94_7, rfl, rfl, rfl, rfl, rfl, Or.inl ⟨nc1, Or.inl ⟨nc3, Or.inr ⟨nc5, v123, e125, Or.inr ⟨nc126, cf147, e169, Or.inr ⟨nc170, v181, e183, Or.inr ⟨nc184, rfl, rfl, rfl⟩⟩⟩⟩⟩⟩⟩))))⟩) d_Mpg_checkCall_267)
        · have nc3 : x94_5.toInt = (0 : Int) := (i_eq (x := x94_5) (y := 0)).mp c3
          refine lv_iconst (v := 0) S.x S.b d_Mpg_checkCall_148 (by decide) ?_
          first | exact px_iret (v := 0) S hr rfl hlk hAe hw (Nat.le_of_ble_eq_true rfl) (Nat.le_of_ble_eq_true rfl) (⟨ma_94, cf_94, rfl, (show KpE cf cf_94 from hke), (show WrV cf_94 (tf 6).toInt from hwr), (show (cf_94 33).toInt = (cf 33).toInt from k94_2), (show (cf_94 38).toInt = (cf 38).toInt from k94_3), (show (cf_94 48).toInt = (cf 48).toInt from k94_4), (show (cf_94 46).toInt = (cf 46).toInt from k94_5), (show (cf_94 47).toInt = (cf 47).toInt from k94_6), (show (cf_94 57).toInt = (cf 57).toInt from k94_7), (show Ann na ma0 ma_94 from han), (show FrC lo hi ma ma_94 from hfc), (show 0 ≤ (0 : Int) from oz_5a341f00aa), (show (0 : Int) ≤ 4 from oz_9a2dd02853), (show ZTy cf_94 (Gk ta ca na ma0 ns ys nf) na ma_94 lo hi p0 (0 : Int) from (zr_no (by omega))), (show R_mp_checkCall (RL_mp_check d) tf ta na ca p0 ma cf ma_94 cf_94 (0 : Int32) from (k94_27 _ _ _ 1 (Or.inr (Or.inl ⟨rfl, x94_2, x94_3, x94_4, x94_5, x94_6, x94_7, rfl, rfl, rfl, rfl, rfl, Or.inl ⟨nc1, Or.inr ⟨nc3, rfl, rfl, rfl⟩⟩⟩))))⟩) d_Mpg_checkCall_149 | (exact px_iret (v := 0) S hr rfl hlk hAe hw (Nat.le_of_ble_eq_true rfl) (Nat.le_of_ble_eq_true rfl) (⟨ma_94, cf_94, rfl, (show KpE cf cf_94 from hke), (show WrV cf_94 (tf 6).toInt from hwr), (show (cf_94 33).toInt = (cf 33).toInt from by first | exact k94_2 | omega), (show (cf_94 38).toInt = (cf 38).toInt from by first | exact k94_3 | omega), (show (cf_94 48).toInt = (cf 48).toInt from by first | exact k94_4 | omega), (show (cf_94 46).toInt = (cf 46).toInt from by first | exact k94_5 | omega), (show (cf_94 47).toInt = (cf 47).toInt from by first | exact k94_6 | omega), (show (cf_94 57).toInt = (cf 57).toInt from by first | exact k94_7 | omega), (show Ann na ma0 ma_94 from han), (show FrC lo hi ma ma_94 from hfc), (show 0 ≤ (0 : Int) from by first | exact oz_5a341f00aa | omega), (show (0 : Int) ≤ 4 from by first | exact oz_9a2dd02853 | omega), (show ZTy cf_94 (Gk ta ca na ma0 ns ys nf) na ma_94 lo hi p0 (0 : Int) from (zr_no (by omega))), (show R_mp_checkCall (RL_mp_check d) tf ta na ca p0 ma cf ma_94 cf_94 (0 : Int32) from (k94_27 _ _ _ 1 (Or.inr (Or.inl ⟨rfl, x94_2, x94_3, x94_4, x94_5, x94_6, x94_7, rfl, rfl, rfl, rfl, rfl, Or.inl ⟨nc1, Or.inr ⟨nc3, rfl, rfl, rfl⟩⟩⟩))))⟩) d_Mpg_checkCall_149)
      · have nc1 : ¬ x94_7.toInt < (0 : Int) := mt (i_lt (x := x94_7) (y := 0)).mpr c1
        refine lv_iload S.x S.b d_Mpg_checkCall_99 (lv_at hl 5 rfl) ?_
        obtain ⟨md188, hm1_md188, hm2_md188, hec_x94_7, hx3_md188, hrr2⟩ := RcE.step hrr (by omega)
        refine lv_if_eq (tgt := 116) S.x S.b d_Mpg_checkCall_101 (by decide) (fun c189 => ?_) (fun c189 => ?_)
        · have nc189 : x94_5.toInt = (0 : Int) := (i_eq (x := x94_5) (y := 0)).mp c189
          refine lv_bipush (v := 32) S.x S.b d_Mpg_checkCall_116 (by decide) ?_
          refine lv_istore (lv' := [(8, .int 32), (0, .ref h), (1, .int p0), (2, .int x94_2), (3, .int x94_3), (4, .int x94_4), (5, .int x94_5), (6, .int x94_6), (7, .int x94_7)]) S.x S.b d_Mpg_checkCall_118 hl (by decide) rfl (fun ls hl => ?_)
          refine lv_aload_n S.x S.b d_Mpg_checkCall_120 rfl (lv_at hl 1 rfl) ?_
          refine lv_iload S.x S.b d_Mpg_checkCall_121 (lv_at hl 8 rfl) ?_
          refine lv_iload S.x S.b d_Mpg_checkCall_123 (lv_at hl 0 rfl) ?_
          first | refine px_callv (pr := []) (px_runV (As := [.int x94_7, .int 32]) (rest := []) S (c_mp_checkArgument l D cs ma0 ys ns nf kn d mid_94 md188 h r g tf ta pf na wa ca ef ea xf xa ma_94 cf_94 x94_7 32  (show 0 ≤ mid_94 from (oz_06d7f15a5c k94_22 hrg.2.2)) (show md188 ≤ (pf 13).toInt from (oz_bbb5b20c1a g1 hm2_md188)) (show (pf 13).toInt ≤ 2100 from g2) (show (tf 6).toInt ≤ 2049 from g3) (show (cf_94 33).toInt = kn from (oz_1687f4cc65 g4 k94_2)) (show 0 ≤ kn from g5) (show (cf_94 48).toInt = ns from (oz_1687f4cc65 g6 k94_4)) (show (cf_94 38).toInt = nf from (oz_1687f4cc65 g7 k94_3)) (show 0 ≤ nf from g8) (show (32 : Int) = 32 ∨ (32 : Int) = 105 ∨ (32 : Int) = 115 ∨ (32 : Int) = 97 ∨ (32 : Int) = 99 from by omega) htk (FsI.le (N' := (pf 13).toInt) hfs (by omega)) hwr (KnT.eq hkt (by omega)) (FnT.eq hft (by omega)) hks hfp han hec_x94_7 hLC _) hT (pr := []) (pcs := [wdP cs h r g tf ta pf na ma_94 wa cf_94 ca ef ea xf xa]) hw (oX_call (P := (fun A U H => (oP A g U H))) (pr := []) oG_P hw hA hP) (px_recv hT hw 0 0 rfl rfl rfl) m12_233 m12_230 m12_232 ms_12_11 m1_21 q_Mpg_checkArgument ⟨show (4 * d + 13) + 1 ≤ (4 * d + 14) from (oz_dc032a77dd), show 8 + (5 + 11) + (200 * d + 470) ≤ (200 * d + 540) from (oz_ef3b614611)⟩ hl.1 rfl (Nat.le_of_ble_eq_true rfl) d_Mpg_checkCall_125 ⟨Nat.le_of_ble_eq_true rfl, Nat.le_of_ble_eq_true rfl⟩) hw hA (fun p195 H locs hp195 hw => ?_) | (refine px_callv (pr := []) (px_runV (As := [.int x94_7, .int 32]) (rest := []) S (c_mp_checkArgument l D cs ma0 ys ns nf kn d mid_94 md188 h r g tf ta pf na wa ca ef ea xf xa ma_94 cf_94 x94_7 32  (show 0 ≤ mid_94 from by first | exact oz_06d7f15a5c k94_22 hrg.2.2 | omega) (show md188 ≤ (pf 13).toInt from by first | exact oz_bbb5b20c1a g1 hm2_md188 | omega) (show (pf 13).toInt ≤ 2100 from by first | exact g2 | omega) (show (tf 6).toInt ≤ 2049 from by first | exact g3 | omega) (show (cf_94 33).toInt = kn from by first | exact oz_1687f4cc65 g4 k94_2 | omega) (show 0 ≤ kn from by first | exact g5 | omega) (show (cf_94 48).toInt = ns from by first | exact oz_1687f4cc65 g6 k94_4 | omega) (show (cf_94 38).toInt = nf from by first | exact oz_1687f4cc65 g7 k94_3 | omega) (show 0 ≤ nf from by first | exact g8 | omega) (show (32 : Int) = 32 ∨ (32 : Int) = 105 ∨ (32 : Int) = 115 ∨ (32 : Int) = 97 ∨ (32 : Int) = 99 from by omega) htk (FsI.le (N' := (pf 13).toInt) hfs (by omega)) hwr (KnT.eq hkt (by omega)) (FnT.eq hft (by omega)) hks hfp han hec_x94_7 hLC _) hT (pr := []) (pcs := [wdP cs h r g tf ta pf na ma_94 wa cf_94 ca ef ea xf xa]) hw (oX_call (P := (fun A U H => (oP A g U H))) (pr := []) oG_P hw hA hP) (px_recv hT hw 0 0 rfl rfl rfl) m12_233 m12_230 m12_232 ms_12_11 m1_21 q_Mpg_checkArgument ⟨show (4 * d + 13) + 1 ≤ (4 * d + 14) from (by first | exact oz_dc032a77dd | omega), show 8 + (5 + 11) + (200 * d + 470) ≤ (200 * d + 540) from (by first | exact oz_ef3b614611 | omega)⟩ hl.1 rfl (Nat.le_of_ble_eq_true rfl) d_Mpg_checkCall_125 ⟨Nat.le_of_ble_eq_true rfl, Nat.le_of_ble_eq_true rfl⟩) hw hA (fun p195 H locs hp195 hw => ?_))
          obtain ⟨ma193, cf194, rfl, e197, e198, e199, e200, e201, e202, e203, e204, e205, e206, e207, e208⟩ := hp195
          have e197 : KpE cf_94 cf194 := e197
          have hke := (hke).tr e197
          have hkz_e197 := e197.2
          have e198 : WrV cf194 (tf 6).toInt := e198
          have hwr := e198
          have hw0_e198 := hwr.1
          have e199 : (cf194 33).toInt = (cf_94 33).toInt := e199
          have e200 : (cf194 38).toInt = (cf_94 38).toInt := e200
          have e201 : (cf194 48).toInt = (cf_94 48).toInt := e201
          have e202 : (cf194 46).toInt = (cf_94 46).toInt := e202
          have e203 : (cf194 47).toInt = (cf_94 47).toInt := e203
          have e204 : (cf194 57).toInt = (cf_94 57).toInt := e204
          have e205 : Ann na ma0 ma193 := e205
          have han := e205
          have e206 : FrC mid_94 md188 ma_94 ma193 := e206
          have hfc := hfc.tr e206 (by omega) (by omega)
          have hkb := KbI.tr hkb e206 (by omega) (by omega)
          have hzta := ZTa.tr hzta e197 e206 (by omega)
          have e207 : ZAr cf194 (Gk ta ca na ma0 ns ys nf) na ma193 mid_94 md188 x94_7 (32 : Int) := e207
          have hzar_x94_7 := e207
          have e208 : R_mp_checkArgument (RL_mp_check d) tf ta na ca x94_7 (32 : Int32) ma_94 cf_94 ma193 cf194 := e208
          obtain ⟨z209, ez209⟩ : ∃ y : Int32, y = x94_6 + 1 := ⟨_, rfl⟩
          have tz209 : z209.toInt = (x94_6.toInt + 1 + 2147483648) % 4294967296 - 2147483648 := by rw [ez209]; exact i_add x94_6 1
          have lz209 := Int32.le_toInt z209
          have uz209 := Int32.toInt_lt z209
          try replace tz209 : z209.toInt = x94_6.toInt + 1 := by omega
          refine lv_iinc (v := z209) (lv' := [(6, .int z209), (8, .int 32), (0, .ref h), (1, .int p0), (2, .int x94_2), (3, .int x94_3), (4, .int x94_4), (5, .int x94_5), (7, .int x94_7)]) S.x S.b d_Mpg_checkCall_128 hl (k := 7) rfl (by rw [ez209]; rfl) (by decide) rfl (fun ls hl => ?_)
          refine lv_aload_n S.x S.b d_Mpg_checkCall_131 rfl (lv_at hl 2 rfl) ?_
          refine gP_21 S hT hw 0 rfl m10_7 d_Mpg_checkCall_132 ?_
          refine lv_iload S.x S.b d_Mpg_checkCall_135 (lv_at hl 8 rfl) ?_
          refine px_iald S hT hw 0 17 (n := 2100) (f := (na 21)) rfl gp_21 (x := x94_7) (vp_in_iff.mpr (by constructor <;> omega)) d_Mpg_checkCall_137 ?_
          refine lv_topi (fun z210 ez210 => ?_)
          have lz210 := Int32.le_toInt z210
          have uz210 := Int32.toInt_lt z210
          refine lv_istore (lv' := [(7, .int z210), (6, .int z209), (8, .int 32), (0, .ref h), (1, .int p0), (2, .int x94_2), (3, .int x94_3), (4, .int x94_4), (5, .int x94_5)]) S.x S.b d_Mpg_checkCall_138 hl (by decide) rfl (fun ls hl => ?_)
          refine lv_goto (tgt := 94) S.x S.b d_Mpg_checkCall_140 (by decide) ?_
          first | exact ih94 ma193 cf194 md188 x94_2 x94_3 x94_4 x94_5 z209 z210 _ _ ls (show KpE cf cf194 from hke) (show WrV cf194 (tf 6).toInt from hwr) (show (cf194 33).toInt = (cf 33).toInt from (oz_1687f4cc65 k94_2 e199)) (show (cf194 38).toInt = (cf 38).toInt from (oz_1687f4cc65 k94_3 e200)) (show (cf194 48).toInt = (cf 48).toInt from (oz_1687f4cc65 k94_4 e201)) (show (cf194 46).toInt = (cf 46).toInt from (oz_1687f4cc65 k94_5 e202)) (show (cf194 47).toInt = (cf 47).toInt from (oz_1687f4cc65 k94_6 e203)) (show (cf194 57).toInt = (cf 57).toInt from (oz_1687f4cc65 k94_7 e204)) (show Ann na ma0 ma193 from han) (show FrC lo hi ma ma193 from hfc) (show -1 ≤ x94_3.toInt from k94_10) (show x94_3.toInt ≤ 9 from k94_11) (show -1 ≤ x94_4.toInt from k94_12) (show x94_4.toInt < nf from k94_13) (show 0 ≤ x94_5.toInt from k94_14) (show x94_5.toInt ≤ 1 from k94_15) (show x94_5.toInt = 1 → (0 ≤ x94_3.toInt ∧ x94_4.toInt = -1) ∨ (x94_3.toInt < 0 ∧ 0 ≤ x94_4.toInt) from k94_16) (show x94_5.toInt = 0 → 1 ≤ (cf194 30).toInt from by omega) (show 0 ≤ z209.toInt from (oz_ae613611c0 tz209 k94_18)) (show z209.toInt + p0.toInt + 1 ≤ md188 from by omega) (show 0 ≤ x94_2.toInt from k94_20) (show x94_2.toInt < (tf 6).toInt from k94_21) (show p0.toInt + 1 ≤ md188 from by omega) (show md188 ≤ hi from hm2_md188) (show RcR ta (tf 6).toInt na ma0 d md188 hi z210 from (by rw [ez210]; exact hrr2)) (show KbI ma193 p0 x94_5.toInt (cod x94_4.toInt x94_3.toInt) from hkb) (show ZTa cf194 (Gk ta ca na ma0 ns ys nf) na ma193 (p0.toInt + 1) md188 (cod x94_4.toInt x94_3.toInt) (na 17 p0.toNatClampNeg) z210 z209.toInt from (ZTa.s hzta hzar_x94_7 (fun q => absurd q (by omega)) (by omega) (by omega) (by omega) ez210 (by omega) (by omega))) (show K_mp_checkCall_94 (RL_mp_check d) tf ta na ca p0 ma cf ma193 cf194 x94_2 x94_3 x94_4 x94_5 z209 z210 from (fun y_f0 y_f1 y_v k hE => k94_27 y_f0 y_f1 y_v (k + 1) (Or.inr (Or.inl ⟨rfl, x94_2, x94_3, x94_4, x94_5, x94_6, x94_7, rfl, rfl, rfl, rfl, rfl, Or.inr ⟨nc1, Or.inl ⟨nc189, ma193, cf194, e208, z209, ez209, z210, ez210, hE⟩⟩⟩)))) (show hi - md188 < (n_94 : Int) from by omega) hw (lv_sub hl [3, 4, 5, 6, 7, 8, 1, 0] rfl) | (exact ih94 ma193 cf194 md188 x94_2 x94_3 x94_4 x94_5 z209 z210 _ _ ls (show KpE cf cf194 from hke) (show WrV cf194 (tf 6).toInt from hwr) (show (cf194 33).toInt = (cf 33).toInt from by first | exact oz_1687f4cc65 k94_2 e199 | omega) (show (cf194 38).toInt = (cf 38).toInt from by first | exact oz_1687f4cc65 k94_3 e200 | omega) (show (cf194 48).toInt = (cf 48).toInt from by first | exact oz_1687f4cc65 k94_4 e201 | omega) (show (cf194 46).toInt = (cf 46).toInt from by first | exact oz_1687f4cc65 k94_5 e202 | omega) (show (cf194 47).toInt = (cf 47).toInt from by first | exact oz_1687f4cc65 k94_6 e203 | omega) (show (cf194 57).toInt = (cf 57).toInt from by first | exact oz_1687f4cc65 k94_7 e204 | omega) (show Ann na ma0 ma193 from han) (show FrC lo hi ma ma193 from hfc) (show -1 ≤ x94_3.toInt from by first | exact k94_10 | omega) (show x94_3.toInt ≤ 9 from by first | exact k94_11 | omega) (show -1 ≤ x94_4.toInt from by first | exact k94_12 | omega) (show x94_4.toInt < nf from by first | exact k94_13 | omega) (show 0 ≤ x94_5.toInt from by first | exact k94_14 | omega) (show x94_5.toInt ≤ 1 from by first | exact k94_15 | omega) (show x94_5.toInt = 1 → (0 ≤ x94_3.toInt ∧ x94_4.toInt = -1) ∨ (x94_3.toInt < 0 ∧ 0 ≤ x94_4.toInt) from by first | exact k94_16 | omega) (show x94_5.toInt = 0 → 1 ≤ (cf194 30).toInt from by omega) (show 0 ≤ z209.toInt from by first | exact oz_ae613611c0 tz209 k94_18 | omega) (show z209.toInt + p0.toInt + 1 ≤ md188 from by omega) (show 0 ≤ x94_2.toInt from by first | exact k94_20 | omega) (show x94_2.toInt < (tf 6).toInt from by first | exact k94_21 | omega) (show p0.toInt + 1 ≤ md188 from by omega) (show md188 ≤ hi from by first | exact hm2_md188 | omega) (show RcR ta (tf 6).toInt na ma0 d md188 hi z210 from (by rw [ez210]; exact hrr2)) (show KbI ma193 p0 x94_5.toInt (cod x94_4.toInt x94_3.toInt) from hkb) (show ZTa cf194 (Gk ta ca na ma0 ns ys nf) na ma193 (p0.toInt + 1) md188 (cod x94_4.toInt x94_3.toInt) (na 17 p0.toNatClampNeg) z210 z209.toInt from (ZTa.s hzta hzar_x94_7 (fun q => absurd q (by omega)) (by omega) (by omega) (by omega) ez210 (by omega) (by omega))) (show K_mp_checkCall_94 (RL_mp_check d) tf ta na ca p0 ma cf ma193 cf194 x94_2 x94_3 x94_4 x94_5 z209 z210 from (fun y_f0 y_f1 y_v k hE => k94_27 y_f0 y_f1 y_v (k + 1) (Or.inr (Or.inl ⟨rfl, x94_2, x94_3, x94_4, x94_5, x94_6, x94_7, rfl, rfl, rfl, rfl, rfl, Or.inr ⟨nc1, Or.inl ⟨nc189, ma193, cf194, e208, z209, ez209, z210, ez210, hE⟩⟩⟩)))) (show hi - md188 < (n_94 : Int) from by omega) hw (lv_sub hl [3, 4, 5, 6, 7, 8, 1, 0] rfl))
        · have nc189 : ¬ x94_5.toInt = (0 : Int) := mt (i_eq (x := x94_5) (y := 0)).mpr c189
          refine lv_aload_n S.x S.b d_Mpg_checkCall_104 rfl (lv_at hl 0 rfl) ?_
          refine lv_iload S.x S.b d_Mpg_checkCall_105 (lv_at hl 4 rfl) ?_
          refine lv_iload_n S.x S.b d_Mpg_checkCall_107 rfl (lv_at hl 3 rfl) ?_
          refine lv_iload S.x S.b d_Mpg_checkCall_108 (lv_at hl 6 rfl) ?_
          first | refine px_calli (pr := []) (px_runV (As := [.int x94_4, .int x94_3, .int x94_6]) (rest := []) S (c_mp_taken l D cs h r g tf ta pf na ma_94 wa cf_94 ca ef ea xf xa x94_4 x94_3 x94_6  (show -1 ≤ x94_4.toInt from k94_12) (show x94_4.toInt < (cf_94 38).toInt from (oz_0f2ac8ea3f k94_3 k94_13 g7)) (show x94_4.toInt < 0 → 0 ≤ x94_3.toInt ∧ x94_3.toInt < 10 from by omega) (show 0 ≤ x94_6.toInt from k94_18) (show x94_6.toInt ≤ 4000 from (oz_2634073f30 k94_19 hrg.2.2 k94_23 g1 g2)) (show 0 ≤ (cf_94 38).toInt from (oz_e2fef14871 k94_3 g7 g8)) htk (FnT.eq hft (by omega)) (FnP.eq hfp (by omega)) _) hT (pr := []) (pcs := [wdP cs h r g tf ta pf na ma_94 wa cf_94 ca ef ea xf xa]) hw (oX_call (P := (fun A U H => (oP A g U H))) (pr := []) oG_P hw hA hP) (px_recv hT hw 0 0 rfl rfl rfl) m12_229 m12_226 m12_228 ms_12_10 m1_21 q_Mpg_taken ⟨show 4 + 1 ≤ (4 * d + 14) from (oz_0cd0036c91), show 8 + (6 + 11) + 140 ≤ (200 * d + 540) from (oz_dff5f80a3a)⟩ hl.1 rfl (Nat.le_of_ble_eq_true rfl) d_Mpg_checkCall_110 ⟨Nat.le_of_ble_eq_true rfl, Nat.le_of_ble_eq_true rfl⟩) hw hA (fun v212 p211 H locs hp211 hw => ?_) | (refine px_calli (pr := []) (px_runV (As := [.int x94_4, .int x94_3, .int x94_6]) (rest := []) S (c_mp_taken l D cs h r g tf ta pf na ma_94 wa cf_94 ca ef ea xf xa x94_4 x94_3 x94_6  (show -1 ≤ x94_4.toInt from by first | exact k94_12 | omega) (show x94_4.toInt < (cf_94 38).toInt from by first | exact oz_0f2ac8ea3f k94_3 k94_13 g7 | omega) (show x94_4.toInt < 0 → 0 ≤ x94_3.toInt ∧ x94_3.toInt < 10 from by omega) (show 0 ≤ x94_6.toInt from by first | exact k94_18 | omega) (show x94_6.toInt ≤ 4000 from by first | exact oz_2634073f30 k94_19 hrg.2.2 k94_23 g1 g2 | omega) (show 0 ≤ (cf_94 38).toInt from by first | exact oz_e2fef14871 k94_3 g7 g8 | omega) htk (FnT.eq hft (by omega)) (FnP.eq hfp (by omega)) _) hT (pr := []) (pcs := [wdP cs h r g tf ta pf na ma_94 wa cf_94 ca ef ea xf xa]) hw (oX_call (P := (fun A U H => (oP A g U H))) (pr := []) oG_P hw hA hP) (px_recv hT hw 0 0 rfl rfl rfl) m12_229 m12_226 m12_228 ms_12_10 m1_21 q_Mpg_taken ⟨show 4 + 1 ≤ (4 * d + 14) from (by first | exact oz_0cd0036c91 | omega), show 8 + (6 + 11) + 140 ≤ (200 * d + 540) from (by first | exact oz_dff5f80a3a | omega)⟩ hl.1 rfl (Nat.le_of_ble_eq_true rfl) d_Mpg_checkCall_110 ⟨Nat.le_of_ble_eq_true rfl, Nat.le_of_ble_eq_true rfl⟩) hw hA (fun v212 p211 H locs hp211 hw => ?_))
          obtain ⟨rfl, e213, e214⟩ := hp211
          have e213 : TkV na ma_94 ca x94_4.toInt x94_3.toInt x94_6.toInt v212.toInt := e213
          have e214 : R_mp_taken na ma_94 ca x94_4 x94_3 x94_6 v212 := e214
          have lv212 := Int32.le_toInt v212
          have uv212 := Int32.toInt_lt v212
          have hcn_110 : CeN nf (cod x94_4.toInt x94_3.toInt) := cen_mk (by omega); have htv_110 := tkv_at (ta := ta) (ns := ns) (ys := ys) e213 han hfp hcn_110; have htg_110 := tkv_rng e213 hcn_110
          refine lv_goto (tgt := 118) S.x S.b d_Mpg_checkCall_113 (by decide) ?_
          refine lv_istore (lv' := [(8, .int v212), (0, .ref h), (1, .int p0), (2, .int x94_2), (3, .int x94_3), (4, .int x94_4), (5, .int x94_5), (6, .int x94_6), (7, .int x94_7)]) S.x S.b d_Mpg_checkCall_118 hl (by decide) rfl (fun ls hl => ?_)
          refine lv_aload_n S.x S.b d_Mpg_checkCall_120 rfl (lv_at hl 1 rfl) ?_
          refine lv_iload S.x S.b d_Mpg_checkCall_121 (lv_at hl 8 rfl) ?_
          refine lv_iload S.x S.b d_Mpg_checkCall_123 (lv_at hl 0 rfl) ?_
          first | refine px_callv (pr := []) (px_runV (As := [.int x94_7, .int v212]) (rest := []) S (c_mp_checkArgument l D cs ma0 ys ns nf kn d mid_94 md188 h r g tf ta pf na wa ca ef ea xf xa ma_94 cf_94 x94_7 v212  (show 0 ≤ mid_94 from (oz_06d7f15a5c k94_22 hrg.2.2)) (show md188 ≤ (pf 13).toInt from (oz_bbb5b20c1a g1 hm2_md188)) (show (pf 13).toInt ≤ 2100 from g2) (show (tf 6).toInt ≤ 2049 from g3) (show (cf_94 33).toInt = kn from (oz_1687f4cc65 g4 k94_2)) (show 0 ≤ kn from g5) (show (cf_94 48).toInt = ns from (oz_1687f4cc65 g6 k94_4)) (show (cf_94 38).toInt = nf from (oz_1687f4cc65 g7 k94_3)) (show 0 ≤ nf from g8) (show v212.toInt = 32 ∨ v212.toInt = 105 ∨ v212.toInt = 115 ∨ v212.toInt = 97 ∨ v212.toInt = 99 from by omega) htk (FsI.le (N' := (pf 13).toInt) hfs (by omega)) hwr (KnT.eq hkt (by omega)) (FnT.eq hft (by omega)) hks hfp han hec_x94_7 hLC _) hT (pr := []) (pcs := [wdP cs h r g tf ta pf na ma_94 wa cf_94 ca ef ea xf xa]) hw (oX_call (P := (fun A U H => (oP A g U H))) (pr := []) oG_P hw hA hP) (px_recv hT hw 0 0 rfl rfl rfl) m12_233 m12_230 m12_232 ms_12_11 m1_21 q_Mpg_checkArgument ⟨show (4 * d + 13) + 1 ≤ (4 * d + 14) from (oz_dc032a77dd), show 8 + (5 + 11) + (200 * d + 470) ≤ (200 * d + 540) from (oz_ef3b614611)⟩ hl.1 rfl (Nat.le_of_ble_eq_true rfl) d_Mpg_checkCall_125 ⟨Nat.le_of_ble_eq_true rfl, Nat.le_of_ble_eq_true rfl⟩) hw hA (fun p219 H locs hp219 hw => ?_) | (refine px_callv (pr := []) (px_runV (As := [.int x94_7, .int v212]) (rest := []) S (c_mp_checkArgument l D cs ma0 ys ns nf kn d mid_94 md188 h r g tf ta pf na wa ca ef ea xf xa ma_94 cf_94 x94_7 v212  (show 0 ≤ mid_94 from by first | exact oz_06d7f15a5c k94_22 hrg.2.2 | omega) (show md188 ≤ (pf 13).toInt from by first | exact oz_bbb5b20c1a g1 hm2_md188 | omega) (show (pf 13).toInt ≤ 2100 from by first | exact g2 | omega) (show (tf 6).toInt ≤ 2049 from by first | exact g3 | omega) (show (cf_94 33).toInt = kn from by first | exact oz_1687f4cc65 g4 k94_2 | omega) (show 0 ≤ kn from by first | exact g5 | omega) (show (cf_94 48).toInt = ns from by first | exact oz_1687f4cc65 g6 k94_4 | omega) (show (cf_94 38).toInt = nf from by first | exact oz_1687f4cc65 g7 k94_3 | omega) (show 0 ≤ nf from by first | exact g8 | omega) (show v212.toInt = 32 ∨ v212.toInt = 105 ∨ v212.toInt = 115 ∨ v212.toInt = 97 ∨ v212.toInt = 99 from by omega) htk (FsI.le (N' := (pf 13).toInt) hfs (by omega)) hwr (KnT.eq hkt (by omega)) (FnT.eq hft (by omega)) hks hfp han hec_x94_7 hLC _) hT (pr := []) (pcs := [wdP cs h r g tf ta pf na ma_94 wa cf_94 ca ef ea xf xa]) hw (oX_call (P := (fun A U H => (oP A g U H))) (pr := []) oG_P hw hA hP) (px_recv hT hw 0 0 rfl rfl rfl) m12_233 m12_230 m12_232 ms_12_11 m1_21 q_Mpg_checkArgument ⟨show (4 * d + 13) + 1 ≤ (4 * d + 14) from (by first | exact oz_dc032a77dd | omega), show 8 + (5 + 11) + (200 * d + 470) ≤ (200 * d + 540) from (by first | exact oz_ef3b614611 | omega)⟩ hl.1 rfl (Nat.le_of_ble_eq_true rfl) d_Mpg_checkCall_125 ⟨Nat.le_of_ble_eq_true rfl, Nat.le_of_ble_eq_true rfl⟩) hw hA (fun p219 H locs hp219 hw => ?_))
          obtain ⟨ma217, cf218, rfl, e221, e222, e223, e224, e225, e226, e227, e228, e229, e230, e231, e232⟩ := hp219
          have e221 : KpE cf_94 cf218 := e221
          have hke := (hke).tr e221
          have hkz_e221 := e221.2
          have e222 : WrV cf218 (tf 6).toInt := e222
          have hwr := e222
          have hw0_e222 := hwr.1
          have e223 : (cf218 33).toInt = (cf_94 33).toInt := e223
          have e224 : (cf218 38).toInt = (cf_94 38).toInt := e224
          have e225 : (cf218 48).toInt = (cf_94 48).toInt := e225
          have e226 : (cf218 46).toInt = (cf_94 46).toInt := e226
          have e227 : (cf218 47).toInt = (cf_94 47).toInt := e227
          have e228 : (cf218 57).toInt = (cf_94 57).toInt := e228
          have e229 : Ann na ma0 ma217 := e229
          have han := e229
          have e230 : FrC mid_94 md188 ma_94 ma217 := e230
          have hfc := hfc.tr e230 (by omega) (by omega)
          have hkb := KbI.tr hkb e230 (by omega) (by omega)
          have hzta := ZTa.tr hzta e221 e230 (by omega)
          have e231 : ZAr cf218 (Gk ta ca na ma0 ns ys nf) na ma217 mid_94 md188 x94_7 v212.toInt := e231
          have hzar_x94_7 := e231
          have e232 : R_mp_checkArgument (RL_mp_check d) tf ta na ca x94_7 v212 ma_94 cf_94 ma217 cf218 := e232
          obtain ⟨z233, ez233⟩ : ∃ y : Int32, y = x94_6 + 1 := ⟨_, rfl⟩
          have tz233 : z233.toInt = (x94_6.toInt + 1 + 2147483648) % 4294967296 - 2147483648 := by rw [ez233]; exact i_add x94_6 1
          have lz233 := Int32.le_toInt z233
          have uz233 := Int32.toInt_lt z233
          try replace tz233 : z233.toInt = x94_6.toInt + 1 := by omega
          refine lv_iinc (v := z233) (lv' := [(6, .int z233), (8, .int v212), (0, .ref h), (1, .int p0), (2, .int x94_2), (3, .int x94_3), (4, .int x94_4), (5, .int x94_5), (7, .int x94_7)]) S.x S.b d_Mpg_checkCall_128 hl (k := 7) rfl (by rw [ez233]; rfl) (by decide) rfl (fun ls hl => ?_)
          refine lv_aload_n S.x S.b d_Mpg_checkCall_131 rfl (lv_at hl 2 rfl) ?_
          refine gP_21 S hT hw 0 rfl m10_7 d_Mpg_checkCall_132 ?_
          refine lv_iload S.x S.b d_Mpg_checkCall_135 (lv_at hl 8 rfl) ?_
          refine px_iald S hT hw 0 17 (n := 2100) (f := (na 21)) rfl gp_21 (x := x94_7) (vp_in_iff.mpr (by constructor <;> omega)) d_Mpg_checkCall_137 ?_
          refine lv_topi (fun z234 ez234 => ?_)
          have lz234 := Int32.le_toInt z234
          have uz234 := Int32.toInt_lt z234
          refine lv_istore (lv' := [(7, .int z234), (6, .int z233), (8, .int v212), (0, .ref h), (1, .int p0), (2, .int x94_2), (3, .int x94_3), (4, .int x94_4), (5, .int x94_5)]) S.x S.b d_Mpg_checkCall_138 hl (by decide) rfl (fun ls hl => ?_)
          refine lv_goto (tgt := 94) S.x S.b d_Mpg_checkCall_140 (by decide) ?_
          first | exact ih94 ma217 cf218 md188 x94_2 x94_3 x94_4 x94_5 z233 z234 _ _ ls (show KpE cf cf218 from hke) (show WrV cf218 (tf 6).toInt from hwr) (show (cf218 33).toInt = (cf 33).toInt from (oz_1687f4cc65 k94_2 e223)) (show (cf218 38).toInt = (cf 38).toInt from (oz_1687f4cc65 k94_3 e224)) (show (cf218 48).toInt = (cf 48).toInt from (oz_1687f4cc65 k94_4 e225)) (show (cf218 46).toInt = (cf 46).toInt from (oz_1687f4cc65 k94_5 e226)) (show (cf218 47).toInt = (cf 47).toInt from (oz_1687f4cc65 k94_6 e227)) (show (cf218 57).toInt = (cf 57).toInt from (oz_1687f4cc65 k94_7 e228)) (show Ann na ma0 ma217 from han) (show FrC lo hi ma ma217 from hfc) (show -1 ≤ x94_3.toInt from k94_10) (show x94_3.toInt ≤ 9 from k94_11) (show -1 ≤ x94_4.toInt from k94_12) (show x94_4.toInt < nf from k94_13) (show 0 ≤ x94_5.toInt from k94_14) (show x94_5.toInt ≤ 1 from k94_15) (show x94_5.toInt = 1 → (0 ≤ x94_3.toInt ∧ x94_4.toInt = -1) ∨ (x94_3.toInt < 0 ∧ 0 ≤ x94_4.toInt) from k94_16) (show x94_5.toInt = 0 → 1 ≤ (cf218 30).toInt from by omega) (show 0 ≤ z233.toInt from (oz_ae613611c0 tz233 k94_18)) (show z233.toInt + p0.toInt + 1 ≤ md188 from by omega) (show 0 ≤ x94_2.toInt from k94_20) (show x94_2.toInt < (tf 6).toInt from k94_21) (show p0.toInt + 1 ≤ md188 from by omega) (show md188 ≤ hi from hm2_md188) (show RcR ta (tf 6).toInt na ma0 d md188 hi z234 from (by rw [ez234]; exact hrr2)) (show KbI ma217 p0 x94_5.toInt (cod x94_4.toInt x94_3.toInt) from hkb) (show ZTa cf218 (Gk ta ca na ma0 ns ys nf) na ma217 (p0.toInt + 1) md188 (cod x94_4.toInt x94_3.toInt) (na 17 p0.toNatClampNeg) z234 z233.toInt from (ZTa.s hzta hzar_x94_7 (fun _ => htv_110) (by omega) (by omega) (by omega) ez234 (by omega) (by omega))) (show K_mp_checkCall_94 (RL_mp_check d) tf ta na ca p0 ma cf ma217 cf218 x94_2 x94_3 x94_4 x94_5 z233 z234 from (fun y_f0 y_f1 y_v k hE => k94_27 y_f0 y_f1 y_v (k + 1) (Or.inr (Or.inl ⟨rfl, x94_2, x94_3, x94_4, x94_5, x94_6, x94_7, rfl, rfl, rfl, rfl, rfl, Or.inr ⟨nc1, Or.inr ⟨nc189, v212, e214, ma217, cf218, e232, z233, ez233, z234, ez234, hE⟩⟩⟩)))) (show hi - md188 < (n_94 : Int) from by omega) hw (lv_sub hl [3, 4, 5, 6, 7, 8, 1, 0] rfl) | (exact ih94 ma217 cf218 md188 x94_2 x94_3 x94_4 x94_5 z233 z234 _ _ ls (show KpE cf cf218 from hke) (show WrV cf218 (tf 6).toInt from hwr) (show (cf218 33).toInt = (cf 33).toInt from by first | exact oz_1687f4cc65 k94_2 e223 | omega) (show (cf218 38).toInt = (cf 38).toInt from by first | exact oz_1687f4cc65 k94_3 e224 | omega) (show (cf218 48).toInt = (cf 48).toInt from by first | exact oz_1687f4cc65 k94_4 e225 | omega) (show (cf218 46).toInt = (cf 46).toInt from by first | exact oz_1687f4cc65 k94_5 e226 | omega) (show (cf218 47).toInt = (cf 47).toInt from by first | exact oz_1687f4cc65 k94_6 e227 | omega) (show (cf218 57).toInt = (cf 57).toInt from by first | exact oz_1687f4cc65 k94_7 e228 | omega) (show Ann na ma0 ma217 from han) (show FrC lo hi ma ma217 from hfc) (show -1 ≤ x94_3.toInt from by first | exact k94_10 | omega) (show x94_3.toInt ≤ 9 from by first | exact k94_11 | omega) (show -1 ≤ x94_4.toInt from by first | exact k94_12 | omega) (show x94_4.toInt < nf from by first | exact k94_13 | omega) (show 0 ≤ x94_5.toInt from by first | exact k94_14 | omega) (show x94_5.toInt ≤ 1 from by first | exact k94_15 | omega) (show x94_5.toInt = 1 → (0 ≤ x94_3.toInt ∧ x94_4.toInt = -1) ∨ (x94_3.toInt < 0 ∧ 0 ≤ x94_4.toInt) from by first | exact k94_16 | omega) (show x94_5.toInt = 0 → 1 ≤ (cf218 30).toInt from by omega) (show 0 ≤ z233.toInt from by first | exact oz_ae613611c0 tz233 k94_18 | omega) (show z233.toInt + p0.toInt + 1 ≤ md188 from by omega) (show 0 ≤ x94_2.toInt from by first | exact k94_20 | omega) (show x94_2.toInt < (tf 6).toInt from by first | exact k94_21 | omega) (show p0.toInt + 1 ≤ md188 from by omega) (show md188 ≤ hi from by first | exact hm2_md188 | omega) (show RcR ta (tf 6).toInt na ma0 d md188 hi z234 from (by rw [ez234]; exact hrr2)) (show KbI ma217 p0 x94_5.toInt (cod x94_4.toInt x94_3.toInt) from hkb) (show ZTa cf218 (Gk ta ca na ma0 ns ys nf) na ma217 (p0.toInt + 1) md188 (cod x94_4.toInt x94_3.toInt) (na 17 p0.toNatClampNeg) z234 z233.toInt from (ZTa.s hzta hzar_x94_7 (fun _ => htv_110) (by omega) (by omega) (by omega) ez234 (by omega) (by omega))) (show K_mp_checkCall_94 (RL_mp_check d) tf ta na ca p0 ma cf ma217 cf218 x94_2 x94_3 x94_4 x94_5 z233 z234 from (fun y_f0 y_f1 y_v k hE => k94_27 y_f0 y_f1 y_v (k + 1) (Or.inr (Or.inl ⟨rfl, x94_2, x94_3, x94_4, x94_5, x94_6, x94_7, rfl, rfl, rfl, rfl, rfl, Or.inr ⟨nc1, Or.inr ⟨nc189, v212, e214, ma217, cf218, e232, z233, ez233, z234, ez234, hE⟩⟩⟩)))) (show hi - md188 < (n_94 : Int) from by omega) hw (lv_sub hl [3, 4, 5, 6, 7, 8, 1, 0] rfl))
  refine lv_aload_n S.x S.b d_Mpg_checkCall_0 rfl (lv_at hl 0 rfl) ?_
  refine gP_15 S hT hw 0 rfl m9_239 d_Mpg_checkCall_1 ?_
  refine lv_iload_n S.x S.b d_Mpg_checkCall_4 rfl (lv_at hl 1 rfl) ?_
  refine px_iald S hT hw 0 11 (n := 2100) (f := (na 15)) rfl gp_15 (x := p0) (vp_in_iff.mpr (by first | exact oz_a7e05de1cd hrg.2.2 hrg.2.1 g1 g2 | (constructor <;> omega))) d_Mpg_checkCall_5 ?_
  refine lv_topi (fun z235 ez235 => ?_)
  have lz235 := Int32.le_toInt z235
  have uz235 := Int32.toInt_lt z235
  have rz235 := EcV.tok hec_p0 ez235
  refine lv_istore_n (lv' := [(2, .int z235), (0, .ref h), (1, .int p0)]) S.x S.b d_Mpg_checkCall_6 rfl hl (by decide) rfl (fun ls hl => ?_)
  refine lv_aload_n S.x S.b d_Mpg_checkCall_7 rfl (lv_at hl 1 rfl) ?_
  refine lv_iload_n S.x S.b d_Mpg_checkCall_8 rfl (lv_at hl 0 rfl) ?_
  first | refine px_calli (pr := []) (px_runV (As := [.int z235]) (rest := []) S (c_mp_findOwn l D cs h r g tf ta pf na ma wa cf ca ef ea xf xa z235  (show 0 ≤ z235.toInt from rz235.1) (show z235.toInt < (tf 6).toInt from (oz_7fe81129bf rz235.2)) (show (tf 6).toInt ≤ 2049 from g3) htk _) hT (pr := []) (pcs := [wdP cs h r g tf ta pf na ma wa cf ca ef ea xf xa]) hw (oX_call (P := (fun A U H => (oP A g U H))) (pr := []) oG_P hw hA hP) (px_recv hT hw 0 0 rfl rfl rfl) m12_157 m12_154 m12_156 ms_11_8 m1_21 q_Mpg_findOwn ⟨show 6 + 1 ≤ (4 * d + 14) from (oz_178248617f), show 8 + (3 + 11) + 230 ≤ (200 * d + 540) from (oz_70e39588d5)⟩ hl.1 rfl (Nat.le_of_ble_eq_true rfl) d_Mpg_checkCall_9 ⟨Nat.le_of_ble_eq_true rfl, Nat.le_of_ble_eq_true rfl⟩) hw hA (fun v237 p236 H locs hp236 hw => ?_) | (refine px_calli (pr := []) (px_runV (As := [.int z235]) (rest := []) S (c_mp_findOwn l D cs h r g tf ta pf na ma wa cf ca ef ea xf xa z235  (show 0 ≤ z235.toInt from by first | exact rz235.1 | omega) (show z235.toInt < (tf 6).toInt from by first | exact oz_7fe81129bf rz235.2 | omega) (show (tf 6).toInt ≤ 2049 from by first | exact g3 | omega) htk _) hT (pr := []) (pcs := [wdP cs h r g tf ta pf na ma wa cf ca ef ea xf xa]) hw (oX_call (P := (fun A U H => (oP A g U H))) (pr := []) oG_P hw hA hP) (px_recv hT hw 0 0 rfl rfl rfl) m12_157 m12_154 m12_156 ms_11_8 m1_21 q_Mpg_findOwn ⟨show 6 + 1 ≤ (4 * d + 14) from (by first | exact oz_178248617f | omega), show 8 + (3 + 11) + 230 ≤ (200 * d + 540) from (by first | exact oz_70e39588d5 | omega)⟩ hl.1 rfl (Nat.le_of_ble_eq_true rfl) d_Mpg_checkCall_9 ⟨Nat.le_of_ble_eq_true rfl, Nat.le_of_ble_eq_true rfl⟩) hw hA (fun v237 p236 H locs hp236 hw => ?_))
  obtain ⟨rfl, e238, e239, e240⟩ := hp236
  have e238 : -1 ≤ v237.toInt := e238
  have e239 : v237.toInt ≤ 9 := e239
  have e240 : R_mp_findOwn tf ta z235 v237 := e240
  have lv237 := Int32.le_toInt v237
  have uv237 := Int32.toInt_lt v237
  refine lv_istore_n (lv' := [(3, .int v237), (2, .int z235), (0, .ref h), (1, .int p0)]) S.x S.b d_Mpg_checkCall_12 rfl hl (by decide) rfl (fun ls hl => ?_)
  refine lv_iload_n S.x S.b d_Mpg_checkCall_13 rfl (lv_at hl 0 rfl) ?_
  refine lv_if_lt (tgt := 21) S.x S.b d_Mpg_checkCall_14 (by decide) (fun c241 => ?_) (fun c241 => ?_)
  · have nc241 : v237.toInt < (0 : Int) := (i_lt (x := v237) (y := 0)).mp c241
    refine lv_aload_n S.x S.b d_Mpg_checkCall_21 rfl (lv_at hl 2 rfl) ?_
    refine lv_iload_n S.x S.b d_Mpg_checkCall_22 rfl (lv_at hl 1 rfl) ?_
    first | refine px_calli (pr := []) (px_runV (As := [.int z235]) (rest := []) S (c_mp_findFunction l D cs h r g tf ta pf na ma wa cf ca ef ea xf xa z235  (show 0 ≤ z235.toInt from rz235.1) (show z235.toInt < (tf 6).toInt from (oz_7fe81129bf rz235.2)) (show (tf 6).toInt ≤ 2049 from g3) (show 0 ≤ (cf 38).toInt from (oz_f3ebed1ad0 g7 g8)) htk (FnT.eq hft (by omega)) _) hT (pr := []) (pcs := [wdP cs h r g tf ta pf na ma wa cf ca ef ea xf xa]) hw px_X.tt (px_recv hT hw 0 0 rfl rfl rfl) m12_165 m12_162 m12_164 ms_11_10 m1_21 q_Mpg_findFunction ⟨show 1 + 1 ≤ (4 * d + 14) from (oz_f9828a4075), show 8 + (3 + 11) + 40 ≤ (200 * d + 540) from (oz_f0debb13c5)⟩ hl.1 rfl (Nat.le_of_ble_eq_true rfl) d_Mpg_checkCall_23 ⟨Nat.le_of_ble_eq_true rfl, Nat.le_of_ble_eq_true rfl⟩) hw hA (fun v244 p243 H locs hp243 hw => ?_) | (refine px_calli (pr := []) (px_runV (As := [.int z235]) (rest := []) S (c_mp_findFunction l D cs h r g tf ta pf na ma wa cf ca ef ea xf xa z235  (show 0 ≤ z235.toInt from by first | exact rz235.1 | omega) (show z235.toInt < (tf 6).toInt from by first | exact oz_7fe81129bf rz235.2 | omega) (show (tf 6).toInt ≤ 2049 from by first | exact g3 | omega) (show 0 ≤ (cf 38).toInt from by first | exact oz_f3ebed1ad0 g7 g8 | omega) htk (FnT.eq hft (by omega)) _) hT (pr := []) (pcs := [wdP cs h r g tf ta pf na ma wa cf ca ef ea xf xa]) hw px_X.tt (px_recv hT hw 0 0 rfl rfl rfl) m12_165 m12_162 m12_164 ms_11_10 m1_21 q_Mpg_findFunction ⟨show 1 + 1 ≤ (4 * d + 14) from (by first | exact oz_f9828a4075 | omega), show 8 + (3 + 11) + 40 ≤ (200 * d + 540) from (by first | exact oz_f0debb13c5 | omega)⟩ hl.1 rfl (Nat.le_of_ble_eq_true rfl) d_Mpg_checkCall_23 ⟨Nat.le_of_ble_eq_true rfl, Nat.le_of_ble_eq_true rfl⟩) hw hA (fun v244 p243 H locs hp243 hw => ?_))
    obtain ⟨rfl, e245, e246, e247⟩ := hp243
    have e245 : -1 ≤ v244.toInt := e245
    have e246 : v244.toInt < (cf 38).toInt := e246
    have e247 : R_mp_findFunction ta na cf ca z235 v244 := e247
    have lv244 := Int32.le_toInt v244
    have uv244 := Int32.toInt_lt v244
    refine lv_istore (lv' := [(4, .int v244), (3, .int v237), (2, .int z235), (0, .ref h), (1, .int p0)]) S.x S.b d_Mpg_checkCall_26 hl (by decide) rfl (fun ls hl => ?_)
    refine lv_aload_n S.x S.b d_Mpg_checkCall_28 rfl (lv_at hl 3 rfl) ?_
    refine lv_iload_n S.x S.b d_Mpg_checkCall_29 rfl (lv_at hl 2 rfl) ?_
    refine lv_iconst (v := 0) S.x S.b d_Mpg_checkCall_30 (by decide) ?_
    first | refine px_calli (pr := []) (px_runV (As := [.int z235, .int 0]) (rest := []) S (c_mp_find l D cs h r g tf ta pf na ma wa cf ca ef ea xf xa z235 0  (show 0 ≤ z235.toInt from rz235.1) (show z235.toInt < (tf 6).toInt from (oz_7fe81129bf rz235.2)) (show (tf 6).toInt ≤ 2049 from g3) (show 0 ≤ (0 : Int) from oz_5a341f00aa) (show 0 ≤ (cf 33).toInt from (oz_f3ebed1ad0 g4 g5)) htk (KnT.eq hkt (by omega)) _) hT (pr := []) (pcs := [wdP cs h r g tf ta pf na ma wa cf ca ef ea xf xa]) hw px_X.tt (px_recv hT hw 0 0 rfl rfl rfl) m12_181 m12_178 m12_180 ms_11_14 m1_21 q_Mpg_find ⟨show 1 + 1 ≤ (4 * d + 14) from (oz_f9828a4075), show 8 + (4 + 11) + 40 ≤ (200 * d + 540) from (oz_cd3f3fad86)⟩ hl.1 rfl (Nat.le_of_ble_eq_true rfl) d_Mpg_checkCall_31 ⟨Nat.le_of_ble_eq_true rfl, Nat.le_of_ble_eq_true rfl⟩) hw hA (fun v249 p248 H locs hp248 hw => ?_) | (refine px_calli (pr := []) (px_runV (As := [.int z235, .int 0]) (rest := []) S (c_mp_find l D cs h r g tf ta pf na ma wa cf ca ef ea xf xa z235 0  (show 0 ≤ z235.toInt from by first | exact rz235.1 | omega) (show z235.toInt < (tf 6).toInt from by first | exact oz_7fe81129bf rz235.2 | omega) (show (tf 6).toInt ≤ 2049 from by first | exact g3 | omega) (show 0 ≤ (0 : Int) from by first | exact oz_5a341f00aa | omega) (show 0 ≤ (cf 33).toInt from by first | exact oz_f3ebed1ad0 g4 g5 | omega) htk (KnT.eq hkt (by omega)) _) hT (pr := []) (pcs := [wdP cs h r g tf ta pf na ma wa cf ca ef ea xf xa]) hw px_X.tt (px_recv hT hw 0 0 rfl rfl rfl) m12_181 m12_178 m12_180 ms_11_14 m1_21 q_Mpg_find ⟨show 1 + 1 ≤ (4 * d + 14) from (by first | exact oz_f9828a4075 | omega), show 8 + (4 + 11) + 40 ≤ (200 * d + 540) from (by first | exact oz_cd3f3fad86 | omega)⟩ hl.1 rfl (Nat.le_of_ble_eq_true rfl) d_Mpg_checkCall_31 ⟨Nat.le_of_ble_eq_true rfl, Nat.le_of_ble_eq_true rfl⟩) hw hA (fun v249 p248 H locs hp248 hw => ?_))
    obtain ⟨rfl, e250, e251, e252, e253, e254⟩ := hp248
    have e250 : -1 ≤ v249.toInt := e250
    have e251 : v249.toInt < (cf 33).toInt := e251
    have e252 : 0 ≤ v249.toInt → (0 : Int) ≤ v249.toInt := e252
    have e253 : FndV ta ca (cf 33).toInt z235 (0 : Int) v249.toInt := e253
    have e254 : R_mp_find ta cf ca z235 (0 : Int32) v249 := e254
    have lv249 := Int32.le_toInt v249
    have uv249 := Int32.toInt_lt v249
    refine lv_if_ge (tgt := 50) S.x S.b d_Mpg_checkCall_34 (by decide) (fun c255 => ?_) (fun c255 => ?_)
    · have nc255 : (0 : Int) ≤ v249.toInt := (i_le (x := 0) (y := v249)).mp c255
      refine lv_iconst (v := 0) S.x S.b d_Mpg_checkCall_50 (by decide) ?_
      refine lv_istore (lv' := [(5, .int 0), (4, .int v244), (3, .int v237), (2, .int z235), (0, .ref h), (1, .int p0)]) S.x S.b d_Mpg_checkCall_51 hl (by decide) rfl (fun ls hl => ?_)
      refine lv_iload S.x S.b d_Mpg_checkCall_53 (lv_at hl 0 rfl) ?_
      refine lv_if_ne (tgt := 64) S.x S.b d_Mpg_checkCall_55 (by decide) (fun c257 => ?_) (fun c257 => ?_)
      · exact absurd c257 (by decide)
      ·
        refine lv_aload_n S.x S.b d_Mpg_checkCall_58 rfl (lv_at hl 4 rfl) ?_
        refine lv_iconst (v := 2) S.x S.b d_Mpg_checkCall_59 (by decide) ?_
        refine lv_iload_n S.x S.b d_Mpg_checkCall_60 rfl (lv_at hl 3 rfl) ?_
        first | refine px_callv (pr := []) (px_runV (As := [.int 2, .int z235]) (rest := []) S (c_mp_bad l D cs h r g tf ta pf na ma wa ca ef ea xf xa cf 2 z235  (show 1 ≤ (2 : Int) from oz_eaf798137c) (show 0 ≤ z235.toInt from rz235.1) (show z235.toInt < (tf 6).toInt from (oz_7fe81129bf rz235.2)) htk hwr _) hT (pr := []) (pcs := [wdP cs h r g tf ta pf na ma wa cf ca ef ea xf xa]) hw px_X.tt (px_recv hT hw 0 0 rfl rfl rfl) m12_173 m12_170 m12_172 ms_11_12 m1_21 q_Mpg_bad ⟨show 0 + 1 ≤ (4 * d + 14) from (oz_90c46cace3), show 8 + (3 + 11) + 0 ≤ (200 * d + 540) from (oz_2ba881113e)⟩ hl.1 rfl (Nat.le_of_ble_eq_true rfl) d_Mpg_checkCall_61 ⟨Nat.le_of_ble_eq_true rfl, Nat.le_of_ble_eq_true rfl⟩) hw hA (fun p260 H locs hp260 hw => ?_) | (refine px_callv (pr := []) (px_runV (As := [.int 2, .int z235]) (rest := []) S (c_mp_bad l D cs h r g tf ta pf na ma wa ca ef ea xf xa cf 2 z235  (show 1 ≤ (2 : Int) from by first | exact oz_eaf798137c | omega) (show 0 ≤ z235.toInt from by first | exact rz235.1 | omega) (show z235.toInt < (tf 6).toInt from by first | exact oz_7fe81129bf rz235.2 | omega) htk hwr _) hT (pr := []) (pcs := [wdP cs h r g tf ta pf na ma wa cf ca ef ea xf xa]) hw px_X.tt (px_recv hT hw 0 0 rfl rfl rfl) m12_173 m12_170 m12_172 ms_11_12 m1_21 q_Mpg_bad ⟨show 0 + 1 ≤ (4 * d + 14) from (by first | exact oz_90c46cace3 | omega), show 8 + (3 + 11) + 0 ≤ (200 * d + 540) from (by first | exact oz_2ba881113e | omega)⟩ hl.1 rfl (Nat.le_of_ble_eq_true rfl) d_Mpg_checkCall_61 ⟨Nat.le_of_ble_eq_true rfl, Nat.le_of_ble_eq_true rfl⟩) hw hA (fun p260 H locs hp260 hw => ?_))
        obtain ⟨cf259, rfl, e262, e263, e264, e265, e266, e267, e268, e269, e270, e271, e272, e273, e274, e275, e276, e277, e278, e279, e280, e281⟩ := hp260
        have e262 : KpE cf cf259 := e262
        have hke := (hke).tr e262
        have hkz_e262 := e262.2
        have e263 : WrV cf259 (tf 6).toInt := e263
        have hwr := e263
        have hw0_e263 := hwr.1
        have e264 : 1 ≤ (cf259 30).toInt := e264
        have e265 : (cf259 33).toInt = (cf 33).toInt := e265
        have e266 : (cf259 38).toInt = (cf 38).toInt := e266
        have e267 : (cf259 48).toInt = (cf 48).toInt := e267
        have e268 : (cf259 46).toInt = (cf 46).toInt := e268
        have e269 : (cf259 47).toInt = (cf 47).toInt := e269
        have e270 : (cf259 57).toInt = (cf 57).toInt := e270
        have e271 : (cf259 37).toInt = (cf 37).toInt := e271
        have e272 : (cf259 42).toInt = (cf 42).toInt := e272
        have e273 : (cf259 43).toInt = (cf 43).toInt := e273
        have e274 : (cf259 44).toInt = (cf 44).toInt := e274
        have e275 : (cf259 45).toInt = (cf 45).toInt := e275
        have e276 : (cf259 54).toInt = (cf 54).toInt := e276
        have e277 : (cf259 55).toInt = (cf 55).toInt := e277
        have e278 : (cf259 58).toInt = (cf 58).toInt := e278
        have e279 : (cf259 59).toInt = (cf 59).toInt := e279
        have e280 : (cf259 41).toInt = (cf 41).toInt := e280
        have e281 : R_mp_bad (2 : Int32) z235 cf cf259 := e281
        refine lv_aload_n S.x S.b d_Mpg_checkCall_64 rfl (lv_at hl 4 rfl) ?_
        refine gP_18 S hT hw 0 rfl m10_3 d_Mpg_checkCall_65 ?_
        refine lv_iload_n S.x S.b d_Mpg_checkCall_68 rfl (lv_at hl 5 rfl) ?_
        refine lv_iload_n S.x S.b d_Mpg_checkCall_69 rfl (lv_at hl 2 rfl) ?_
        refine lv_if_lt (tgt := 77) S.x S.b d_Mpg_checkCall_70 (by decide) (fun c282 => ?_) (fun c282 => ?_)
        · have nc282 : v237.toInt < (0 : Int) := (i_lt (x := v237) (y := 0)).mp c282
          refine lv_bipush (v := 100) S.x S.b d_Mpg_checkCall_77 (by decide) ?_
          refine lv_iload S.x S.b d_Mpg_checkCall_79 (lv_at hl 1 rfl) ?_
          refine lv_iadd S.x S.b d_Mpg_checkCall_81 ?_
          refine lv_topi (fun z284 ez284 => ?_)
          have tz284 : z284.toInt = ((100 : Int) + v244.toInt + 2147483648) % 4294967296 - 2147483648 := by rw [ez284]; exact i_add 100 v244
          have lz284 := Int32.le_toInt z284
          have uz284 := Int32.toInt_lt z284
          try replace tz284 : z284.toInt = (100 : Int) + v244.toInt := by omega
          refine px_iast S hT hw 0 14 (n := 2100) (f := (ma 18)) (x := p0) (y := z284) rfl gp_18 (vp_in_iff.mpr (by constructor <;> omega)) d_Mpg_checkCall_82 (w' := wdP cs h r g tf ta pf na (va_up ma 18 (upd (ma 18) p0.toNatClampNeg z284)) wa cf259 ca ef ea xf xa) (ps' := [wdP cs h r g tf ta pf na (va_up ma 18 (upd (ma 18) p0.toNatClampNeg z284)) wa cf259 ca ef ea xf xa]) sp_18 rfl (fun H locs hw => ?_)
          obtain ⟨ma285, hu_ma285⟩ : ∃ y : Nat → Nat → Int32, y = va_up ma 18 (upd (ma 18) p0.toNatClampNeg z284) := ⟨_, rfl⟩
          have hw : pw D A s.heap _ _ [wdP cs h r g tf ta pf na ma285 wa cf259 ca ef ea xf xa] := (by rw [hu_ma285]; exact hw)
          have hf1_ma285 : FrC p0.toInt (p0.toInt + 1) ma ma285 := (by rw [hu_ma285]; exact FrC.w FrC.rf (by omega) (by omega) (by omega))
          have han : Ann na ma0 ma285 := (by rw [hu_ma285]; exact Ann.w18 han (by omega))
          have hfc := hfc.tr hf1_ma285 (by omega) (by omega)
          have hv_18_p0 : ma285 18 p0.toNatClampNeg = z284 := (by rw [hu_ma285, va_up_s, pk_us])
          have hnhv_18_p0 : (ma285 18 p0.toNatClampNeg).toInt = z284.toInt := (by rw [hv_18_p0])
          have hcd1 : v244.toInt < 0 → cod v244.toInt v237.toInt = v237.toInt := fun h => cod_own h; have hcd2 : 0 ≤ v244.toInt → cod v244.toInt v237.toInt = 100 + v244.toInt := fun h => cod_fun h
          refine lv_iconst (v := 0) S.x S.b d_Mpg_checkCall_83 (by decide) ?_
          refine lv_istore (lv' := [(6, .int 0), (5, .int 0), (4, .int v244), (3, .int v237), (2, .int z235), (0, .ref h), (1, .int p0)]) S.x S.b d_Mpg_checkCall_84 hl (by decide) rfl (fun ls hl => ?_)
          refine lv_aload_n S.x S.b d_Mpg_checkCall_86 rfl (lv_at hl 5 rfl) ?_
          refine gP_17 S hT hw 0 rfl m10_1 d_Mpg_checkCall_87 ?_
          refine lv_iload_n S.x S.b d_Mpg_checkCall_90 rfl (lv_at hl 6 rfl) ?_
          refine px_iald S hT hw 0 13 (n := 2100) (f := (na 17)) rfl gp_17 (x := p0) (vp_in_iff.mpr (by first | exact oz_a7e05de1cd hrg.2.2 hrg.2.1 g1 g2 | (constructor <;> omega))) d_Mpg_checkCall_91 ?_
          refine lv_topi (fun z286 ez286 => ?_)
          have lz286 := Int32.le_toInt z286
          have uz286 := Int32.toInt_lt z286
          have hrr := EcV.k3 hec_p0 (by omega) ez286
          refine lv_istore (lv' := [(7, .int z286), (6, .int 0), (5, .int 0), (4, .int v244), (3, .int v237), (2, .int z235), (0, .ref h), (1, .int p0)]) S.x S.b d_Mpg_checkCall_92 hl (by decide) rfl (fun ls hl => ?_)
          first | exact J94 ((hi - (p0.toInt + 1)).toNat + 1) ma285 cf259 (p0.toInt + 1) z235 v237 v244 (0 : Int32) (0 : Int32) z286 _ _ ls (show KpE cf cf259 from hke) (show WrV cf259 (tf 6).toInt from hwr) (show (cf259 33).toInt = (cf 33).toInt from e265) (show (cf259 38).toInt = (cf 38).toInt from e266) (show (cf259 48).toInt = (cf 48).toInt from e267) (show (cf259 46).toInt = (cf 46).toInt from e268) (show (cf259 47).toInt = (cf 47).toInt from e269) (show (cf259 57).toInt = (cf 57).toInt from e270) (show Ann na ma0 ma285 from han) (show FrC lo hi ma ma285 from hfc) (show -1 ≤ v237.toInt from e238) (show v237.toInt ≤ 9 from e239) (show -1 ≤ v244.toInt from e245) (show v244.toInt < nf from (oz_3b93307734 g7 e246)) (show 0 ≤ (0 : Int) from oz_5a341f00aa) (show (0 : Int) ≤ 1 from oz_6e68cd0f48) (show (0 : Int) = 1 → (0 ≤ v237.toInt ∧ v244.toInt = -1) ∨ (v237.toInt < 0 ∧ 0 ≤ v244.toInt) from by omega) (show (0 : Int) = 0 → 1 ≤ (cf259 30).toInt from by omega) (show 0 ≤ (0 : Int) from oz_5a341f00aa) (show (0 : Int) + p0.toInt + 1 ≤ (p0.toInt + 1) from oz_5323360a91) (show 0 ≤ z235.toInt from rz235.1) (show z235.toInt < (tf 6).toInt from (oz_7fe81129bf rz235.2)) (show p0.toInt + 1 ≤ (p0.toInt + 1) from oz_a1bc7e1f12) (show (p0.toInt + 1) ≤ hi from (oz_8cd8185cc8 hrg.2.1)) (show RcR ta (tf 6).toInt na ma0 d (p0.toInt + 1) hi z286 from hrr) (show KbI ma285 p0 (0 : Int) (cod v244.toInt v237.toInt) from (fun h => by omega)) (show ZTa cf259 (Gk ta ca na ma0 ns ys nf) na ma285 (p0.toInt + 1) (p0.toInt + 1) (cod v244.toInt v237.toInt) (na 17 p0.toNatClampNeg) z286 (0 : Int) from (fun _ => by rw [← ez286]; exact tya_0)) (show K_mp_checkCall_94 (RL_mp_check d) tf ta na ca p0 ma cf ma285 cf259 z235 v237 v244 0 0 z286 from (fun y_f0 y_f1 y_v k hE => Exists.intro (k + 1) (Or.inl ⟨rfl, z235, ez235, v237, e240, Or.inl ⟨nc241, v244, e247, v249, e254, Or.inl ⟨nc255, cf259, e281, Or.inl ⟨nc282, z284, ez284, ma285, hu_ma285, z286, ez286, hE⟩⟩⟩⟩))) (show hi - (p0.toInt + 1) < ((((hi - (p0.toInt + 1)).toNat + 1 : Nat) : Int) : Int) from oz_natlt) hw (lv_sub hl [6, 7, 5, 4, 3, 2, 1, 0] rfl) | (exact J94 ((hi - (p0.toInt + 1)).toNat + 1) ma285 cf259 (p0.toInt + 1) z235 v237 v244 (0 : Int32) (0 : Int32) z286 _ _ ls (show KpE cf cf259 from hke) (show WrV cf259 (tf 6).toInt from hwr) (show (cf259 33).toInt = (cf 33).toInt from by first | exact e265 | omega) (show (cf259 38).toInt = (cf 38).toInt from by first | exact e266 | omega) (show (cf259 48).toInt = (cf 48).toInt from by first | exact e267 | omega) (show (cf259 46).toInt = (cf 46).toInt from by first | exact e268 | omega) (show (cf259 47).toInt = (cf 47).toInt from by first | exact e269 | omega) (show (cf259 57).toInt = (cf 57).toInt from by first | exact e270 | omega) (show Ann na ma0 ma285 from han) (show FrC lo hi ma ma285 from hfc) (show -1 ≤ v237.toInt from by first | exact e238 | omega) (show v237.toInt ≤ 9 from by first | exact e239 | omega) (show -1 ≤ v244.toInt from by first | exact e245 | omega) (show v244.toInt < nf from by first | exact oz_3b93307734 g7 e246 | omega) (show 0 ≤ (0 : Int) from by first | exact oz_5a341f00aa | omega) (show (0 : Int) ≤ 1 from by first | exact oz_6e68cd0f48 | omega) (show (0 : Int) = 1 → (0 ≤ v237.toInt ∧ v244.toInt = -1) ∨ (v237.toInt < 0 ∧ 0 ≤ v244.toInt) from by omega) (show (0 : Int) = 0 → 1 ≤ (cf259 30).toInt from by omega) (show 0 ≤ (0 : Int) from by first | exact oz_5a341f00aa | omega) (show (0 : Int) + p0.toInt + 1 ≤ (p0.toInt + 1) from by first | exact oz_5323360a91 | omega) (show 0 ≤ z235.toInt from by first | exact rz235.1 | omega) (show z235.toInt < (tf 6).toInt from by first | exact oz_7fe81129bf rz235.2 | omega) (show p0.toInt + 1 ≤ (p0.toInt + 1) from by first | exact oz_a1bc7e1f12 | omega) (show (p0.toInt + 1) ≤ hi from by first | exact oz_8cd8185cc8 hrg.2.1 | omega) (show RcR ta (tf 6).toInt na ma0 d (p0.toInt + 1) hi z286 from hrr) (show KbI ma285 p0 (0 : Int) (cod v244.toInt v237.toInt) from (fun h => by omega)) (show ZTa cf259 (Gk ta ca na ma0 ns ys nf) na ma285 (p0.toInt + 1) (p0.toInt + 1) (cod v244.toInt v237.toInt) (na 17 p0.toNatClampNeg) z286 (0 : Int) from (fun _ => by rw [← ez286]; exact tya_0)) (show K_mp_checkCall_94 (RL_mp_check d) tf ta na ca p0 ma cf ma285 cf259 z235 v237 v244 0 0 z286 from (fun y_f0 y_f1 y_v k hE => Exists.intro (k + 1) (Or.inl ⟨rfl, z235, ez235, v237, e240, Or.inl ⟨nc241, v244, e247, v249, e254, Or.inl ⟨nc255, cf259, e281, Or.inl ⟨nc282, z284, ez284, ma285, hu_ma285, z286, ez286, hE⟩⟩⟩⟩))) (show hi - (p0.toInt + 1) < ((((hi - (p0.toInt + 1)).toNat + 1 : Nat) : Int) : Int) from by first | exact oz_natlt | omega) hw (lv_sub hl [6, 7, 5, 4, 3, 2, 1, 0] rfl))
        · have nc282 : ¬ v237.toInt < (0 : Int) := mt (i_lt (x := v237) (y := 0)).mpr c282
          refine lv_iload_n S.x S.b d_Mpg_checkCall_73 rfl (lv_at hl 2 rfl) ?_
          refine lv_goto (tgt := 82) S.x S.b d_Mpg_checkCall_74 (by decide) ?_
          refine px_iast S hT hw 0 14 (n := 2100) (f := (ma 18)) (x := p0) (y := v237) rfl gp_18 (vp_in_iff.mpr (by constructor <;> omega)) d_Mpg_checkCall_82 (w' := wdP cs h r g tf ta pf na (va_up ma 18 (upd (ma 18) p0.toNatClampNeg v237)) wa cf259 ca ef ea xf xa) (ps' := [wdP cs h r g tf ta pf na (va_up ma 18 (upd (ma 18) p0.toNatClampNeg v237)) wa cf259 ca ef ea xf xa]) sp_18 rfl (fun H locs hw => ?_)
          obtain ⟨ma287, hu_ma287⟩ : ∃ y : Nat → Nat → Int32, y = va_up ma 18 (upd (ma 18) p0.toNatClampNeg v237) := ⟨_, rfl⟩
          have hw : pw D A s.heap _ _ [wdP cs h r g tf ta pf na ma287 wa cf259 ca ef ea xf xa] := (by rw [hu_ma287]; exact hw)
          have hf1_ma287 : FrC p0.toInt (p0.toInt + 1) ma ma287 := (by rw [hu_ma287]; exact FrC.w FrC.rf (by omega) (by omega) (by omega))
          have han : Ann na ma0 ma287 := (by rw [hu_ma287]; exact Ann.w18 han (by omega))
          have hfc := hfc.tr hf1_ma287 (by omega) (by omega)
          have hv_18_p0 : ma287 18 p0.toNatClampNeg = v237 := (by rw [hu_ma287, va_up_s, pk_us])
          have hnhv_18_p0 : (ma287 18 p0.toNatClampNeg).toInt = v237.toInt := (by rw [hv_18_p0])
          have hcd1 : v244.toInt < 0 → cod v244.toInt v237.toInt = v237.toInt := fun h => cod_own h; have hcd2 : 0 ≤ v244.toInt → cod v244.toInt v237.toInt = 100 + v244.toInt := fun h => cod_fun h
          refine lv_iconst (v := 0) S.x S.b d_Mpg_checkCall_83 (by decide) ?_
          refine lv_istore (lv' := [(6, .int 0), (5, .int 0), (4, .int v244), (3, .int v237), (2, .int z235), (0, .ref h), (1, .int p0)]) S.x S.b d_Mpg_checkCall_84 hl (by decide) rfl (fun ls hl => ?_)
          refine lv_aload_n S.x S.b d_Mpg_checkCall_86 rfl (lv_at hl 5 rfl) ?_
          refine gP_17 S hT hw 0 rfl m10_1 d_Mpg_checkCall_87 ?_
          refine lv_iload_n S.x S.b d_Mpg_checkCall_90 rfl (lv_at hl 6 rfl) ?_
          refine px_iald S hT hw 0 13 (n := 2100) (f := (na 17)) rfl gp_17 (x := p0) (vp_in_iff.mpr (by first | exact oz_a7e05de1cd hrg.2.2 hrg.2.1 g1 g2 | (constructor <;> omega))) d_Mpg_checkCall_91 ?_
          refine lv_topi (fun z288 ez288 => ?_)
          have lz288 := Int32.le_toInt z288
          have uz288 := Int32.toInt_lt z288
          have hrr := EcV.k3 hec_p0 (by omega) ez288
          refine lv_istore (lv' := [(7, .int z288), (6, .int 0), (5, .int 0), (4, .int v244), (3, .int v237), (2, .int z235), (0, .ref h), (1, .int p0)]) S.x S.b d_Mpg_checkCall_92 hl (by decide) rfl (fun ls hl => ?_)
          first | exact J94 ((hi - (p0.toInt + 1)).toNat + 1) ma287 cf259 (p0.toInt + 1) z235 v237 v244 (0 : Int32) (0 : Int32) z288 _ _ ls (show KpE cf cf259 from hke) (show WrV cf259 (tf 6).toInt from hwr) (show (cf259 33).toInt = (cf 33).toInt from e265) (show (cf259 38).toInt = (cf 38).toInt from e266) (show (cf259 48).toInt = (cf 48).toInt from e267) (show (cf259 46).toInt = (cf 46).toInt from e268) (show (cf259 47).toInt = (cf 47).toInt from e269) (show (cf259 57).toInt = (cf 57).toInt from e270) (show Ann na ma0 ma287 from han) (show FrC lo hi ma ma287 from hfc) (show -1 ≤ v237.toInt from e238) (show v237.toInt ≤ 9 from e239) (show -1 ≤ v244.toInt from e245) (show v244.toInt < nf from (oz_3b93307734 g7 e246)) (show 0 ≤ (0 : Int) from oz_5a341f00aa) (show (0 : Int) ≤ 1 from oz_6e68cd0f48) (show (0 : Int) = 1 → (0 ≤ v237.toInt ∧ v244.toInt = -1) ∨ (v237.toInt < 0 ∧ 0 ≤ v244.toInt) from by omega) (show (0 : Int) = 0 → 1 ≤ (cf259 30).toInt from by omega) (show 0 ≤ (0 : Int) from oz_5a341f00aa) (show (0 : Int) + p0.toInt + 1 ≤ (p0.toInt + 1) from oz_5323360a91) (show 0 ≤ z235.toInt from rz235.1) (show z235.toInt < (tf 6).toInt from (oz_7fe81129bf rz235.2)) (show p0.toInt + 1 ≤ (p0.toInt + 1) from oz_a1bc7e1f12) (show (p0.toInt + 1) ≤ hi from (oz_8cd8185cc8 hrg.2.1)) (show RcR ta (tf 6).toInt na ma0 d (p0.toInt + 1) hi z288 from hrr) (show KbI ma287 p0 (0 : Int) (cod v244.toInt v237.toInt) from (fun h => by omega)) (show ZTa cf259 (Gk ta ca na ma0 ns ys nf) na ma287 (p0.toInt + 1) (p0.toInt + 1) (cod v244.toInt v237.toInt) (na 17 p0.toNatClampNeg) z288 (0 : Int) from (fun _ => by rw [← ez288]; exact tya_0)) (show K_mp_checkCall_94 (RL_mp_check d) tf ta na ca p0 ma cf ma287 cf259 z235 v237 v244 0 0 z288 from (fun y_f0 y_f1 y_v k hE => Exists.intro (k + 1) (Or.inl ⟨rfl, z235, ez235, v237, e240, Or.inl ⟨nc241, v244, e247, v249, e254, Or.inl ⟨nc255, cf259, e281, Or.inr ⟨nc282, ma287, hu_ma287, z288, ez288, hE⟩⟩⟩⟩))) (show hi - (p0.toInt + 1) < ((((hi - (p0.toInt + 1)).toNat + 1 : Nat) : Int) : Int) from oz_natlt) hw (lv_sub hl [6, 7, 5, 4, 3, 2, 1, 0] rfl) | (exact J94 ((hi - (p0.toInt + 1)).toNat + 1) ma287 cf259 (p0.toInt + 1) z235 v237 v244 (0 : Int32) (0 : Int32) z288 _ _ ls (show KpE cf cf259 from hke) (show WrV cf259 (tf 6).toInt from hwr) (show (cf259 33).toInt = (cf 33).toInt from by first | exact e265 | omega) (show (cf259 38).toInt = (cf 38).toInt from by first | exact e266 | omega) (show (cf259 48).toInt = (cf 48).toInt from by first | exact e267 | omega) (show (cf259 46).toInt = (cf 46).toInt from by first | exact e268 | omega) (show (cf259 47).toInt = (cf 47).toInt from by first | exact e269 | omega) (show (cf259 57).toInt = (cf 57).toInt from by first | exact e270 | omega) (show Ann na ma0 ma287 from han) (show FrC lo hi ma ma287 from hfc) (show -1 ≤ v237.toInt from by first | exact e238 | omega) (show v237.toInt ≤ 9 from by first | exact e239 | omega) (show -1 ≤ v244.toInt from by first | exact e245 | omega) (show v244.toInt < nf from by first | exact oz_3b93307734 g7 e246 | omega) (show 0 ≤ (0 : Int) from by first | exact oz_5a341f00aa | omega) (show (0 : Int) ≤ 1 from by first | exact oz_6e68cd0f48 | omega) (show (0 : Int) = 1 → (0 ≤ v237.toInt ∧ v244.toInt = -1) ∨ (v237.toInt < 0 ∧ 0 ≤ v244.toInt) from by omega) (show (0 : Int) = 0 → 1 ≤ (cf259 30).toInt from by omega) (show 0 ≤ (0 : Int) from by first | exact oz_5a341f00aa | omega) (show (0 : Int) + p0.toInt + 1 ≤ (p0.toInt + 1) from by first | exact oz_5323360a91 | omega) (show 0 ≤ z235.toInt from by first | exact rz235.1 | omega) (show z235.toInt < (tf 6).toInt from by first | exact oz_7fe81129bf rz235.2 | omega) (show p0.toInt + 1 ≤ (p0.toInt + 1) from by first | exact oz_a1bc7e1f12 | omega) (show (p0.toInt + 1) ≤ hi from by first | exact oz_8cd8185cc8 hrg.2.1 | omega) (show RcR ta (tf 6).toInt na ma0 d (p0.toInt + 1) hi z288 from hrr) (show KbI ma287 p0 (0 : Int) (cod v244.toInt v237.toInt) from (fun h => by omega)) (show ZTa cf259 (Gk ta ca na ma0 ns ys nf) na ma287 (p0.toInt + 1) (p0.toInt + 1) (cod v244.toInt v237.toInt) (na 17 p0.toNatClampNeg) z288 (0 : Int) from (fun _ => by rw [← ez288]; exact tya_0)) (show K_mp_checkCall_94 (RL_mp_check d) tf ta na ca p0 ma cf ma287 cf259 z235 v237 v244 0 0 z288 from (fun y_f0 y_f1 y_v k hE => Exists.intro (k + 1) (Or.inl ⟨rfl, z235, ez235, v237, e240, Or.inl ⟨nc241, v244, e247, v249, e254, Or.inl ⟨nc255, cf259, e281, Or.inr ⟨nc282, ma287, hu_ma287, z288, ez288, hE⟩⟩⟩⟩))) (show hi - (p0.toInt + 1) < ((((hi - (p0.toInt + 1)).toNat + 1 : Nat) : Int) : Int) from by first | exact oz_natlt | omega) hw (lv_sub hl [6, 7, 5, 4, 3, 2, 1, 0] rfl))
    · have nc255 : ¬ (0 : Int) ≤ v249.toInt := mt (i_le (x := 0) (y := v249)).mpr c255
      refine lv_iload_n S.x S.b d_Mpg_checkCall_37 rfl (lv_at hl 1 rfl) ?_
      refine lv_if_ge (tgt := 46) S.x S.b d_Mpg_checkCall_38 (by decide) (fun c289 => ?_) (fun c289 => ?_)
      · have nc289 : (0 : Int) ≤ v237.toInt := (i_le (x := 0) (y := v237)).mp c289
        refine lv_iconst (v := 1) S.x S.b d_Mpg_checkCall_46 (by decide) ?_
        refine lv_goto (tgt := 51) S.x S.b d_Mpg_checkCall_47 (by decide) ?_
        refine lv_istore (lv' := [(5, .int 1), (4, .int v244), (3, .int v237), (2, .int z235), (0, .ref h), (1, .int p0)]) S.x S.b d_Mpg_checkCall_51 hl (by decide) rfl (fun ls hl => ?_)
        refine lv_iload S.x S.b d_Mpg_checkCall_53 (lv_at hl 0 rfl) ?_
        refine lv_if_ne (tgt := 64) S.x S.b d_Mpg_checkCall_55 (by decide) (fun c291 => ?_) (fun c291 => ?_)
        ·
          refine lv_aload_n S.x S.b d_Mpg_checkCall_64 rfl (lv_at hl 4 rfl) ?_
          refine gP_18 S hT hw 0 rfl m10_3 d_Mpg_checkCall_65 ?_
          refine lv_iload_n S.x S.b d_Mpg_checkCall_68 rfl (lv_at hl 5 rfl) ?_
          refine lv_iload_n S.x S.b d_Mpg_checkCall_69 rfl (lv_at hl 2 rfl) ?_
          refine lv_if_lt (tgt := 77) S.x S.b d_Mpg_checkCall_70 (by decide) (fun c292 => ?_) (fun c292 => ?_)
          · have nc292 : v237.toInt < (0 : Int) := (i_lt (x := v237) (y := 0)).mp c292
            refine lv_bipush (v := 100) S.x S.b d_Mpg_checkCall_77 (by decide) ?_
            refine lv_iload S.x S.b d_Mpg_checkCall_79 (lv_at hl 1 rfl) ?_
            refine lv_iadd S.x S.b d_Mpg_checkCall_81 ?_
            refine lv_topi (fun z294 ez294 => ?_)
            have tz294 : z294.toInt = ((100 : Int) + v244.toInt + 2147483648) % 4294967296 - 2147483648 := by rw [ez294]; exact i_add 100 v244
            have lz294 := Int32.le_toInt z294
            have uz294 := Int32.toInt_lt z294
            try replace tz294 : z294.toInt = (100 : Int) + v244.toInt := by omega
            refine px_iast S hT hw 0 14 (n := 2100) (f := (ma 18)) (x := p0) (y := z294) rfl gp_18 (vp_in_iff.mpr (by constructor <;> omega)) d_Mpg_checkCall_82 (w' := wdP cs h r g tf ta pf na (va_up ma 18 (upd (ma 18) p0.toNatClampNeg z294)) wa cf ca ef ea xf xa) (ps' := [wdP cs h r g tf ta pf na (va_up ma 18 (upd (ma 18) p0.toNatClampNeg z294)) wa cf ca ef ea xf xa]) sp_18 rfl (fun H locs hw => ?_)
            obtain ⟨ma295, hu_ma295⟩ : ∃ y : Nat → Nat → Int32, y = va_up ma 18 (upd (ma 18) p0.toNatClampNeg z294) := ⟨_, rfl⟩
            have hw : pw D A s.heap _ _ [wdP cs h r g tf ta pf na ma295 wa cf ca ef ea xf xa] := (by rw [hu_ma295]; exact hw)
            have hf1_ma295 : FrC p0.toInt (p0.toInt + 1) ma ma295 := (by rw [hu_ma295]; exact FrC.w FrC.rf (by omega) (by omega) (by omega))
            have han : Ann na ma0 ma295 := (by rw [hu_ma295]; exact Ann.w18 han (by omega))
            have hfc := hfc.tr hf1_ma295 (by omega) (by omega)
            have hv_18_p0 : ma295 18 p0.toNatClampNeg = z294 := (by rw [hu_ma295, va_up_s, pk_us])
            have hnhv_18_p0 : (ma295 18 p0.toNatClampNeg).toInt = z294.toInt := (by rw [hv_18_p0])
            have hcd1 : v244.toInt < 0 → cod v244.toInt v237.toInt = v237.toInt := fun h => cod_own h; have hcd2 : 0 ≤ v244.toInt → cod v244.toInt v237.toInt = 100 + v244.toInt := fun h => cod_fun h
            refine lv_iconst (v := 0) S.x S.b d_Mpg_checkCall_83 (by decide) ?_
            refine lv_istore (lv' := [(6, .int 0), (5, .int 1), (4, .int v244), (3, .int v237), (2, .int z235), (0, .ref h), (1, .int p0)]) S.x S.b d_Mpg_checkCall_84 hl (by decide) rfl (fun ls hl => ?_)
            refine lv_aload_n S.x S.b d_Mpg_checkCall_86 rfl (lv_at hl 5 rfl) ?_
            refine gP_17 S hT hw 0 rfl m10_1 d_Mpg_checkCall_87 ?_
            refine lv_iload_n S.x S.b d_Mpg_checkCall_90 rfl (lv_at hl 6 rfl) ?_
            refine px_iald S hT hw 0 13 (n := 2100) (f := (na 17)) rfl gp_17 (x := p0) (vp_in_iff.mpr (by first | exact oz_a7e05de1cd hrg.2.2 hrg.2.1 g1 g2 | (constructor <;> omega))) d_Mpg_checkCall_91 ?_
            refine lv_topi (fun z296 ez296 => ?_)
            have lz296 := Int32.le_toInt z296
            have uz296 := Int32.toInt_lt z296
            have hrr := EcV.k3 hec_p0 (by omega) ez296
            refine lv_istore (lv' := [(7, .int z296), (6, .int 0), (5, .int 1), (4, .int v244), (3, .int v237), (2, .int z235), (0, .ref h), (1, .int p0)]) S.x S.b d_Mpg_checkCall_92 hl (by decide) rfl (fun ls hl => ?_)
            first | exact J94 ((hi - (p0.toInt + 1)).toNat + 1) ma295 cf (p0.toInt + 1) z235 v237 v244 (1 : Int32) (0 : Int32) z296 _ _ ls (show KpE cf cf from hke) (show WrV cf (tf 6).toInt from hwr) (show (cf 33).toInt = (cf 33).toInt from rfl) (show (cf 38).toInt = (cf 38).toInt from rfl) (show (cf 48).toInt = (cf 48).toInt from rfl) (show (cf 46).toInt = (cf 46).toInt from rfl) (show (cf 47).toInt = (cf 47).toInt from rfl) (show (cf 57).toInt = (cf 57).toInt from rfl) (show Ann na ma0 ma295 from han) (show FrC lo hi ma ma295 from hfc) (show -1 ≤ v237.toInt from e238) (show v237.toInt ≤ 9 from e239) (show -1 ≤ v244.toInt from e245) (show v244.toInt < nf from (oz_3b93307734 g7 e246)) (show 0 ≤ (1 : Int) from oz_19c3a41681) (show (1 : Int) ≤ 1 from oz_f9181dc4bb) (show (1 : Int) = 1 → (0 ≤ v237.toInt ∧ v244.toInt = -1) ∨ (v237.toInt < 0 ∧ 0 ≤ v244.toInt) from by omega) (show (1 : Int) = 0 → 1 ≤ (cf 30).toInt from by omega) (show 0 ≤ (0 : Int) from oz_5a341f00aa) (show (0 : Int) + p0.toInt + 1 ≤ (p0.toInt + 1) from oz_5323360a91) (show 0 ≤ z235.toInt from rz235.1) (show z235.toInt < (tf 6).toInt from (oz_7fe81129bf rz235.2)) (show p0.toInt + 1 ≤ (p0.toInt + 1) from oz_a1bc7e1f12) (show (p0.toInt + 1) ≤ hi from (oz_8cd8185cc8 hrg.2.1)) (show RcR ta (tf 6).toInt na ma0 d (p0.toInt + 1) hi z296 from hrr) (show KbI ma295 p0 (1 : Int) (cod v244.toInt v237.toInt) from (fun h => by omega)) (show ZTa cf (Gk ta ca na ma0 ns ys nf) na ma295 (p0.toInt + 1) (p0.toInt + 1) (cod v244.toInt v237.toInt) (na 17 p0.toNatClampNeg) z296 (0 : Int) from (fun _ => by rw [← ez296]; exact tya_0)) (show K_mp_checkCall_94 (RL_mp_check d) tf ta na ca p0 ma cf ma295 cf z235 v237 v244 1 0 z296 from (fun y_f0 y_f1 y_v k hE => Exists.intro (k + 1) (Or.inl ⟨rfl, z235, ez235, v237, e240, Or.inl ⟨nc241, v244, e247, v249, e254, Or.inr ⟨nc255, Or.inl ⟨nc289, Or.inl ⟨nc292, z294, ez294, ma295, hu_ma295, z296, ez296, hE⟩⟩⟩⟩⟩))) (show hi - (p0.toInt + 1) < ((((hi - (p0.toInt + 1)).toNat + 1 : Nat) : Int) : Int) from oz_natlt) hw (lv_sub hl [6, 7, 5, 4, 3, 2, 1, 0] rfl) | (exact J94 ((hi - (p0.toInt + 1)).toNat + 1) ma295 cf (p0.toInt + 1) z235 v237 v244 (1 : Int32) (0 : Int32) z296 _ _ ls (show KpE cf cf from hke) (show WrV cf (tf 6).toInt from hwr) (show (cf 33).toInt = (cf 33).toInt from rfl) (show (cf 38).toInt = (cf 38).toInt from rfl) (show (cf 48).toInt = (cf 48).toInt from rfl) (show (cf 46).toInt = (cf 46).toInt from rfl) (show (cf 47).toInt = (cf 47).toInt from rfl) (show (cf 57).toInt = (cf 57).toInt from rfl) (show Ann na ma0 ma295 from han) (show FrC lo hi ma ma295 from hfc) (show -1 ≤ v237.toInt from by first | exact e238 | omega) (show v237.toInt ≤ 9 from by first | exact e239 | omega) (show -1 ≤ v244.toInt from by first | exact e245 | omega) (show v244.toInt < nf from by first | exact oz_3b93307734 g7 e246 | omega) (show 0 ≤ (1 : Int) from by first | exact oz_19c3a41681 | omega) (show (1 : Int) ≤ 1 from by first | exact oz_f9181dc4bb | omega) (show (1 : Int) = 1 → (0 ≤ v237.toInt ∧ v244.toInt = -1) ∨ (v237.toInt < 0 ∧ 0 ≤ v244.toInt) from by omega) (show (1 : Int) = 0 → 1 ≤ (cf 30).toInt from by omega) (show 0 ≤ (0 : Int) from by first | exact oz_5a341f00aa | omega) (show (0 : Int) + p0.toInt + 1 ≤ (p0.toInt + 1) from by first | exact oz_5323360a91 | omega) (show 0 ≤ z235.toInt from by first | exact rz235.1 | omega) (show z235.toInt < (tf 6).toInt from by first | exact oz_7fe81129bf rz235.2 | omega) (show p0.toInt + 1 ≤ (p0.toInt + 1) from by first | exact oz_a1bc7e1f12 | omega) (show (p0.toInt + 1) ≤ hi from by first | exact oz_8cd8185cc8 hrg.2.1 | omega) (show RcR ta (tf 6).toInt na ma0 d (p0.toInt + 1) hi z296 from hrr) (show KbI ma295 p0 (1 : Int) (cod v244.toInt v237.toInt) from (fun h => by omega)) (show ZTa cf (Gk ta ca na ma0 ns ys nf) na ma295 (p0.toInt + 1) (p0.toInt + 1) (cod v244.toInt v237.toInt) (na 17 p0.toNatClampNeg) z296 (0 : Int) from (fun _ => by rw [← ez296]; exact tya_0)) (show K_mp_checkCall_94 (RL_mp_check d) tf ta na ca p0 ma cf ma295 cf z235 v237 v244 1 0 z296 from (fun y_f0 y_f1 y_v k hE => Exists.intro (k + 1) (Or.inl ⟨rfl, z235, ez235, v237, e240, Or.inl ⟨nc241, v244, e247, v249, e254, Or.inr ⟨nc255, Or.inl ⟨nc289, Or.inl ⟨nc292, z294, ez294, ma295, hu_ma295, z296, ez296, hE⟩⟩⟩⟩⟩))) (show hi - (p0.toInt + 1) < ((((hi - (p0.toInt + 1)).toNat + 1 : Nat) : Int) : Int) from by first | exact oz_natlt | omega) hw (lv_sub hl [6, 7, 5, 4, 3, 2, 1, 0] rfl))
          · have nc292 : ¬ v237.toInt < (0 : Int) := mt (i_lt (x := v237) (y := 0)).mpr c292
            refine lv_iload_n S.x S.b d_Mpg_checkCall_73 rfl (lv_at hl 2 rfl) ?_
            refine lv_goto (tgt := 82) S.x S.b d_Mpg_checkCall_74 (by decide) ?_
            refine px_iast S hT hw 0 14 (n := 2100) (f := (ma 18)) (x := p0) (y := v237) rfl gp_18 (vp_in_iff.mpr (by constructor <;> omega)) d_Mpg_checkCall_82 (w' := wdP cs h r g tf ta pf na (va_up ma 18 (upd (ma 18) p0.toNatClampNeg v237)) wa cf ca ef ea xf xa) (ps' := [wdP cs h r g tf ta pf na (va_up ma 18 (upd (ma 18) p0.toNatClampNeg v237)) wa cf ca ef ea xf xa]) sp_18 rfl (fun H locs hw => ?_)
            obtain ⟨ma297, hu_ma297⟩ : ∃ y : Nat → Nat → Int32, y = va_up ma 18 (upd (ma 18) p0.toNatClampNeg v237) := ⟨_, rfl⟩
            have hw : pw D A s.heap _ _ [wdP cs h r g tf ta pf na ma297 wa cf ca ef ea xf xa] := (by rw [hu_ma297]; exact hw)
            have hf1_ma297 : FrC p0.toInt (p0.toInt + 1) ma ma297 := (by rw [hu_ma297]; exact FrC.w FrC.rf (by omega) (by omega) (by omega))
            have han : Ann na ma0 ma297 := (by rw [hu_ma297]; exact Ann.w18 han (by omega))
            have hfc := hfc.tr hf1_ma297 (by omega) (by omega)
            have hv_18_p0 : ma297 18 p0.toNatClampNeg = v237 := (by rw [hu_ma297, va_up_s, pk_us])
            have hnhv_18_p0 : (ma297 18 p0.toNatClampNeg).toInt = v237.toInt := (by rw [hv_18_p0])
            have hcd1 : v244.toInt < 0 → cod v244.toInt v237.toInt = v237.toInt := fun h => cod_own h; have hcd2 : 0 ≤ v244.toInt → cod v244.toInt v237.toInt = 100 + v244.toInt := fun h => cod_fun h
            refine lv_iconst (v := 0) S.x S.b d_Mpg_checkCall_83 (by decide) ?_
            refine lv_istore (lv' := [(6, .int 0), (5, .int 1), (4, .int v244), (3, .int v237), (2, .int z235), (0, .ref h), (1, .int p0)]) S.x S.b d_Mpg_checkCall_84 hl (by decide) rfl (fun ls hl => ?_)
            refine lv_aload_n S.x S.b d_Mpg_checkCall_86 rfl (lv_at hl 5 rfl) ?_
            refine gP_17 S hT hw 0 rfl m10_1 d_Mpg_checkCall_87 ?_
            refine lv_iload_n S.x S.b d_Mpg_checkCall_90 rfl (lv_at hl 6 rfl) ?_
            refine px_iald S hT hw 0 13 (n := 2100) (f := (na 17)) rfl gp_17 (x := p0) (vp_in_iff.mpr (by first | exact oz_a7e05de1cd hrg.2.2 hrg.2.1 g1 g2 | (constructor <;> omega))) d_Mpg_checkCall_91 ?_
            refine lv_topi (fun z298 ez298 => ?_)
            have lz298 := Int32.le_toInt z298
            have uz298 := Int32.toInt_lt z298
            have hrr := EcV.k3 hec_p0 (by omega) ez298
            refine lv_istore (lv' := [(7, .int z298), (6, .int 0), (5, .int 1), (4, .int v244), (3, .int v237), (2, .int z235), (0, .ref h), (1, .int p0)]) S.x S.b d_Mpg_checkCall_92 hl (by decide) rfl (fun ls hl => ?_)
            first | exact J94 ((hi - (p0.toInt + 1)).toNat + 1) ma297 cf (p0.toInt + 1) z235 v237 v244 (1 : Int32) (0 : Int32) z298 _ _ ls (show KpE cf cf from hke) (show WrV cf (tf 6).toInt from hwr) (show (cf 33).toInt = (cf 33).toInt from rfl) (show (cf 38).toInt = (cf 38).toInt from rfl) (show (cf 48).toInt = (cf 48).toInt from rfl) (show (cf 46).toInt = (cf 46).toInt from rfl) (show (cf 47).toInt = (cf 47).toInt from rfl) (show (cf 57).toInt = (cf 57).toInt from rfl) (show Ann na ma0 ma297 from han) (show FrC lo hi ma ma297 from hfc) (show -1 ≤ v237.toInt from e238) (show v237.toInt ≤ 9 from e239) (show -1 ≤ v244.toInt from e245) (show v244.toInt < nf from (oz_3b93307734 g7 e246)) (show 0 ≤ (1 : Int) from oz_19c3a41681) (show (1 : Int) ≤ 1 from oz_f9181dc4bb) (show (1 : Int) = 1 → (0 ≤ v237.toInt ∧ v244.toInt = -1) ∨ (v237.toInt < 0 ∧ 0 ≤ v244.toInt) from by omega) (show (1 : Int) = 0 → 1 ≤ (cf 30).toInt from by omega) (show 0 ≤ (0 : Int) from oz_5a341f00aa) (show (0 : Int) + p0.toInt + 1 ≤ (p0.toInt + 1) from oz_5323360a91) (show 0 ≤ z235.toInt from rz235.1) (show z235.toInt < (tf 6).toInt from (oz_7fe81129bf rz235.2)) (show p0.toInt + 1 ≤ (p0.toInt + 1) from oz_a1bc7e1f12) (show (p0.toInt + 1) ≤ hi from (oz_8cd8185cc8 hrg.2.1)) (show RcR ta (tf 6).toInt na ma0 d (p0.toInt + 1) hi z298 from hrr) (show KbI ma297 p0 (1 : Int) (cod v244.toInt v237.toInt) from (fun h => by omega)) (show ZTa cf (Gk ta ca na ma0 ns ys nf) na ma297 (p0.toInt + 1) (p0.toInt + 1) (cod v244.toInt v237.toInt) (na 17 p0.toNatClampNeg) z298 (0 : Int) from (fun _ => by rw [← ez298]; exact tya_0)) (show K_mp_checkCall_94 (RL_mp_check d) tf ta na ca p0 ma cf ma297 cf z235 v237 v244 1 0 z298 from (fun y_f0 y_f1 y_v k hE => Exists.intro (k + 1) (Or.inl ⟨rfl, z235, ez235, v237, e240, Or.inl ⟨nc241, v244, e247, v249, e254, Or.inr ⟨nc255, Or.inl ⟨nc289, Or.inr ⟨nc292, ma297, hu_ma297, z298, ez298, hE⟩⟩⟩⟩⟩))) (show hi - (p0.toInt + 1) < ((((hi - (p0.toInt + 1)).toNat + 1 : Nat) : Int) : Int) from oz_natlt) hw (lv_sub hl [6, 7, 5, 4, 3, 2, 1, 0] rfl) | (exact J94 ((hi - (p0.toInt + 1)).toNat + 1) ma297 cf (p0.toInt + 1) z235 v237 v244 (1 : Int32) (0 : Int32) z298 _ _ ls (show KpE cf cf from hke) (show WrV cf (tf 6).toInt from hwr) (show (cf 33).toInt = (cf 33).toInt from rfl) (show (cf 38).toInt = (cf 38).toInt from rfl) (show (cf 48).toInt = (cf 48).toInt from rfl) (show (cf 46).toInt = (cf 46).toInt from rfl) (show (cf 47).toInt = (cf 47).toInt from rfl) (show (cf 57).toInt = (cf 57).toInt from rfl) (show Ann na ma0 ma297 from han) (show FrC lo hi ma ma297 from hfc) (show -1 ≤ v237.toInt from by first | exact e238 | omega) (show v237.toInt ≤ 9 from by first | exact e239 | omega) (show -1 ≤ v244.toInt from by first | exact e245 | omega) (show v244.toInt < nf from by first | exact oz_3b93307734 g7 e246 | omega) (show 0 ≤ (1 : Int) from by first | exact oz_19c3a41681 | omega) (show (1 : Int) ≤ 1 from by first | exact oz_f9181dc4bb | omega) (show (1 : Int) = 1 → (0 ≤ v237.toInt ∧ v244.toInt = -1) ∨ (v237.toInt < 0 ∧ 0 ≤ v244.toInt) from by omega) (show (1 : Int) = 0 → 1 ≤ (cf 30).toInt from by omega) (show 0 ≤ (0 : Int) from by first | exact oz_5a341f00aa | omega) (show (0 : Int) + p0.toInt + 1 ≤ (p0.toInt + 1) from by first | exact oz_5323360a91 | omega) (show 0 ≤ z235.toInt from by first | exact rz235.1 | omega) (show z235.toInt < (tf 6).toInt from by first | exact oz_7fe81129bf rz235.2 | omega) (show p0.toInt + 1 ≤ (p0.toInt + 1) from by first | exact oz_a1bc7e1f12 | omega) (show (p0.toInt + 1) ≤ hi from by first | exact oz_8cd8185cc8 hrg.2.1 | omega) (show RcR ta (tf 6).toInt na ma0 d (p0.toInt + 1) hi z298 from hrr) (show KbI ma297 p0 (1 : Int) (cod v244.toInt v237.toInt) from (fun h => by omega)) (show ZTa cf (Gk ta ca na ma0 ns ys nf) na ma297 (p0.toInt + 1) (p0.toInt + 1) (cod v244.toInt v237.toInt) (na 17 p0.toNatClampNeg) z298 (0 : Int) from (fun _ => by rw [← ez298]; exact tya_0)) (show K_mp_checkCall_94 (RL_mp_check d) tf ta na ca p0 ma cf ma297 cf z235 v237 v244 1 0 z298 from (fun y_f0 y_f1 y_v k hE => Exists.intro (k + 1) (Or.inl ⟨rfl, z235, ez235, v237, e240, Or.inl ⟨nc241, v244, e247, v249, e254, Or.inr ⟨nc255, Or.inl ⟨nc289, Or.inr ⟨nc292, ma297, hu_ma297, z298, ez298, hE⟩⟩⟩⟩⟩))) (show hi - (p0.toInt + 1) < ((((hi - (p0.toInt + 1)).toNat + 1 : Nat) : Int) : Int) from by first | exact oz_natlt | omega) hw (lv_sub hl [6, 7, 5, 4, 3, 2, 1, 0] rfl))
        · exact absurd c291 (by decide)
      · have nc289 : ¬ (0 : Int) ≤ v237.toInt := mt (i_le (x := 0) (y := v237)).mpr c289
        refine lv_iload S.x S.b d_Mpg_checkCall_41 (lv_at hl 0 rfl) ?_
        refine lv_if_lt (tgt := 50) S.x S.b d_Mpg_checkCall_43 (by decide) (fun c299 => ?_) (fun c299 => ?_)
        · have nc299 : v244.toInt < (0 : Int) := (i_lt (x := v244) (y := 0)).mp c299
          refine lv_iconst (v := 0) S.x S.b d_Mpg_checkCall_50 (by decide) ?_
          refine lv_istore (lv' := [(5, .int 0), (4, .int v244), (3, .int v237), (2, .int z235), (0, .ref h), (1, .int p0)]) S.x S.b d_Mpg_checkCall_51 hl (by decide) rfl (fun ls hl => ?_)
          refine lv_iload S.x S.b d_Mpg_checkCall_53 (lv_at hl 0 rfl) ?_
          refine lv_if_ne (tgt := 64) S.x S.b d_Mpg_checkCall_55 (by decide) (fun c301 => ?_) (fun c301 => ?_)
          · exact absurd c301 (by decide)
          ·
            refine lv_aload_n S.x S.b d_Mpg_checkCall_58 rfl (lv_at hl 4 rfl) ?_
            refine lv_iconst (v := 2) S.x S.b d_Mpg_checkCall_59 (by decide) ?_
            refine lv_iload_n S.x S.b d_Mpg_checkCall_60 rfl (lv_at hl 3 rfl) ?_
            first | refine px_callv (pr := []) (px_runV (As := [.int 2, .int z235]) (rest := []) S (c_mp_bad l D cs h r g tf ta pf na ma wa ca ef ea xf xa cf 2 z235  (show 1 ≤ (2 : Int) from oz_eaf798137c) (show 0 ≤ z235.toInt from rz235.1) (show z235.toInt < (tf 6).toInt from (oz_7fe81129bf rz235.2)) htk hwr _) hT (pr := []) (pcs := [wdP cs h r g tf ta pf na ma wa cf ca ef ea xf xa]) hw px_X.tt (px_recv hT hw 0 0 rfl rfl rfl) m12_173 m12_170 m12_172 ms_11_12 m1_21 q_Mpg_bad ⟨show 0 + 1 ≤ (4 * d + 14) from (oz_90c46cace3), show 8 + (3 + 11) + 0 ≤ (200 * d + 540) from (oz_2ba881113e)⟩ hl.1 rfl (Nat.le_of_ble_eq_true rfl) d_Mpg_checkCall_61 ⟨Nat.le_of_ble_eq_true rfl, Nat.le_of_ble_eq_true rfl⟩) hw hA (fun p304 H locs hp304 hw => ?_) | (refine px_callv (pr := []) (px_runV (As := [.int 2, .int z235]) (rest := []) S (c_mp_bad l D cs h r g tf ta pf na ma wa ca ef ea xf xa cf 2 z235  (show 1 ≤ (2 : Int) from by first | exact oz_eaf798137c | omega) (show 0 ≤ z235.toInt from by first | exact rz235.1 | omega) (show z235.toInt < (tf 6).toInt from by first | exact oz_7fe81129bf rz235.2 | omega) htk hwr _) hT (pr := []) (pcs := [wdP cs h r g tf ta pf na ma wa cf ca ef ea xf xa]) hw px_X.tt (px_recv hT hw 0 0 rfl rfl rfl) m12_173 m12_170 m12_172 ms_11_12 m1_21 q_Mpg_bad ⟨show 0 + 1 ≤ (4 * d + 14) from (by first | exact oz_90c46cace3 | omega), show 8 + (3 + 11) + 0 ≤ (200 * d + 540) from (by first | exact oz_2ba881113e | omega)⟩ hl.1 rfl (Nat.le_of_ble_eq_true rfl) d_Mpg_checkCall_61 ⟨Nat.le_of_ble_eq_true rfl, Nat.le_of_ble_eq_true rfl⟩) hw hA (fun p304 H locs hp304 hw => ?_))
            obtain ⟨cf303, rfl, e306, e307, e308, e309, e310, e311, e312, e313, e314, e315, e316, e317, e318, e319, e320, e321, e322, e323, e324, e325⟩ := hp304
            have e306 : KpE cf cf303 := e306
            have hke := (hke).tr e306
            have hkz_e306 := e306.2
            have e307 : WrV cf303 (tf 6).toInt := e307
            have hwr := e307
            have hw0_e307 := hwr.1
            have e308 : 1 ≤ (cf303 30).toInt := e308
            have e309 : (cf303 33).toInt = (cf 33).toInt := e309
            have e310 : (cf303 38).toInt = (cf 38).toInt := e310
            have e311 : (cf303 48).toInt = (cf 48).toInt := e311
            have e312 : (cf303 46).toInt = (cf 46).toInt := e312
            have e313 : (cf303 47).toInt = (cf 47).toInt := e313
            have e314 : (cf303 57).toInt = (cf 57).toInt := e314
            have e315 : (cf303 37).toInt = (cf 37).toInt := e315
            have e316 : (cf303 42).toInt = (cf 42).toInt := e316
            have e317 : (cf303 43).toInt = (cf 43).toInt := e317
            have e318 : (cf303 44).toInt = (cf 44).toInt := e318
            have e319 : (cf303 45).toInt = (cf 45).toInt := e319
            have e320 : (cf303 54).toInt = (cf 54).toInt := e320
            have e321 : (cf303 55).toInt = (cf 55).toInt := e321
            have e322 : (cf303 58).toInt = (cf 58).toInt := e322
            have e323 : (cf303 59).toInt = (cf 59).toInt := e323
            have e324 : (cf303 41).toInt = (cf 41).toInt := e324
            have e325 : R_mp_bad (2 : Int32) z235 cf cf303 := e325
            refine lv_aload_n S.x S.b d_Mpg_checkCall_64 rfl (lv_at hl 4 rfl) ?_
            refine gP_18 S hT hw 0 rfl m10_3 d_Mpg_checkCall_65 ?_
            refine lv_iload_n S.x S.b d_Mpg_checkCall_68 rfl (lv_at hl 5 rfl) ?_
            refine lv_iload_n S.x S.b d_Mpg_checkCall_69 rfl (lv_at hl 2 rfl) ?_
            refine lv_if_lt (tgt := 77) S.x S.b d_Mpg_checkCall_70 (by decide) (fun c326 => ?_) (fun c326 => ?_)
            · have nc326 : v237.toInt < (0 : Int) := (i_lt (x := v237) (y := 0)).mp c326
              refine lv_bipush (v := 100) S.x S.b d_Mpg_checkCall_77 (by decide) ?_
              refine lv_iload S.x S.b d_Mpg_checkCall_79 (lv_at hl 1 rfl) ?_
              refine lv_iadd S.x S.b d_Mpg_checkCall_81 ?_
              refine lv_topi (fun z328 ez328 => ?_)
              have tz328 : z328.toInt = ((100 : Int) + v244.toInt + 2147483648) % 4294967296 - 2147483648 := by rw [ez328]; exact i_add 100 v244
              have lz328 := Int32.le_toInt z328
              have uz328 := Int32.toInt_lt z328
              try replace tz328 : z328.toInt = (100 : Int) + v244.toInt := by omega
              refine px_iast S hT hw 0 14 (n := 2100) (f := (ma 18)) (x := p0) (y := z328) rfl gp_18 (vp_in_iff.mpr (by constructor <;> omega)) d_Mpg_checkCall_82 (w' := wdP cs h r g tf ta pf na (va_up ma 18 (upd (ma 18) p0.toNatClampNeg z328)) wa cf303 ca ef ea xf xa) (ps' := [wdP cs h r g tf ta pf na (va_up ma 18 (upd (ma 18) p0.toNatClampNeg z328)) wa cf303 ca ef ea xf xa]) sp_18 rfl (fun H locs hw => ?_)
              obtain ⟨ma329, hu_ma329⟩ : ∃ y : Nat → Nat → Int32, y = va_up ma 18 (upd (ma 18) p0.toNatClampNeg z328) := ⟨_, rfl⟩
              have hw : pw D A s.heap _ _ [wdP cs h r g tf ta pf na ma329 wa cf303 ca ef ea xf xa] := (by rw [hu_ma329]; exact hw)
              have hf1_ma329 : FrC p0.toInt (p0.toInt + 1) ma ma329 := (by rw [hu_ma329]; exact FrC.w FrC.rf (by omega) (by omega) (by omega))
              have han : Ann na ma0 ma329 := (by rw [hu_ma329]; exact Ann.w18 han (by omega))
              have hfc := hfc.tr hf1_ma329 (by omega) (by omega)
              have hv_18_p0 : ma329 18 p0.toNatClampNeg = z328 := (by rw [hu_ma329, va_up_s, pk_us])
              have hnhv_18_p0 : (ma329 18 p0.toNatClampNeg).toInt = z328.toInt := (by rw [hv_18_p0])
              have hcd1 : v244.toInt < 0 → cod v244.toInt v237.toInt = v237.toInt := fun h => cod_own h; have hcd2 : 0 ≤ v244.toInt → cod v244.toInt v237.toInt = 100 + v244.toInt := fun h => cod_fun h
              refine lv_iconst (v := 0) S.x S.b d_Mpg_checkCall_83 (by decide) ?_
              refine lv_istore (lv' := [(6, .int 0), (5, .int 0), (4, .int v244), (3, .int v237), (2, .int z235), (0, .ref h), (1, .int p0)]) S.x S.b d_Mpg_checkCall_84 hl (by decide) rfl (fun ls hl => ?_)
              refine lv_aload_n S.x S.b d_Mpg_checkCall_86 rfl (lv_at hl 5 rfl) ?_
              refine gP_17 S hT hw 0 rfl m10_1 d_Mpg_checkCall_87 ?_
              refine lv_iload_n S.x S.b d_Mpg_checkCall_90 rfl (lv_at hl 6 rfl) ?_
              refine px_iald S hT hw 0 13 (n := 2100) (f := (na 17)) rfl gp_17 (x := p0) (vp_in_iff.mpr (by first | exact oz_a7e05de1cd hrg.2.2 hrg.2.1 g1 g2 | (constructor <;> omega))) d_Mpg_checkCall_91 ?_
              refine lv_topi (fun z330 ez330 => ?_)
              have lz330 := Int32.le_toInt z330
              have uz330 := Int32.toInt_lt z330
              have hrr := EcV.k3 hec_p0 (by omega) ez330
              refine lv_istore (lv' := [(7, .int z330), (6, .int 0), (5, .int 0), (4, .int v244), (3, .int v237), (2, .int z235), (0, .ref h), (1, .int p0)]) S.x S.b d_Mpg_checkCall_92 hl (by decide) rfl (fun ls hl => ?_)
              first | exact J94 ((hi - (p0.toInt + 1)).toNat + 1) ma329 cf303 (p0.toInt + 1) z235 v237 v244 (0 : Int32) (0 : Int32) z330 _ _ ls (show KpE cf cf303 from hke) (show WrV cf303 (tf 6).toInt from hwr) (show (cf303 33).toInt = (cf 33).toInt from e309) (show (cf303 38).toInt = (cf 38).toInt from e310) (show (cf303 48).toInt = (cf 48).toInt from e311) (show (cf303 46).toInt = (cf 46).toInt from e312) (show (cf303 47).toInt = (cf 47).toInt from e313) (show (cf303 57).toInt = (cf 57).toInt from e314) (show Ann na ma0 ma329 from han) (show FrC lo hi ma ma329 from hfc) (show -1 ≤ v237.toInt from e238) (show v237.toInt ≤ 9 from e239) (show -1 ≤ v244.toInt from e245) (show v244.toInt < nf from (oz_f437a3dc8c g8 nc299)) (show 0 ≤ (0 : Int) from oz_5a341f00aa) (show (0 : Int) ≤ 1 from oz_6e68cd0f48) (show (0 : Int) = 1 → (0 ≤ v237.toInt ∧ v244.toInt = -1) ∨ (v237.toInt < 0 ∧ 0 ≤ v244.toInt) from by omega) (show (0 : Int) = 0 → 1 ≤ (cf303 30).toInt from by omega) (show 0 ≤ (0 : Int) from oz_5a341f00aa) (show (0 : Int) + p0.toInt + 1 ≤ (p0.toInt + 1) from oz_5323360a91) (show 0 ≤ z235.toInt from rz235.1) (show z235.toInt < (tf 6).toInt from (oz_7fe81129bf rz235.2)) (show p0.toInt + 1 ≤ (p0.toInt + 1) from oz_a1bc7e1f12) (show (p0.toInt + 1) ≤ hi from (oz_8cd8185cc8 hrg.2.1)) (show RcR ta (tf 6).toInt na ma0 d (p0.toInt + 1) hi z330 from hrr) (show KbI ma329 p0 (0 : Int) (cod v244.toInt v237.toInt) from (fun h => by omega)) (show ZTa cf303 (Gk ta ca na ma0 ns ys nf) na ma329 (p0.toInt + 1) (p0.toInt + 1) (cod v244.toInt v237.toInt) (na 17 p0.toNatClampNeg) z330 (0 : Int) from (fun _ => by rw [← ez330]; exact tya_0)) (show K_mp_checkCall_94 (RL_mp_check d) tf ta na ca p0 ma cf ma329 cf303 z235 v237 v244 0 0 z330 from (fun y_f0 y_f1 y_v k hE => Exists.intro (k + 1) (Or.inl ⟨rfl, z235, ez235, v237, e240, Or.inl ⟨nc241, v244, e247, v249, e254, Or.inr ⟨nc255, Or.inr ⟨nc289, Or.inl ⟨nc299, cf303, e325, Or.inl ⟨nc326, z328, ez328, ma329, hu_ma329, z330, ez330, hE⟩⟩⟩⟩⟩⟩))) (show hi - (p0.toInt + 1) < ((((hi - (p0.toInt + 1)).toNat + 1 : Nat) : Int) : Int) from oz_natlt) hw (lv_sub hl [6, 7, 5, 4, 3, 2, 1, 0] rfl) | (exact J94 ((hi - (p0.toInt + 1)).toNat + 1) ma329 cf303 (p0.toInt + 1) z235 v237 v244 (0 : Int32) (0 : Int32) z330 _ _ ls (show KpE cf cf303 from hke) (show WrV cf303 (tf 6).toInt from hwr) (show (cf303 33).toInt = (cf 33).toInt from by first | exact e309 | omega) (show (cf303 38).toInt = (cf 38).toInt from by first | exact e310 | omega) (show (cf303 48).toInt = (cf 48).toInt from by first | exact e311 | omega) (show (cf303 46).toInt = (cf 46).toInt from by first | exact e312 | omega) (show (cf303 47).toInt = (cf 47).toInt from by first | exact e313 | omega) (show (cf303 57).toInt = (cf 57).toInt from by first | exact e314 | omega) (show Ann na ma0 ma329 from han) (show FrC lo hi ma ma329 from hfc) (show -1 ≤ v237.toInt from by first | exact e238 | omega) (show v237.toInt ≤ 9 from by first | exact e239 | omega) (show -1 ≤ v244.toInt from by first | exact e245 | omega) (show v244.toInt < nf from by first | exact oz_f437a3dc8c g8 nc299 | omega) (show 0 ≤ (0 : Int) from by first | exact oz_5a341f00aa | omega) (show (0 : Int) ≤ 1 from by first | exact oz_6e68cd0f48 | omega) (show (0 : Int) = 1 → (0 ≤ v237.toInt ∧ v244.toInt = -1) ∨ (v237.toInt < 0 ∧ 0 ≤ v244.toInt) from by omega) (show (0 : Int) = 0 → 1 ≤ (cf303 30).toInt from by omega) (show 0 ≤ (0 : Int) from by first | exact oz_5a341f00aa | omega) (show (0 : Int) + p0.toInt + 1 ≤ (p0.toInt + 1) from by first | exact oz_5323360a91 | omega) (show 0 ≤ z235.toInt from by first | exact rz235.1 | omega) (show z235.toInt < (tf 6).toInt from by first | exact oz_7fe81129bf rz235.2 | omega) (show p0.toInt + 1 ≤ (p0.toInt + 1) from by first | exact oz_a1bc7e1f12 | omega) (show (p0.toInt + 1) ≤ hi from by first | exact oz_8cd8185cc8 hrg.2.1 | omega) (show RcR ta (tf 6).toInt na ma0 d (p0.toInt + 1) hi z330 from hrr) (show KbI ma329 p0 (0 : Int) (cod v244.toInt v237.toInt) from (fun h => by omega)) (show ZTa cf303 (Gk ta ca na ma0 ns ys nf) na ma329 (p0.toInt + 1) (p0.toInt + 1) (cod v244.toInt v237.toInt) (na 17 p0.toNatClampNeg) z330 (0 : Int) from (fun _ => by rw [← ez330]; exact tya_0)) (show K_mp_checkCall_94 (RL_mp_check d) tf ta na ca p0 ma cf ma329 cf303 z235 v237 v244 0 0 z330 from (fun y_f0 y_f1 y_v k hE => Exists.intro (k + 1) (Or.inl ⟨rfl, z235, ez235, v237, e240, Or.inl ⟨nc241, v244, e247, v249, e254, Or.inr ⟨nc255, Or.inr ⟨nc289, Or.inl ⟨nc299, cf303, e325, Or.inl ⟨nc326, z328, ez328, ma329, hu_ma329, z330, ez330, hE⟩⟩⟩⟩⟩⟩))) (show hi - (p0.toInt + 1) < ((((hi - (p0.toInt + 1)).toNat + 1 : Nat) : Int) : Int) from by first | exact oz_natlt | omega) hw (lv_sub hl [6, 7, 5, 4, 3, 2, 1, 0] rfl))
            · have nc326 : ¬ v237.toInt < (0 : Int) := mt (i_lt (x := v237) (y := 0)).mpr c326
              refine lv_iload_n S.x S.b d_Mpg_checkCall_73 rfl (lv_at hl 2 rfl) ?_
              refine lv_goto (tgt := 82) S.x S.b d_Mpg_checkCall_74 (by decide) ?_
              refine px_iast S hT hw 0 14 (n := 2100) (f := (ma 18)) (x := p0) (y := v237) rfl gp_18 (vp_in_iff.mpr (by constructor <;> omega)) d_Mpg_checkCall_82 (w' := wdP cs h r g tf ta pf na (va_up ma 18 (upd (ma 18) p0.toNatClampNeg v237)) wa cf303 ca ef ea xf xa) (ps' := [wdP cs h r g tf ta pf na (va_up ma 18 (upd (ma 18) p0.toNatClampNeg v237)) wa cf303 ca ef ea xf xa]) sp_18 rfl (fun H locs hw => ?_)
              obtain ⟨ma331, hu_ma331⟩ : ∃ y : Nat → Nat → Int32, y = va_up ma 18 (upd (ma 18) p0.toNatClampNeg v237) := ⟨_, rfl⟩
              have hw : pw D A s.heap _ _ [wdP cs h r g tf ta pf na ma331 wa cf303 ca ef ea xf xa] := (by rw [hu_ma331]; exact hw)
              have hf1_ma331 : FrC p0.toInt (p0.toInt + 1) ma ma331 := (by rw [hu_ma331]; exact FrC.w FrC.rf (by omega) (by omega) (by omega))
              have han : Ann na ma0 ma331 := (by rw [hu_ma331]; exact Ann.w18 han (by omega))
              have hfc := hfc.tr hf1_ma331 (by omega) (by omega)
              have hv_18_p0 : ma331 18 p0.toNatClampNeg = v237 := (by rw [hu_ma331, va_up_s, pk_us])
              have hnhv_18_p0 : (ma331 18 p0.toNatClampNeg).toInt = v237.toInt := (by rw [hv_18_p0])
              have hcd1 : v244.toInt < 0 → cod v244.toInt v237.toInt = v237.toInt := fun h => cod_own h; have hcd2 : 0 ≤ v244.toInt → cod v244.toInt v237.toInt = 100 + v244.toInt := fun h => cod_fun h
              refine lv_iconst (v := 0) S.x S.b d_Mpg_checkCall_83 (by decide) ?_
              refine lv_istore (lv' := [(6, .int 0), (5, .int 0), (4, .int v244), (3, .int v237), (2, .int z235), (0, .ref h), (1, .int p0)]) S.x S.b d_Mpg_checkCall_84 hl (by decide) rfl (fun ls hl => ?_)
              refine lv_aload_n S.x S.b d_Mpg_checkCall_86 rfl (lv_at hl 5 rfl) ?_
              refine gP_17 S hT hw 0 rfl m10_1 d_Mpg_checkCall_87 ?_
              refine lv_iload_n S.x S.b d_Mpg_checkCall_90 rfl (lv_at hl 6 rfl) ?_
              refine px_iald S hT hw 0 13 (n := 2100) (f := (na 17)) rfl gp_17 (x := p0) (vp_in_iff.mpr (by first | exact oz_a7e05de1cd hrg.2.2 hrg.2.1 g1 g2 | (constructor <;> omega))) d_Mpg_checkCall_91 ?_
              refine lv_topi (fun z332 ez332 => ?_)
              have lz332 := Int32.le_toInt z332
              have uz332 := Int32.toInt_lt z332
              have hrr := EcV.k3 hec_p0 (by omega) ez332
              refine lv_istore (lv' := [(7, .int z332), (6, .int 0), (5, .int 0), (4, .int v244), (3, .int v237), (2, .int z235), (0, .ref h), (1, .int p0)]) S.x S.b d_Mpg_checkCall_92 hl (by decide) rfl (fun ls hl => ?_)
              first | exact J94 ((hi - (p0.toInt + 1)).toNat + 1) ma331 cf303 (p0.toInt + 1) z235 v237 v244 (0 : Int32) (0 : Int32) z332 _ _ ls (show KpE cf cf303 from hke) (show WrV cf303 (tf 6).toInt from hwr) (show (cf303 33).toInt = (cf 33).toInt from e309) (show (cf303 38).toInt = (cf 38).toInt from e310) (show (cf303 48).toInt = (cf 48).toInt from e311) (show (cf303 46).toInt = (cf 46).toInt from e312) (show (cf303 47).toInt = (cf 47).toInt from e313) (show (cf303 57).toInt = (cf 57).toInt from e314) (show Ann na ma0 ma331 from han) (show FrC lo hi ma ma331 from hfc) (show -1 ≤ v237.toInt from e238) (show v237.toInt ≤ 9 from e239) (show -1 ≤ v244.toInt from e245) (show v244.toInt < nf from (oz_f437a3dc8c g8 nc299)) (show 0 ≤ (0 : Int) from oz_5a341f00aa) (show (0 : Int) ≤ 1 from oz_6e68cd0f48) (show (0 : Int) = 1 → (0 ≤ v237.toInt ∧ v244.toInt = -1) ∨ (v237.toInt < 0 ∧ 0 ≤ v244.toInt) from by omega) (show (0 : Int) = 0 → 1 ≤ (cf303 30).toInt from by omega) (show 0 ≤ (0 : Int) from oz_5a341f00aa) (show (0 : Int) + p0.toInt + 1 ≤ (p0.toInt + 1) from oz_5323360a91) (show 0 ≤ z235.toInt from rz235.1) (show z235.toInt < (tf 6).toInt from (oz_7fe81129bf rz235.2)) (show p0.toInt + 1 ≤ (p0.toInt + 1) from oz_a1bc7e1f12) (show (p0.toInt + 1) ≤ hi from (oz_8cd8185cc8 hrg.2.1)) (show RcR ta (tf 6).toInt na ma0 d (p0.toInt + 1) hi z332 from hrr) (show KbI ma331 p0 (0 : Int) (cod v244.toInt v237.toInt) from (fun h => by omega)) (show ZTa cf303 (Gk ta ca na ma0 ns ys nf) na ma331 (p0.toInt + 1) (p0.toInt + 1) (cod v244.toInt v237.toInt) (na 17 p0.toNatClampNeg) z332 (0 : Int) from (fun _ => by rw [← ez332]; exact tya_0)) (show K_mp_checkCall_94 (RL_mp_check d) tf ta na ca p0 ma cf ma331 cf303 z235 v237 v244 0 0 z332 from (fun y_f0 y_f1 y_v k hE => Exists.intro (k + 1) (Or.inl ⟨rfl, z235, ez235, v237, e240, Or.inl ⟨nc241, v244, e247, v249, e254, Or.inr ⟨nc255, Or.inr ⟨nc289, Or.inl ⟨nc299, cf303, e325, Or.inr ⟨nc326, ma331, hu_ma331, z332, ez332, hE⟩⟩⟩⟩⟩⟩))) (show hi - (p0.toInt + 1) < ((((hi - (p0.toInt + 1)).toNat + 1 : Nat) : Int) : Int) from oz_natlt) hw (lv_sub hl [6, 7, 5, 4, 3, 2, 1, 0] rfl) | (exact J94 ((hi - (p0.toInt + 1)).toNat + 1) ma331 cf303 (p0.toInt + 1) z235 v237 v244 (0 : Int32) (0 : Int32) z332 _ _ ls (show KpE cf cf303 from hke) (show WrV cf303 (tf 6).toInt from hwr) (show (cf303 33).toInt = (cf 33).toInt from by first | exact e309 | omega) (show (cf303 38).toInt = (cf 38).toInt from by first | exact e310 | omega) (show (cf303 48).toInt = (cf 48).toInt from by first | exact e311 | omega) (show (cf303 46).toInt = (cf 46).toInt from by first | exact e312 | omega) (show (cf303 47).toInt = (cf 47).toInt from by first | exact e313 | omega) (show (cf303 57).toInt = (cf 57).toInt from by first | exact e314 | omega) (show Ann na ma0 ma331 from han) (show FrC lo hi ma ma331 from hfc) (show -1 ≤ v237.toInt from by first | exact e238 | omega) (show v237.toInt ≤ 9 from by first | exact e239 | omega) (show -1 ≤ v244.toInt from by first | exact e245 | omega) (show v244.toInt < nf from by first | exact oz_f437a3dc8c g8 nc299 | omega) (show 0 ≤ (0 : Int) from by first | exact oz_5a341f00aa | omega) (show (0 : Int) ≤ 1 from by first | exact oz_6e68cd0f48 | omega) (show (0 : Int) = 1 → (0 ≤ v237.toInt ∧ v244.toInt = -1) ∨ (v237.toInt < 0 ∧ 0 ≤ v244.toInt) from by omega) (show (0 : Int) = 0 → 1 ≤ (cf303 30).toInt from by omega) (show 0 ≤ (0 : Int) from by first | exact oz_5a341f00aa | omega) (show (0 : Int) + p0.toInt + 1 ≤ (p0.toInt + 1) from by first | exact oz_5323360a91 | omega) (show 0 ≤ z235.toInt from by first | exact rz235.1 | omega) (show z235.toInt < (tf 6).toInt from by first | exact oz_7fe81129bf rz235.2 | omega) (show p0.toInt + 1 ≤ (p0.toInt + 1) from by first | exact oz_a1bc7e1f12 | omega) (show (p0.toInt + 1) ≤ hi from by first | exact oz_8cd8185cc8 hrg.2.1 | omega) (show RcR ta (tf 6).toInt na ma0 d (p0.toInt + 1) hi z332 from hrr) (show KbI ma331 p0 (0 : Int) (cod v244.toInt v237.toInt) from (fun h => by omega)) (show ZTa cf303 (Gk ta ca na ma0 ns ys nf) na ma331 (p0.toInt + 1) (p0.toInt + 1) (cod v244.toInt v237.toInt) (na 17 p0.toNatClampNeg) z332 (0 : Int) from (fun _ => by rw [← ez332]; exact tya_0)) (show K_mp_checkCall_94 (RL_mp_check d) tf ta na ca p0 ma cf ma331 cf303 z235 v237 v244 0 0 z332 from (fun y_f0 y_f1 y_v k hE => Exists.intro (k + 1) (Or.inl ⟨rfl, z235, ez235, v237, e240, Or.inl ⟨nc241, v244, e247, v249, e254, Or.inr ⟨nc255, Or.inr ⟨nc289, Or.inl ⟨nc299, cf303, e325, Or.inr ⟨nc326, ma331, hu_ma331, z332, ez332, hE⟩⟩⟩⟩⟩⟩))) (show hi - (p0.toInt + 1) < ((((hi - (p0.toInt + 1)).toNat + 1 : Nat) : Int) : Int) from by first | exact oz_natlt | omega) hw (lv_sub hl [6, 7, 5, 4, 3, 2, 1, 0] rfl))
        · have nc299 : ¬ v244.toInt < (0 : Int) := mt (i_lt (x := v244) (y := 0)).mpr c299
          refine lv_iconst (v := 1) S.x S.b d_Mpg_checkCall_46 (by decide) ?_
          refine lv_goto (tgt := 51) S.x S.b d_Mpg_checkCall_47 (by decide) ?_
          refine lv_istore (lv' := [(5, .int 1), (4, .int v244), (3, .int v237), (2, .int z235), (0, .ref h), (1, .int p0)]) S.x S.b d_Mpg_checkCall_51 hl (by decide) rfl (fun ls hl => ?_)
          refine lv_iload S.x S.b d_Mpg_checkCall_53 (lv_at hl 0 rfl) ?_
          refine lv_if_ne (tgt := 64) S.x S.b d_Mpg_checkCall_55 (by decide) (fun c333 => ?_) (fun c333 => ?_)
          ·
            refine lv_aload_n S.x S.b d_Mpg_checkCall_64 rfl (lv_at hl 4 rfl) ?_
            refine gP_18 S hT hw 0 rfl m10_3 d_Mpg_checkCall_65 ?_
            refine lv_iload_n S.x S.b d_Mpg_checkCall_68 rfl (lv_at hl 5 rfl) ?_
            refine lv_iload_n S.x S.b d_Mpg_checkCall_69 rfl (lv_at hl 2 rfl) ?_
            refine lv_if_lt (tgt := 77) S.x S.b d_Mpg_checkCall_70 (by decide) (fun c334 => ?_) (fun c334 => ?_)
            · have nc334 : v237.toInt < (0 : Int) := (i_lt (x := v237) (y := 0)).mp c334
              refine lv_bipush (v := 100) S.x S.b d_Mpg_checkCall_77 (by decide) ?_
              refine lv_iload S.x S.b d_Mpg_checkCall_79 (lv_at hl 1 rfl) ?_
              refine lv_iadd S.x S.b d_Mpg_checkCall_81 ?_
              refine lv_topi (fun z336 ez336 => ?_)
              have tz336 : z336.toInt = ((100 : Int) + v244.toInt + 2147483648) % 4294967296 - 2147483648 := by rw [ez336]; exact i_add 100 v244
              have lz336 := Int32.le_toInt z336
              have uz336 := Int32.toInt_lt z336
              try replace tz336 : z336.toInt = (100 : Int) + v244.toInt := by omega
              refine px_iast S hT hw 0 14 (n := 2100) (f := (ma 18)) (x := p0) (y := z336) rfl gp_18 (vp_in_iff.mpr (by constructor <;> omega)) d_Mpg_checkCall_82 (w' := wdP cs h r g tf ta pf na (va_up ma 18 (upd (ma 18) p0.toNatClampNeg z336)) wa cf ca ef ea xf xa) (ps' := [wdP cs h r g tf ta pf na (va_up ma 18 (upd (ma 18) p0.toNatClampNeg z336)) wa cf ca ef ea xf xa]) sp_18 rfl (fun H locs hw => ?_)
              obtain ⟨ma337, hu_ma337⟩ : ∃ y : Nat → Nat → Int32, y = va_up ma 18 (upd (ma 18) p0.toNatClampNeg z336) := ⟨_, rfl⟩
              have hw : pw D A s.heap _ _ [wdP cs h r g tf ta pf na ma337 wa cf ca ef ea xf xa] := (by rw [hu_ma337]; exact hw)
              have hf1_ma337 : FrC p0.toInt (p0.toInt + 1) ma ma337 := (by rw [hu_ma337]; exact FrC.w FrC.rf (by omega) (by omega) (by omega))
              have han : Ann na ma0 ma337 := (by rw [hu_ma337]; exact Ann.w18 han (by omega))
              have hfc := hfc.tr hf1_ma337 (by omega) (by omega)
              have hv_18_p0 : ma337 18 p0.toNatClampNeg = z336 := (by rw [hu_ma337, va_up_s, pk_us])
              have hnhv_18_p0 : (ma337 18 p0.toNatClampNeg).toInt = z336.toInt := (by rw [hv_18_p0])
              have hcd1 : v244.toInt < 0 → cod v244.toInt v237.toInt = v237.toInt := fun h => cod_own h; have hcd2 : 0 ≤ v244.toInt → cod v244.toInt v237.toInt = 100 + v244.toInt := fun h => cod_fun h
              refine lv_iconst (v := 0) S.x S.b d_Mpg_checkCall_83 (by decide) ?_
              refine lv_istore (lv' := [(6, .int 0), (5, .int 1), (4, .int v244), (3, .int v237), (2, .int z235), (0, .ref h), (1, .int p0)]) S.x S.b d_Mpg_checkCall_84 hl (by decide) rfl (fun ls hl => ?_)
              refine lv_aload_n S.x S.b d_Mpg_checkCall_86 rfl (lv_at hl 5 rfl) ?_
              refine gP_17 S hT hw 0 rfl m10_1 d_Mpg_checkCall_87 ?_
              refine lv_iload_n S.x S.b d_Mpg_checkCall_90 rfl (lv_at hl 6 rfl) ?_
              refine px_iald S hT hw 0 13 (n := 2100) (f := (na 17)) rfl gp_17 (x := p0) (vp_in_iff.mpr (by first | exact oz_a7e05de1cd hrg.2.2 hrg.2.1 g1 g2 | (constructor <;> omega))) d_Mpg_checkCall_91 ?_
              refine lv_topi (fun z338 ez338 => ?_)
              have lz338 := Int32.le_toInt z338
              have uz338 := Int32.toInt_lt z338
              have hrr := EcV.k3 hec_p0 (by omega) ez338
              refine lv_istore (lv' := [(7, .int z338), (6, .int 0), (5, .int 1), (4, .int v244), (3, .int v237), (2, .int z235), (0, .ref h), (1, .int p0)]) S.x S.b d_Mpg_checkCall_92 hl (by decide) rfl (fun ls hl => ?_)
              first | exact J94 ((hi - (p0.toInt + 1)).toNat + 1) ma337 cf (p0.toInt + 1) z235 v237 v244 (1 : Int32) (0 : Int32) z338 _ _ ls (show KpE cf cf from hke) (show WrV cf (tf 6).toInt from hwr) (show (cf 33).toInt = (cf 33).toInt from rfl) (show (cf 38).toInt = (cf 38).toInt from rfl) (show (cf 48).toInt = (cf 48).toInt from rfl) (show (cf 46).toInt = (cf 46).toInt from rfl) (show (cf 47).toInt = (cf 47).toInt from rfl) (show (cf 57).toInt = (cf 57).toInt from rfl) (show Ann na ma0 ma337 from han) (show FrC lo hi ma ma337 from hfc) (show -1 ≤ v237.toInt from e238) (show v237.toInt ≤ 9 from e239) (show -1 ≤ v244.toInt from e245) (show v244.toInt < nf from (oz_3b93307734 g7 e246)) (show 0 ≤ (1 : Int) from oz_19c3a41681) (show (1 : Int) ≤ 1 from oz_f9181dc4bb) (show (1 : Int) = 1 → (0 ≤ v237.toInt ∧ v244.toInt = -1) ∨ (v237.toInt < 0 ∧ 0 ≤ v244.toInt) from by omega) (show (1 : Int) = 0 → 1 ≤ (cf 30).toInt from by omega) (show 0 ≤ (0 : Int) from oz_5a341f00aa) (show (0 : Int) + p0.toInt + 1 ≤ (p0.toInt + 1) from oz_5323360a91) (show 0 ≤ z235.toInt from rz235.1) (show z235.toInt < (tf 6).toInt from (oz_7fe81129bf rz235.2)) (show p0.toInt + 1 ≤ (p0.toInt + 1) from oz_a1bc7e1f12) (show (p0.toInt + 1) ≤ hi from (oz_8cd8185cc8 hrg.2.1)) (show RcR ta (tf 6).toInt na ma0 d (p0.toInt + 1) hi z338 from hrr) (show KbI ma337 p0 (1 : Int) (cod v244.toInt v237.toInt) from (fun h => by omega)) (show ZTa cf (Gk ta ca na ma0 ns ys nf) na ma337 (p0.toInt + 1) (p0.toInt + 1) (cod v244.toInt v237.toInt) (na 17 p0.toNatClampNeg) z338 (0 : Int) from (fun _ => by rw [← ez338]; exact tya_0)) (show K_mp_checkCall_94 (RL_mp_check d) tf ta na ca p0 ma cf ma337 cf z235 v237 v244 1 0 z338 from (fun y_f0 y_f1 y_v k hE => Exists.intro (k + 1) (Or.inl ⟨rfl, z235, ez235, v237, e240, Or.inl ⟨nc241, v244, e247, v249, e254, Or.inr ⟨nc255, Or.inr ⟨nc289, Or.inr ⟨nc299, Or.inl ⟨nc334, z336, ez336, ma337, hu_ma337, z338, ez338, hE⟩⟩⟩⟩⟩⟩))) (show hi - (p0.toInt + 1) < ((((hi - (p0.toInt + 1)).toNat + 1 : Nat) : Int) : Int) from oz_natlt) hw (lv_sub hl [6, 7, 5, 4, 3, 2, 1, 0] rfl) | (exact J94 ((hi - (p0.toInt + 1)).toNat + 1) ma337 cf (p0.toInt + 1) z235 v237 v244 (1 : Int32) (0 : Int32) z338 _ _ ls (show KpE cf cf from hke) (show WrV cf (tf 6).toInt from hwr) (show (cf 33).toInt = (cf 33).toInt from rfl) (show (cf 38).toInt = (cf 38).toInt from rfl) (show (cf 48).toInt = (cf 48).toInt from rfl) (show (cf 46).toInt = (cf 46).toInt from rfl) (show (cf 47).toInt = (cf 47).toInt from rfl) (show (cf 57).toInt = (cf 57).toInt from rfl) (show Ann na ma0 ma337 from han) (show FrC lo hi ma ma337 from hfc) (show -1 ≤ v237.toInt from by first | exact e238 | omega) (show v237.toInt ≤ 9 from by first | exact e239 | omega) (show -1 ≤ v244.toInt from by first | exact e245 | omega) (show v244.toInt < nf from by first | exact oz_3b93307734 g7 e246 | omega) (show 0 ≤ (1 : Int) from by first | exact oz_19c3a41681 | omega) (show (1 : Int) ≤ 1 from by first | exact oz_f9181dc4bb | omega) (show (1 : Int) = 1 → (0 ≤ v237.toInt ∧ v244.toInt = -1) ∨ (v237.toInt < 0 ∧ 0 ≤ v244.toInt) from by omega) (show (1 : Int) = 0 → 1 ≤ (cf 30).toInt from by omega) (show 0 ≤ (0 : Int) from by first | exact oz_5a341f00aa | omega) (show (0 : Int) + p0.toInt + 1 ≤ (p0.toInt + 1) from by first | exact oz_5323360a91 | omega) (show 0 ≤ z235.toInt from by first | exact rz235.1 | omega) (show z235.toInt < (tf 6).toInt from by first | exact oz_7fe81129bf rz235.2 | omega) (show p0.toInt + 1 ≤ (p0.toInt + 1) from by first | exact oz_a1bc7e1f12 | omega) (show (p0.toInt + 1) ≤ hi from by first | exact oz_8cd8185cc8 hrg.2.1 | omega) (show RcR ta (tf 6).toInt na ma0 d (p0.toInt + 1) hi z338 from hrr) (show KbI ma337 p0 (1 : Int) (cod v244.toInt v237.toInt) from (fun h => by omega)) (show ZTa cf (Gk ta ca na ma0 ns ys nf) na ma337 (p0.toInt + 1) (p0.toInt + 1) (cod v244.toInt v237.toInt) (na 17 p0.toNatClampNeg) z338 (0 : Int) from (fun _ => by rw [← ez338]; exact tya_0)) (show K_mp_checkCall_94 (RL_mp_check d) tf ta na ca p0 ma cf ma337 cf z235 v237 v244 1 0 z338 from (fun y_f0 y_f1 y_v k hE => Exists.intro (k + 1) (Or.inl ⟨rfl, z235, ez235, v237, e240, Or.inl ⟨nc241, v244, e247, v249, e254, Or.inr ⟨nc255, Or.inr ⟨nc289, Or.inr ⟨nc299, Or.inl ⟨nc334, z336, ez336, ma337, hu_ma337, z338, ez338, hE⟩⟩⟩⟩⟩⟩))) (show hi - (p0.toInt + 1) < ((((hi - (p0.toInt + 1)).toNat + 1 : Nat) : Int) : Int) from by first | exact oz_natlt | omega) hw (lv_sub hl [6, 7, 5, 4, 3, 2, 1, 0] rfl))
            · have nc334 : ¬ v237.toInt < (0 : Int) := mt (i_lt (x := v237) (y := 0)).mpr c334
              refine lv_iload_n S.x S.b d_Mpg_checkCall_73 rfl (lv_at hl 2 rfl) ?_
              refine lv_goto (tgt := 82) S.x S.b d_Mpg_checkCall_74 (by decide) ?_
              refine px_iast S hT hw 0 14 (n := 2100) (f := (ma 18)) (x := p0) (y := v237) rfl gp_18 (vp_in_iff.mpr (by constructor <;> omega)) d_Mpg_checkCall_82 (w' := wdP cs h r g tf ta pf na (va_up ma 18 (upd (ma 18) p0.toNatClampNeg v237)) wa cf ca ef ea xf xa) (ps' := [wdP cs h r g tf ta pf na (va_up ma 18 (upd (ma 18) p0.toNatClampNeg v237)) wa cf ca ef ea xf xa]) sp_18 rfl (fun H locs hw => ?_)
              obtain ⟨ma339, hu_ma339⟩ : ∃ y : Nat → Nat → Int32, y = va_up ma 18 (upd (ma 18) p0.toNatClampNeg v237) := ⟨_, rfl⟩
              have hw : pw D A s.heap _ _ [wdP cs h r g tf ta pf na ma339 wa cf ca ef ea xf xa] := (by rw [hu_ma339]; exact hw)
              have hf1_ma339 : FrC p0.toInt (p0.toInt + 1) ma ma339 := (by rw [hu_ma339]; exact FrC.w FrC.rf (by omega) (by omega) (by omega))
              have han : Ann na ma0 ma339 := (by rw [hu_ma339]; exact Ann.w18 han (by omega))
              have hfc := hfc.tr hf1_ma339 (by omega) (by omega)
              have hv_18_p0 : ma339 18 p0.toNatClampNeg = v237 := (by rw [hu_ma339, va_up_s, pk_us])
              have hnhv_18_p0 : (ma339 18 p0.toNatClampNeg).toInt = v237.toInt := (by rw [hv_18_p0])
              have hcd1 : v244.toInt < 0 → cod v244.toInt v237.toInt = v237.toInt := fun h => cod_own h; have hcd2 : 0 ≤ v244.toInt → cod v244.toInt v237.toInt = 100 + v244.toInt := fun h => cod_fun h
              refine lv_iconst (v := 0) S.x S.b d_Mpg_checkCall_83 (by decide) ?_
              refine lv_istore (lv' := [(6, .int 0), (5, .int 1), (4, .int v244), (3, .int v237), (2, .int z235), (0, .ref h), (1, .int p0)]) S.x S.b d_Mpg_checkCall_84 hl (by decide) rfl (fun ls hl => ?_)
              refine lv_aload_n S.x S.b d_Mpg_checkCall_86 rfl (lv_at hl 5 rfl) ?_
              refine gP_17 S hT hw 0 rfl m10_1 d_Mpg_checkCall_87 ?_
              refine lv_iload_n S.x S.b d_Mpg_checkCall_90 rfl (lv_at hl 6 rfl) ?_
              refine px_iald S hT hw 0 13 (n := 2100) (f := (na 17)) rfl gp_17 (x := p0) (vp_in_iff.mpr (by first | exact oz_a7e05de1cd hrg.2.2 hrg.2.1 g1 g2 | (constructor <;> omega))) d_Mpg_checkCall_91 ?_
              refine lv_topi (fun z340 ez340 => ?_)
              have lz340 := Int32.le_toInt z340
              have uz340 := Int32.toInt_lt z340
              have hrr := EcV.k3 hec_p0 (by omega) ez340
              refine lv_istore (lv' := [(7, .int z340), (6, .int 0), (5, .int 1), (4, .int v244), (3, .int v237), (2, .int z235), (0, .ref h), (1, .int p0)]) S.x S.b d_Mpg_checkCall_92 hl (by decide) rfl (fun ls hl => ?_)
              first | exact J94 ((hi - (p0.toInt + 1)).toNat + 1) ma339 cf (p0.toInt + 1) z235 v237 v244 (1 : Int32) (0 : Int32) z340 _ _ ls (show KpE cf cf from hke) (show WrV cf (tf 6).toInt from hwr) (show (cf 33).toInt = (cf 33).toInt from rfl) (show (cf 38).toInt = (cf 38).toInt from rfl) (show (cf 48).toInt = (cf 48).toInt from rfl) (show (cf 46).toInt = (cf 46).toInt from rfl) (show (cf 47).toInt = (cf 47).toInt from rfl) (show (cf 57).toInt = (cf 57).toInt from rfl) (show Ann na ma0 ma339 from han) (show FrC lo hi ma ma339 from hfc) (show -1 ≤ v237.toInt from e238) (show v237.toInt ≤ 9 from e239) (show -1 ≤ v244.toInt from e245) (show v244.toInt < nf from (oz_3b93307734 g7 e246)) (show 0 ≤ (1 : Int) from oz_19c3a41681) (show (1 : Int) ≤ 1 from oz_f9181dc4bb) (show (1 : Int) = 1 → (0 ≤ v237.toInt ∧ v244.toInt = -1) ∨ (v237.toInt < 0 ∧ 0 ≤ v244.toInt) from by omega) (show (1 : Int) = 0 → 1 ≤ (cf 30).toInt from by omega) (show 0 ≤ (0 : Int) from oz_5a341f00aa) (show (0 : Int) + p0.toInt + 1 ≤ (p0.toInt + 1) from oz_5323360a91) (show 0 ≤ z235.toInt from rz235.1) (show z235.toInt < (tf 6).toInt from (oz_7fe81129bf rz235.2)) (show p0.toInt + 1 ≤ (p0.toInt + 1) from oz_a1bc7e1f12) (show (p0.toInt + 1) ≤ hi from (oz_8cd8185cc8 hrg.2.1)) (show RcR ta (tf 6).toInt na ma0 d (p0.toInt + 1) hi z340 from hrr) (show KbI ma339 p0 (1 : Int) (cod v244.toInt v237.toInt) from (fun h => by omega)) (show ZTa cf (Gk ta ca na ma0 ns ys nf) na ma339 (p0.toInt + 1) (p0.toInt + 1) (cod v244.toInt v237.toInt) (na 17 p0.toNatClampNeg) z340 (0 : Int) from (fun _ => by rw [← ez340]; exact tya_0)) (show K_mp_checkCall_94 (RL_mp_check d) tf ta na ca p0 ma cf ma339 cf z235 v237 v244 1 0 z340 from (fun y_f0 y_f1 y_v k hE => Exists.intro (k + 1) (Or.inl ⟨rfl, z235, ez235, v237, e240, Or.inl ⟨nc241, v244, e247, v249, e254, Or.inr ⟨nc255, Or.inr ⟨nc289, Or.inr ⟨nc299, Or.inr ⟨nc334, ma339, hu_ma339, z340, ez340, hE⟩⟩⟩⟩⟩⟩))) (show hi - (p0.toInt + 1) < ((((hi - (p0.toInt + 1)).toNat + 1 : Nat) : Int) : Int) from oz_natlt) hw (lv_sub hl [6, 7, 5, 4, 3, 2, 1, 0] rfl) | (exact J94 ((hi - (p0.toInt + 1)).toNat + 1) ma339 cf (p0.toInt + 1) z235 v237 v244 (1 : Int32) (0 : Int32) z340 _ _ ls (show KpE cf cf from hke) (show WrV cf (tf 6).toInt from hwr) (show (cf 33).toInt = (cf 33).toInt from rfl) (show (cf 38).toInt = (cf 38).toInt from rfl) (show (cf 48).toInt = (cf 48).toInt from rfl) (show (cf 46).toInt = (cf 46).toInt from rfl) (show (cf 47).toInt = (cf 47).toInt from rfl) (show (cf 57).toInt = (cf 57).toInt from rfl) (show Ann na ma0 ma339 from han) (show FrC lo hi ma ma339 from hfc) (show -1 ≤ v237.toInt from by first | exact e238 | omega) (show v237.toInt ≤ 9 from by first | exact e239 | omega) (show -1 ≤ v244.toInt from by first | exact e245 | omega) (show v244.toInt < nf from by first | exact oz_3b93307734 g7 e246 | omega) (show 0 ≤ (1 : Int) from by first | exact oz_19c3a41681 | omega) (show (1 : Int) ≤ 1 from by first | exact oz_f9181dc4bb | omega) (show (1 : Int) = 1 → (0 ≤ v237.toInt ∧ v244.toInt = -1) ∨ (v237.toInt < 0 ∧ 0 ≤ v244.toInt) from by omega) (show (1 : Int) = 0 → 1 ≤ (cf 30).toInt from by omega) (show 0 ≤ (0 : Int) from by first | exact oz_5a341f00aa | omega) (show (0 : Int) + p0.toInt + 1 ≤ (p0.toInt + 1) from by first | exact oz_5323360a91 | omega) (show 0 ≤ z235.toInt from by first | exact rz235.1 | omega) (show z235.toInt < (tf 6).toInt from by first | exact oz_7fe81129bf rz235.2 | omega) (show p0.toInt + 1 ≤ (p0.toInt + 1) from by first | exact oz_a1bc7e1f12 | omega) (show (p0.toInt + 1) ≤ hi from by first | exact oz_8cd8185cc8 hrg.2.1 | omega) (show RcR ta (tf 6).toInt na ma0 d (p0.toInt + 1) hi z340 from hrr) (show KbI ma339 p0 (1 : Int) (cod v244.toInt v237.toInt) from (fun h => by omega)) (show ZTa cf (Gk ta ca na ma0 ns ys nf) na ma339 (p0.toInt + 1) (p0.toInt + 1) (cod v244.toInt v237.toInt) (na 17 p0.toNatClampNeg) z340 (0 : Int) from (fun _ => by rw [← ez340]; exact tya_0)) (show K_mp_checkCall_94 (RL_mp_check d) tf ta na ca p0 ma cf ma339 cf z235 v237 v244 1 0 z340 from (fun y_f0 y_f1 y_v k hE => Exists.intro (k + 1) (Or.inl ⟨rfl, z235, ez235, v237, e240, Or.inl ⟨nc241, v244, e247, v249, e254, Or.inr ⟨nc255, Or.inr ⟨nc289, Or.inr ⟨nc299, Or.inr ⟨nc334, ma339, hu_ma339, z340, ez340, hE⟩⟩⟩⟩⟩⟩))) (show hi - (p0.toInt + 1) < ((((hi - (p0.toInt + 1)).toNat + 1 : Nat) : Int) : Int) from by first | exact oz_natlt | omega) hw (lv_sub hl [6, 7, 5, 4, 3, 2, 1, 0] rfl))
          · exact absurd c333 (by decide)
  · have nc241 : ¬ v237.toInt < (0 : Int) := mt (i_lt (x := v237) (y := 0)).mpr c241
    refine lv_iconst (v := (-1)) S.x S.b d_Mpg_checkCall_17 (by decide) ?_
    refine lv_goto (tgt := 26) S.x S.b d_Mpg_checkCall_18 (by decide) ?_
    refine lv_istore (lv' := [(4, .int (-1)), (3, .int v237), (2, .int z235), (0, .ref h), (1, .int p0)]) S.x S.b d_Mpg_checkCall_26 hl (by decide) rfl (fun ls hl => ?_)
    refine lv_aload_n S.x S.b d_Mpg_checkCall_28 rfl (lv_at hl 3 rfl) ?_
    refine lv_iload_n S.x S.b d_Mpg_checkCall_29 rfl (lv_at hl 2 rfl) ?_
    refine lv_iconst (v := 0) S.x S.b d_Mpg_checkCall_30 (by decide) ?_
    first | refine px_calli (pr := []) (px_runV (As := [.int z235, .int 0]) (rest := []) S (c_mp_find l D cs h r g tf ta pf na ma wa cf ca ef ea xf xa z235 0  (show 0 ≤ z235.toInt from rz235.1) (show z235.toInt < (tf 6).toInt from (oz_7fe81129bf rz235.2)) (show (tf 6).toInt ≤ 2049 from g3) (show 0 ≤ (0 : Int) from oz_5a341f00aa) (show 0 ≤ (cf 33).toInt from (oz_f3ebed1ad0 g4 g5)) htk (KnT.eq hkt (by omega)) _) hT (pr := []) (pcs := [wdP cs h r g tf ta pf na ma wa cf ca ef ea xf xa]) hw px_X.tt (px_recv hT hw 0 0 rfl rfl rfl) m12_181 m12_178 m12_180 ms_11_14 m1_21 q_Mpg_find ⟨show 1 + 1 ≤ (4 * d + 14) from (oz_f9828a4075), show 8 + (4 + 11) + 40 ≤ (200 * d + 540) from (oz_cd3f3fad86)⟩ hl.1 rfl (Nat.le_of_ble_eq_true rfl) d_Mpg_checkCall_31 ⟨Nat.le_of_ble_eq_true rfl, Nat.le_of_ble_eq_true rfl⟩) hw hA (fun v342 p341 H locs hp341 hw => ?_) | (refine px_calli (pr := []) (px_runV (As := [.int z235, .int 0]) (rest := []) S (c_mp_find l D cs h r g tf ta pf na ma wa cf ca ef ea xf xa z235 0  (show 0 ≤ z235.toInt from by first | exact rz235.1 | omega) (show z235.toInt < (tf 6).toInt from by first | exact oz_7fe81129bf rz235.2 | omega) (show (tf 6).toInt ≤ 2049 from by first | exact g3 | omega) (show 0 ≤ (0 : Int) from by first | exact oz_5a341f00aa | omega) (show 0 ≤ (cf 33).toInt from by first | exact oz_f3ebed1ad0 g4 g5 | omega) htk (KnT.eq hkt (by omega)) _) hT (pr := []) (pcs := [wdP cs h r g tf ta pf na ma wa cf ca ef ea xf xa]) hw px_X.tt (px_recv hT hw 0 0 rfl rfl rfl) m12_181 m12_178 m12_180 ms_11_14 m1_21 q_Mpg_find ⟨show 1 + 1 ≤ (4 * d + 14) from (by first | exact oz_f9828a4075 | omega), show 8 + (4 + 11) + 40 ≤ (200 * d + 540) from (by first | exact oz_cd3f3fad86 | omega)⟩ hl.1 rfl (Nat.le_of_ble_eq_true rfl) d_Mpg_checkCall_31 ⟨Nat.le_of_ble_eq_true rfl, Nat.le_of_ble_eq_true rfl⟩) hw hA (fun v342 p341 H locs hp341 hw => ?_))
    obtain ⟨rfl, e343, e344, e345, e346, e347⟩ := hp341
    have e343 : -1 ≤ v342.toInt := e343
    have e344 : v342.toInt < (cf 33).toInt := e344
    have e345 : 0 ≤ v342.toInt → (0 : Int) ≤ v342.toInt := e345
    have e346 : FndV ta ca (cf 33).toInt z235 (0 : Int) v342.toInt := e346
    have e347 : R_mp_find ta cf ca z235 (0 : Int32) v342 := e347
    have lv342 := Int32.le_toInt v342
    have uv342 := Int32.toInt_lt v342
    refine lv_if_ge (tgt := 50) S.x S.b d_Mpg_checkCall_34 (by decide) (fun c348 => ?_) (fun c348 => ?_)
    · have nc348 : (0 : Int) ≤ v342.toInt := (i_le (x := 0) (y := v342)).mp c348
      refine lv_iconst (v := 0) S.x S.b d_Mpg_checkCall_50 (by decide) ?_
      refine lv_istore (lv' := [(5, .int 0), (4, .int (-1)), (3, .int v237), (2, .int z235), (0, .ref h), (1, .int p0)]) S.x S.b d_Mpg_checkCall_51 hl (by decide) rfl (fun ls hl => ?_)
      refine lv_iload S.x S.b d_Mpg_checkCall_53 (lv_at hl 0 rfl) ?_
      refine lv_if_ne (tgt := 64) S.x S.b d_Mpg_checkCall_55 (by decide) (fun c350 => ?_) (fun c350 => ?_)
      · exact absurd c350 (by decide)
      ·
        refine lv_aload_n S.x S.b d_Mpg_checkCall_58 rfl (lv_at hl 4 rfl) ?_
        refine lv_iconst (v := 2) S.x S.b d_Mpg_checkCall_59 (by decide) ?_
        refine lv_iload_n S.x S.b d_Mpg_checkCall_60 rfl (lv_at hl 3 rfl) ?_
        first | refine px_callv (pr := []) (px_runV (As := [.int 2, .int z235]) (rest := []) S (c_mp_bad l D cs h r g tf ta pf na ma wa ca ef ea xf xa cf 2 z235  (show 1 ≤ (2 : Int) from oz_eaf798137c) (show 0 ≤ z235.toInt from rz235.1) (show z235.toInt < (tf 6).toInt from (oz_7fe81129bf rz235.2)) htk hwr _) hT (pr := []) (pcs := [wdP cs h r g tf ta pf na ma wa cf ca ef ea xf xa]) hw px_X.tt (px_recv hT hw 0 0 rfl rfl rfl) m12_173 m12_170 m12_172 ms_11_12 m1_21 q_Mpg_bad ⟨show 0 + 1 ≤ (4 * d + 14) from (oz_90c46cace3), show 8 + (3 + 11) + 0 ≤ (200 * d + 540) from (oz_2ba881113e)⟩ hl.1 rfl (Nat.le_of_ble_eq_true rfl) d_Mpg_checkCall_61 ⟨Nat.le_of_ble_eq_true rfl, Nat.le_of_ble_eq_true rfl⟩) hw hA (fun p353 H locs hp353 hw => ?_) | (refine px_callv (pr := []) (px_runV (As := [.int 2, .int z235]) (rest := []) S (c_mp_bad l D cs h r g tf ta pf na ma wa ca ef ea xf xa cf 2 z235  (show 1 ≤ (2 : Int) from by first | exact oz_eaf798137c | omega) (show 0 ≤ z235.toInt from by first | exact rz235.1 | omega) (show z235.toInt < (tf 6).toInt from by first | exact oz_7fe81129bf rz235.2 | omega) htk hwr _) hT (pr := []) (pcs := [wdP cs h r g tf ta pf na ma wa cf ca ef ea xf xa]) hw px_X.tt (px_recv hT hw 0 0 rfl rfl rfl) m12_173 m12_170 m12_172 ms_11_12 m1_21 q_Mpg_bad ⟨show 0 + 1 ≤ (4 * d + 14) from (by first | exact oz_90c46cace3 | omega), show 8 + (3 + 11) + 0 ≤ (200 * d + 540) from (by first | exact oz_2ba881113e | omega)⟩ hl.1 rfl (Nat.le_of_ble_eq_true rfl) d_Mpg_checkCall_61 ⟨Nat.le_of_ble_eq_true rfl, Nat.le_of_ble_eq_true rfl⟩) hw hA (fun p353 H locs hp353 hw => ?_))
        obtain ⟨cf352, rfl, e355, e356, e357, e358, e359, e360, e361, e362, e363, e364, e365, e366, e367, e368, e369, e370, e371, e372, e373, e374⟩ := hp353
        have e355 : KpE cf cf352 := e355
        have hke := (hke).tr e355
        have hkz_e355 := e355.2
        have e356 : WrV cf352 (tf 6).toInt := e356
        have hwr := e356
        have hw0_e356 := hwr.1
        have e357 : 1 ≤ (cf352 30).toInt := e357
        have e358 : (cf352 33).toInt = (cf 33).toInt := e358
        have e359 : (cf352 38).toInt = (cf 38).toInt := e359
        have e360 : (cf352 48).toInt = (cf 48).toInt := e360
        have e361 : (cf352 46).toInt = (cf 46).toInt := e361
        have e362 : (cf352 47).toInt = (cf 47).toInt := e362
        have e363 : (cf352 57).toInt = (cf 57).toInt := e363
        have e364 : (cf352 37).toInt = (cf 37).toInt := e364
        have e365 : (cf352 42).toInt = (cf 42).toInt := e365
        have e366 : (cf352 43).toInt = (cf 43).toInt := e366
        have e367 : (cf352 44).toInt = (cf 44).toInt := e367
        have e368 : (cf352 45).toInt = (cf 45).toInt := e368
        have e369 : (cf352 54).toInt = (cf 54).toInt := e369
        have e370 : (cf352 55).toInt = (cf 55).toInt := e370
        have e371 : (cf352 58).toInt = (cf 58).toInt := e371
        have e372 : (cf352 59).toInt = (cf 59).toInt := e372
        have e373 : (cf352 41).toInt = (cf 41).toInt := e373
        have e374 : R_mp_bad (2 : Int32) z235 cf cf352 := e374
        refine lv_aload_n S.x S.b d_Mpg_checkCall_64 rfl (lv_at hl 4 rfl) ?_
        refine gP_18 S hT hw 0 rfl m10_3 d_Mpg_checkCall_65 ?_
        refine lv_iload_n S.x S.b d_Mpg_checkCall_68 rfl (lv_at hl 5 rfl) ?_
        refine lv_iload_n S.x S.b d_Mpg_checkCall_69 rfl (lv_at hl 2 rfl) ?_
        refine lv_if_lt (tgt := 77) S.x S.b d_Mpg_checkCall_70 (by decide) (fun c375 => ?_) (fun c375 => ?_)
        · have nc375 : v237.toInt < (0 : Int) := (i_lt (x := v237) (y := 0)).mp c375
          refine lv_bipush (v := 100) S.x S.b d_Mpg_checkCall_77 (by decide) ?_
          refine lv_iload S.x S.b d_Mpg_checkCall_79 (lv_at hl 1 rfl) ?_
          refine lv_iadd S.x S.b d_Mpg_checkCall_81 ?_
          refine lv_topi (fun z377 ez377 => ?_)
          have tz377 : z377.toInt = ((100 : Int) + (-1 : Int) + 2147483648) % 4294967296 - 2147483648 := by rw [ez377]; exact i_add 100 (-1)
          have lz377 := Int32.le_toInt z377
          have uz377 := Int32.toInt_lt z377
          try replace tz377 : z377.toInt = (100 : Int) + (-1 : Int) := by omega
          refine px_iast S hT hw 0 14 (n := 2100) (f := (ma 18)) (x := p0) (y := z377) rfl gp_18 (vp_in_iff.mpr (by constructor <;> omega)) d_Mpg_checkCall_82 (w' := wdP cs h r g tf ta pf na (va_up ma 18 (upd (ma 18) p0.toNatClampNeg z377)) wa cf352 ca ef ea xf xa) (ps' := [wdP cs h r g tf ta pf na (va_up ma 18 (upd (ma 18) p0.toNatClampNeg z377)) wa cf352 ca ef ea xf xa]) sp_18 rfl (fun H locs hw => ?_)
          obtain ⟨ma378, hu_ma378⟩ : ∃ y : Nat → Nat → Int32, y = va_up ma 18 (upd (ma 18) p0.toNatClampNeg z377) := ⟨_, rfl⟩
          have hw : pw D A s.heap _ _ [wdP cs h r g tf ta pf na ma378 wa cf352 ca ef ea xf xa] := (by rw [hu_ma378]; exact hw)
          have hf1_ma378 : FrC p0.toInt (p0.toInt + 1) ma ma378 := (by rw [hu_ma378]; exact FrC.w FrC.rf (by omega) (by omega) (by omega))
          have han : Ann na ma0 ma378 := (by rw [hu_ma378]; exact Ann.w18 han (by omega))
          have hfc := hfc.tr hf1_ma378 (by omega) (by omega)
          have hv_18_p0 : ma378 18 p0.toNatClampNeg = z377 := (by rw [hu_ma378, va_up_s, pk_us])
          have hnhv_18_p0 : (ma378 18 p0.toNatClampNeg).toInt = z377.toInt := (by rw [hv_18_p0])
          have hcd1 : (-1 : Int) < 0 → cod (-1 : Int) v237.toInt = v237.toInt := fun h => cod_own h; have hcd2 : 0 ≤ (-1 : Int) → cod (-1 : Int) v237.toInt = 100 + (-1 : Int) := fun h => cod_fun h
          refine lv_iconst (v := 0) S.x S.b d_Mpg_checkCall_83 (by decide) ?_
          refine lv_istore (lv' := [(6, .int 0), (5, .int 0), (4, .int (-1)), (3, .int v237), (2, .int z235), (0, .ref h), (1, .int p0)]) S.x S.b d_Mpg_checkCall_84 hl (by decide) rfl (fun ls hl => ?_)
          refine lv_aload_n S.x S.b d_Mpg_checkCall_86 rfl (lv_at hl 5 rfl) ?_
          refine gP_17 S hT hw 0 rfl m10_1 d_Mpg_checkCall_87 ?_
          refine lv_iload_n S.x S.b d_Mpg_checkCall_90 rfl (lv_at hl 6 rfl) ?_
          refine px_iald S hT hw 0 13 (n := 2100) (f := (na 17)) rfl gp_17 (x := p0) (vp_in_iff.mpr (by first | exact oz_a7e05de1cd hrg.2.2 hrg.2.1 g1 g2 | (constructor <;> omega))) d_Mpg_checkCall_91 ?_
          refine lv_topi (fun z379 ez379 => ?_)
          have lz379 := Int32.le_toInt z379
          have uz379 := Int32.toInt_lt z379
          have hrr := EcV.k3 hec_p0 (by omega) ez379
          refine lv_istore (lv' := [(7, .int z379), (6, .int 0), (5, .int 0), (4, .int (-1)), (3, .int v237), (2, .int z235), (0, .ref h), (1, .int p0)]) S.x S.b d_Mpg_checkCall_92 hl (by decide) rfl (fun ls hl => ?_)
          first | exact J94 ((hi - (p0.toInt + 1)).toNat + 1) ma378 cf352 (p0.toInt + 1) z235 v237 (-1) (0 : Int32) (0 : Int32) z379 _ _ ls (show KpE cf cf352 from hke) (show WrV cf352 (tf 6).toInt from hwr) (show (cf352 33).toInt = (cf 33).toInt from e358) (show (cf352 38).toInt = (cf 38).toInt from e359) (show (cf352 48).toInt = (cf 48).toInt from e360) (show (cf352 46).toInt = (cf 46).toInt from e361) (show (cf352 47).toInt = (cf 47).toInt from e362) (show (cf352 57).toInt = (cf 57).toInt from e363) (show Ann na ma0 ma378 from han) (show FrC lo hi ma ma378 from hfc) (show -1 ≤ v237.toInt from e238) (show v237.toInt ≤ 9 from e239) (show -1 ≤ (-1 : Int) from oz_268d846349) (show (-1 : Int) < nf from (oz_46b89dfbf6 g8)) (show 0 ≤ (0 : Int) from oz_5a341f00aa) (show (0 : Int) ≤ 1 from oz_6e68cd0f48) (show (0 : Int) = 1 → (0 ≤ v237.toInt ∧ (-1 : Int) = -1) ∨ (v237.toInt < 0 ∧ 0 ≤ (-1 : Int)) from by omega) (show (0 : Int) = 0 → 1 ≤ (cf352 30).toInt from by omega) (show 0 ≤ (0 : Int) from oz_5a341f00aa) (show (0 : Int) + p0.toInt + 1 ≤ (p0.toInt + 1) from oz_5323360a91) (show 0 ≤ z235.toInt from rz235.1) (show z235.toInt < (tf 6).toInt from (oz_7fe81129bf rz235.2)) (show p0.toInt + 1 ≤ (p0.toInt + 1) from oz_a1bc7e1f12) (show (p0.toInt + 1) ≤ hi from (oz_8cd8185cc8 hrg.2.1)) (show RcR ta (tf 6).toInt na ma0 d (p0.toInt + 1) hi z379 from hrr) (show KbI ma378 p0 (0 : Int) (cod (-1 : Int) v237.toInt) from (fun h => by omega)) (show ZTa cf352 (Gk ta ca na ma0 ns ys nf) na ma378 (p0.toInt + 1) (p0.toInt + 1) (cod (-1 : Int) v237.toInt) (na 17 p0.toNatClampNeg) z379 (0 : Int) from (fun _ => by rw [← ez379]; exact tya_0)) (show K_mp_checkCall_94 (RL_mp_check d) tf ta na ca p0 ma cf ma378 cf352 z235 v237 (-1) 0 0 z379 from (fun y_f0 y_f1 y_v k hE => Exists.intro (k + 1) (Or.inl ⟨rfl, z235, ez235, v237, e240, Or.inr ⟨nc241, v342, e347, Or.inl ⟨nc348, cf352, e374, Or.inl ⟨nc375, z377, ez377, ma378, hu_ma378, z379, ez379, hE⟩⟩⟩⟩))) (show hi - (p0.toInt + 1) < ((((hi - (p0.toInt + 1)).toNat + 1 : Nat) : Int) : Int) from oz_natlt) hw (lv_sub hl [6, 7, 5, 4, 3, 2, 1, 0] rfl) | (exact J94 ((hi - (p0.toInt + 1)).toNat + 1) ma378 cf352 (p0.toInt + 1) z235 v237 (-1) (0 : Int32) (0 : Int32) z379 _ _ ls (show KpE cf cf352 from hke) (show WrV cf352 (tf 6).toInt from hwr) (show (cf352 33).toInt = (cf 33).toInt from by first | exact e358 | omega) (show (cf352 38).toInt = (cf 38).toInt from by first | exact e359 | omega) (show (cf352 48).toInt = (cf 48).toInt from by first | exact e360 | omega) (show (cf352 46).toInt = (cf 46).toInt from by first | exact e361 | omega) (show (cf352 47).toInt = (cf 47).toInt from by first | exact e362 | omega) (show (cf352 57).toInt = (cf 57).toInt from by first | exact e363 | omega) (show Ann na ma0 ma378 from han) (show FrC lo hi ma ma378 from hfc) (show -1 ≤ v237.toInt from by first | exact e238 | omega) (show v237.toInt ≤ 9 from by first | exact e239 | omega) (show -1 ≤ (-1 : Int) from by first | exact oz_268d846349 | omega) (show (-1 : Int) < nf from by first | exact oz_46b89dfbf6 g8 | omega) (show 0 ≤ (0 : Int) from by first | exact oz_5a341f00aa | omega) (show (0 : Int) ≤ 1 from by first | exact oz_6e68cd0f48 | omega) (show (0 : Int) = 1 → (0 ≤ v237.toInt ∧ (-1 : Int) = -1) ∨ (v237.toInt < 0 ∧ 0 ≤ (-1 : Int)) from by omega) (show (0 : Int) = 0 → 1 ≤ (cf352 30).toInt from by omega) (show 0 ≤ (0 : Int) from by first | exact oz_5a341f00aa | omega) (show (0 : Int) + p0.toInt + 1 ≤ (p0.toInt + 1) from by first | exact oz_5323360a91 | omega) (show 0 ≤ z235.toInt from by first | exact rz235.1 | omega) (show z235.toInt < (tf 6).toInt from by first | exact oz_7fe81129bf rz235.2 | omega) (show p0.toInt + 1 ≤ (p0.toInt + 1) from by first | exact oz_a1bc7e1f12 | omega) (show (p0.toInt + 1) ≤ hi from by first | exact oz_8cd8185cc8 hrg.2.1 | omega) (show RcR ta (tf 6).toInt na ma0 d (p0.toInt + 1) hi z379 from hrr) (show KbI ma378 p0 (0 : Int) (cod (-1 : Int) v237.toInt) from (fun h => by omega)) (show ZTa cf352 (Gk ta ca na ma0 ns ys nf) na ma378 (p0.toInt + 1) (p0.toInt + 1) (cod (-1 : Int) v237.toInt) (na 17 p0.toNatClampNeg) z379 (0 : Int) from (fun _ => by rw [← ez379]; exact tya_0)) (show K_mp_checkCall_94 (RL_mp_check d) tf ta na ca p0 ma cf ma378 cf352 z235 v237 (-1) 0 0 z379 from (fun y_f0 y_f1 y_v k hE => Exists.intro (k + 1) (Or.inl ⟨rfl, z235, ez235, v237, e240, Or.inr ⟨nc241, v342, e347, Or.inl ⟨nc348, cf352, e374, Or.inl ⟨nc375, z377, ez377, ma378, hu_ma378, z379, ez379, hE⟩⟩⟩⟩))) (show hi - (p0.toInt + 1) < ((((hi - (p0.toInt + 1)).toNat + 1 : Nat) : Int) : Int) from by first | exact oz_natlt | omega) hw (lv_sub hl [6, 7, 5, 4, 3, 2, 1, 0] rfl))
        · have nc375 : ¬ v237.toInt < (0 : Int) := mt (i_lt (x := v237) (y := 0)).mpr c375
          refine lv_iload_n S.x S.b d_Mpg_checkCall_73 rfl (lv_at hl 2 rfl) ?_
          refine lv_goto (tgt := 82) S.x S.b d_Mpg_checkCall_74 (by decide) ?_
          refine px_iast S hT hw 0 14 (n := 2100) (f := (ma 18)) (x := p0) (y := v237) rfl gp_18 (vp_in_iff.mpr (by constructor <;> omega)) d_Mpg_checkCall_82 (w' := wdP cs h r g tf ta pf na (va_up ma 18 (upd (ma 18) p0.toNatClampNeg v237)) wa cf352 ca ef ea xf xa) (ps' := [wdP cs h r g tf ta pf na (va_up ma 18 (upd (ma 18) p0.toNatClampNeg v237)) wa cf352 ca ef ea xf xa]) sp_18 rfl (fun H locs hw => ?_)
          obtain ⟨ma380, hu_ma380⟩ : ∃ y : Nat → Nat → Int32, y = va_up ma 18 (upd (ma 18) p0.toNatClampNeg v237) := ⟨_, rfl⟩
          have hw : pw D A s.heap _ _ [wdP cs h r g tf ta pf na ma380 wa cf352 ca ef ea xf xa] := (by rw [hu_ma380]; exact hw)
          have hf1_ma380 : FrC p0.toInt (p0.toInt + 1) ma ma380 := (by rw [hu_ma380]; exact FrC.w FrC.rf (by omega) (by omega) (by omega))
          have han : Ann na ma0 ma380 := (by rw [hu_ma380]; exact Ann.w18 han (by omega))
          have hfc := hfc.tr hf1_ma380 (by omega) (by omega)
          have hv_18_p0 : ma380 18 p0.toNatClampNeg = v237 := (by rw [hu_ma380, va_up_s, pk_us])
          have hnhv_18_p0 : (ma380 18 p0.toNatClampNeg).toInt = v237.toInt := (by rw [hv_18_p0])
          have hcd1 : (-1 : Int) < 0 → cod (-1 : Int) v237.toInt = v237.toInt := fun h => cod_own h; have hcd2 : 0 ≤ (-1 : Int) → cod (-1 : Int) v237.toInt = 100 + (-1 : Int) := fun h => cod_fun h
          refine lv_iconst (v := 0) S.x S.b d_Mpg_checkCall_83 (by decide) ?_
          refine lv_istore (lv' := [(6, .int 0), (5, .int 0), (4, .int (-1)), (3, .int v237), (2, .int z235), (0, .ref h), (1, .int p0)]) S.x S.b d_Mpg_checkCall_84 hl (by decide) rfl (fun ls hl => ?_)
          refine lv_aload_n S.x S.b d_Mpg_checkCall_86 rfl (lv_at hl 5 rfl) ?_
          refine gP_17 S hT hw 0 rfl m10_1 d_Mpg_checkCall_87 ?_
          refine lv_iload_n S.x S.b d_Mpg_checkCall_90 rfl (lv_at hl 6 rfl) ?_
          refine px_iald S hT hw 0 13 (n := 2100) (f := (na 17)) rfl gp_17 (x := p0) (vp_in_iff.mpr (by first | exact oz_a7e05de1cd hrg.2.2 hrg.2.1 g1 g2 | (constructor <;> omega))) d_Mpg_checkCall_91 ?_
          refine lv_topi (fun z381 ez381 => ?_)
          have lz381 := Int32.le_toInt z381
          have uz381 := Int32.toInt_lt z381
          have hrr := EcV.k3 hec_p0 (by omega) ez381
          refine lv_istore (lv' := [(7, .int z381), (6, .int 0), (5, .int 0), (4, .int (-1)), (3, .int v237), (2, .int z235), (0, .ref h), (1, .int p0)]) S.x S.b d_Mpg_checkCall_92 hl (by decide) rfl (fun ls hl => ?_)
          first | exact J94 ((hi - (p0.toInt + 1)).toNat + 1) ma380 cf352 (p0.toInt + 1) z235 v237 (-1) (0 : Int32) (0 : Int32) z381 _ _ ls (show KpE cf cf352 from hke) (show WrV cf352 (tf 6).toInt from hwr) (show (cf352 33).toInt = (cf 33).toInt from e358) (show (cf352 38).toInt = (cf 38).toInt from e359) (show (cf352 48).toInt = (cf 48).toInt from e360) (show (cf352 46).toInt = (cf 46).toInt from e361) (show (cf352 47).toInt = (cf 47).toInt from e362) (show (cf352 57).toInt = (cf 57).toInt from e363) (show Ann na ma0 ma380 from han) (show FrC lo hi ma ma380 from hfc) (show -1 ≤ v237.toInt from e238) (show v237.toInt ≤ 9 from e239) (show -1 ≤ (-1 : Int) from oz_268d846349) (show (-1 : Int) < nf from (oz_46b89dfbf6 g8)) (show 0 ≤ (0 : Int) from oz_5a341f00aa) (show (0 : Int) ≤ 1 from oz_6e68cd0f48) (show (0 : Int) = 1 → (0 ≤ v237.toInt ∧ (-1 : Int) = -1) ∨ (v237.toInt < 0 ∧ 0 ≤ (-1 : Int)) from by omega) (show (0 : Int) = 0 → 1 ≤ (cf352 30).toInt from by omega) (show 0 ≤ (0 : Int) from oz_5a341f00aa) (show (0 : Int) + p0.toInt + 1 ≤ (p0.toInt + 1) from oz_5323360a91) (show 0 ≤ z235.toInt from rz235.1) (show z235.toInt < (tf 6).toInt from (oz_7fe81129bf rz235.2)) (show p0.toInt + 1 ≤ (p0.toInt + 1) from oz_a1bc7e1f12) (show (p0.toInt + 1) ≤ hi from (oz_8cd8185cc8 hrg.2.1)) (show RcR ta (tf 6).toInt na ma0 d (p0.toInt + 1) hi z381 from hrr) (show KbI ma380 p0 (0 : Int) (cod (-1 : Int) v237.toInt) from (fun h => by omega)) (show ZTa cf352 (Gk ta ca na ma0 ns ys nf) na ma380 (p0.toInt + 1) (p0.toInt + 1) (cod (-1 : Int) v237.toInt) (na 17 p0.toNatClampNeg) z381 (0 : Int) from (fun _ => by rw [← ez381]; exact tya_0)) (show K_mp_checkCall_94 (RL_mp_check d) tf ta na ca p0 ma cf ma380 cf352 z235 v237 (-1) 0 0 z381 from (fun y_f0 y_f1 y_v k hE => Exists.intro (k + 1) (Or.inl ⟨rfl, z235, ez235, v237, e240, Or.inr ⟨nc241, v342, e347, Or.inl ⟨nc348, cf352, e374, Or.inr ⟨nc375, ma380, hu_ma380, z381, ez381, hE⟩⟩⟩⟩))) (show hi - (p0.toInt + 1) < ((((hi - (p0.toInt + 1)).toNat + 1 : Nat) : Int) : Int) from oz_natlt) hw (lv_sub hl [6, 7, 5, 4, 3, 2, 1, 0] rfl) | (exact J94 ((hi - (p0.toInt + 1)).toNat + 1) ma380 cf352 (p0.toInt + 1) z235 v237 (-1) (0 : Int32) (0 : Int32) z381 _ _ ls (show KpE cf cf352 from hke) (show WrV cf352 (tf 6).toInt from hwr) (show (cf352 33).toInt = (cf 33).toInt from by first | exact e358 | omega) (show (cf352 38).toInt = (cf 38).toInt from by first | exact e359 | omega) (show (cf352 48).toInt = (cf 48).toInt from by first | exact e360 | omega) (show (cf352 46).toInt = (cf 46).toInt from by first | exact e361 | omega) (show (cf352 47).toInt = (cf 47).toInt from by first | exact e362 | omega) (show (cf352 57).toInt = (cf 57).toInt from by first | exact e363 | omega) (show Ann na ma0 ma380 from han) (show FrC lo hi ma ma380 from hfc) (show -1 ≤ v237.toInt from by first | exact e238 | omega) (show v237.toInt ≤ 9 from by first | exact e239 | omega) (show -1 ≤ (-1 : Int) from by first | exact oz_268d846349 | omega) (show (-1 : Int) < nf from by first | exact oz_46b89dfbf6 g8 | omega) (show 0 ≤ (0 : Int) from by first | exact oz_5a341f00aa | omega) (show (0 : Int) ≤ 1 from by first | exact oz_6e68cd0f48 | omega) (show (0 : Int) = 1 → (0 ≤ v237.toInt ∧ (-1 : Int) = -1) ∨ (v237.toInt < 0 ∧ 0 ≤ (-1 : Int)) from by omega) (show (0 : Int) = 0 → 1 ≤ (cf352 30).toInt from by omega) (show 0 ≤ (0 : Int) from by first | exact oz_5a341f00aa | omega) (show (0 : Int) + p0.toInt + 1 ≤ (p0.toInt + 1) from by first | exact oz_5323360a91 | omega) (show 0 ≤ z235.toInt from by first | exact rz235.1 | omega) (show z235.toInt < (tf 6).toInt from by first | exact oz_7fe81129bf rz235.2 | omega) (show p0.toInt + 1 ≤ (p0.toInt + 1) from by first | exact oz_a1bc7e1f12 | omega) (show (p0.toInt + 1) ≤ hi from by first | exact oz_8cd8185cc8 hrg.2.1 | omega) (show RcR ta (tf 6).toInt na ma0 d (p0.toInt + 1) hi z381 from hrr) (show KbI ma380 p0 (0 : Int) (cod (-1 : Int) v237.toInt) from (fun h => by omega)) (show ZTa cf352 (Gk ta ca na ma0 ns ys nf) na ma380 (p0.toInt + 1) (p0.toInt + 1) (cod (-1 : Int) v237.toInt) (na 17 p0.toNatClampNeg) z381 (0 : Int) from (fun _ => by rw [← ez381]; exact tya_0)) (show K_mp_checkCall_94 (RL_mp_check d) tf ta na ca p0 ma cf ma380 cf352 z235 v237 (-1) 0 0 z381 from (fun y_f0 y_f1 y_v k hE => Exists.intro (k + 1) (Or.inl ⟨rfl, z235, ez235, v237, e240, Or.inr ⟨nc241, v342, e347, Or.inl ⟨nc348, cf352, e374, Or.inr ⟨nc375, ma380, hu_ma380, z381, ez381, hE⟩⟩⟩⟩))) (show hi - (p0.toInt + 1) < ((((hi - (p0.toInt + 1)).toNat + 1 : Nat) : Int) : Int) from by first | exact oz_natlt | omega) hw (lv_sub hl [6, 7, 5, 4, 3, 2, 1, 0] rfl))
    · have nc348 : ¬ (0 : Int) ≤ v342.toInt := mt (i_le (x := 0) (y := v342)).mpr c348
      refine lv_iload_n S.x S.b d_Mpg_checkCall_37 rfl (lv_at hl 1 rfl) ?_
      refine lv_if_ge (tgt := 46) S.x S.b d_Mpg_checkCall_38 (by decide) (fun c382 => ?_) (fun c382 => ?_)
      · have nc382 : (0 : Int) ≤ v237.toInt := (i_le (x := 0) (y := v237)).mp c382
        refine lv_iconst (v := 1) S.x S.b d_Mpg_checkCall_46 (by decide) ?_
        refine lv_goto (tgt := 51) S.x S.b d_Mpg_checkCall_47 (by decide) ?_
        refine lv_istore (lv' := [(5, .int 1), (4, .int (-1)), (3, .int v237), (2, .int z235), (0, .ref h), (1, .int p0)]) S.x S.b d_Mpg_checkCall_51 hl (by decide) rfl (fun ls hl => ?_)
        refine lv_iload S.x S.b d_Mpg_checkCall_53 (lv_at hl 0 rfl) ?_
        refine lv_if_ne (tgt := 64) S.x S.b d_Mpg_checkCall_55 (by decide) (fun c384 => ?_) (fun c384 => ?_)
        ·
          refine lv_aload_n S.x S.b d_Mpg_checkCall_64 rfl (lv_at hl 4 rfl) ?_
          refine gP_18 S hT hw 0 rfl m10_3 d_Mpg_checkCall_65 ?_
          refine lv_iload_n S.x S.b d_Mpg_checkCall_68 rfl (lv_at hl 5 rfl) ?_
          refine lv_iload_n S.x S.b d_Mpg_checkCall_69 rfl (lv_at hl 2 rfl) ?_
          refine lv_if_lt (tgt := 77) S.x S.b d_Mpg_checkCall_70 (by decide) (fun c385 => ?_) (fun c385 => ?_)
          · have nc385 : v237.toInt < (0 : Int) := (i_lt (x := v237) (y := 0)).mp c385
            refine lv_bipush (v := 100) S.x S.b d_Mpg_checkCall_77 (by decide) ?_
            refine lv_iload S.x S.b d_Mpg_checkCall_79 (lv_at hl 1 rfl) ?_
            refine lv_iadd S.x S.b d_Mpg_checkCall_81 ?_
            refine lv_topi (fun z387 ez387 => ?_)
            have tz387 : z387.toInt = ((100 : Int) + (-1 : Int) + 2147483648) % 4294967296 - 2147483648 := by rw [ez387]; exact i_add 100 (-1)
            have lz387 := Int32.le_toInt z387
            have uz387 := Int32.toInt_lt z387
            try replace tz387 : z387.toInt = (100 : Int) + (-1 : Int) := by omega
            refine px_iast S hT hw 0 14 (n := 2100) (f := (ma 18)) (x := p0) (y := z387) rfl gp_18 (vp_in_iff.mpr (by constructor <;> omega)) d_Mpg_checkCall_82 (w' := wdP cs h r g tf ta pf na (va_up ma 18 (upd (ma 18) p0.toNatClampNeg z387)) wa cf ca ef ea xf xa) (ps' := [wdP cs h r g tf ta pf na (va_up ma 18 (upd (ma 18) p0.toNatClampNeg z387)) wa cf ca ef ea xf xa]) sp_18 rfl (fun H locs hw => ?_)
            obtain ⟨ma388, hu_ma388⟩ : ∃ y : Nat → Nat → Int32, y = va_up ma 18 (upd (ma 18) p0.toNatClampNeg z387) := ⟨_, rfl⟩
            have hw : pw D A s.heap _ _ [wdP cs h r g tf ta pf na ma388 wa cf ca ef ea xf xa] := (by rw [hu_ma388]; exact hw)
            have hf1_ma388 : FrC p0.toInt (p0.toInt + 1) ma ma388 := (by rw [hu_ma388]; exact FrC.w FrC.rf (by omega) (by omega) (by omega))
            have han : Ann na ma0 ma388 := (by rw [hu_ma388]; exact Ann.w18 han (by omega))
            have hfc := hfc.tr hf1_ma388 (by omega) (by omega)
            have hv_18_p0 : ma388 18 p0.toNatClampNeg = z387 := (by rw [hu_ma388, va_up_s, pk_us])
            have hnhv_18_p0 : (ma388 18 p0.toNatClampNeg).toInt = z387.toInt := (by rw [hv_18_p0])
            have hcd1 : (-1 : Int) < 0 → cod (-1 : Int) v237.toInt = v237.toInt := fun h => cod_own h; have hcd2 : 0 ≤ (-1 : Int) → cod (-1 : Int) v237.toInt = 100 + (-1 : Int) := fun h => cod_fun h
            refine lv_iconst (v := 0) S.x S.b d_Mpg_checkCall_83 (by decide) ?_
            refine lv_istore (lv' := [(6, .int 0), (5, .int 1), (4, .int (-1)), (3, .int v237), (2, .int z235), (0, .ref h), (1, .int p0)]) S.x S.b d_Mpg_checkCall_84 hl (by decide) rfl (fun ls hl => ?_)
            refine lv_aload_n S.x S.b d_Mpg_checkCall_86 rfl (lv_at hl 5 rfl) ?_
            refine gP_17 S hT hw 0 rfl m10_1 d_Mpg_checkCall_87 ?_
            refine lv_iload_n S.x S.b d_Mpg_checkCall_90 rfl (lv_at hl 6 rfl) ?_
            refine px_iald S hT hw 0 13 (n := 2100) (f := (na 17)) rfl gp_17 (x := p0) (vp_in_iff.mpr (by first | exact oz_a7e05de1cd hrg.2.2 hrg.2.1 g1 g2 | (constructor <;> omega))) d_Mpg_checkCall_91 ?_
            refine lv_topi (fun z389 ez389 => ?_)
            have lz389 := Int32.le_toInt z389
            have uz389 := Int32.toInt_lt z389
            have hrr := EcV.k3 hec_p0 (by omega) ez389
            refine lv_istore (lv' := [(7, .int z389), (6, .int 0), (5, .int 1), (4, .int (-1)), (3, .int v237), (2, .int z235), (0, .ref h), (1, .int p0)]) S.x S.b d_Mpg_checkCall_92 hl (by decide) rfl (fun ls hl => ?_)
            first | exact J94 ((hi - (p0.toInt + 1)).toNat + 1) ma388 cf (p0.toInt + 1) z235 v237 (-1) (1 : Int32) (0 : Int32) z389 _ _ ls (show KpE cf cf from hke) (show WrV cf (tf 6).toInt from hwr) (show (cf 33).toInt = (cf 33).toInt from rfl) (show (cf 38).toInt = (cf 38).toInt from rfl) (show (cf 48).toInt = (cf 48).toInt from rfl) (show (cf 46).toInt = (cf 46).toInt from rfl) (show (cf 47).toInt = (cf 47).toInt from rfl) (show (cf 57).toInt = (cf 57).toInt from rfl) (show Ann na ma0 ma388 from han) (show FrC lo hi ma ma388 from hfc) (show -1 ≤ v237.toInt from e238) (show v237.toInt ≤ 9 from e239) (show -1 ≤ (-1 : Int) from oz_268d846349) (show (-1 : Int) < nf from (oz_46b89dfbf6 g8)) (show 0 ≤ (1 : Int) from oz_19c3a41681) (show (1 : Int) ≤ 1 from oz_f9181dc4bb) (show (1 : Int) = 1 → (0 ≤ v237.toInt ∧ (-1 : Int) = -1) ∨ (v237.toInt < 0 ∧ 0 ≤ (-1 : Int)) from by omega) (show (1 : Int) = 0 → 1 ≤ (cf 30).toInt from by omega) (show 0 ≤ (0 : Int) from oz_5a341f00aa) (show (0 : Int) + p0.toInt + 1 ≤ (p0.toInt + 1) from oz_5323360a91) (show 0 ≤ z235.toInt from rz235.1) (show z235.toInt < (tf 6).toInt from (oz_7fe81129bf rz235.2)) (show p0.toInt + 1 ≤ (p0.toInt + 1) from oz_a1bc7e1f12) (show (p0.toInt + 1) ≤ hi from (oz_8cd8185cc8 hrg.2.1)) (show RcR ta (tf 6).toInt na ma0 d (p0.toInt + 1) hi z389 from hrr) (show KbI ma388 p0 (1 : Int) (cod (-1 : Int) v237.toInt) from (fun h => by omega)) (show ZTa cf (Gk ta ca na ma0 ns ys nf) na ma388 (p0.toInt + 1) (p0.toInt + 1) (cod (-1 : Int) v237.toInt) (na 17 p0.toNatClampNeg) z389 (0 : Int) from (fun _ => by rw [← ez389]; exact tya_0)) (show K_mp_checkCall_94 (RL_mp_check d) tf ta na ca p0 ma cf ma388 cf z235 v237 (-1) 1 0 z389 from (fun y_f0 y_f1 y_v k hE => Exists.intro (k + 1) (Or.inl ⟨rfl, z235, ez235, v237, e240, Or.inr ⟨nc241, v342, e347, Or.inr ⟨nc348, Or.inl ⟨nc382, Or.inl ⟨nc385, z387, ez387, ma388, hu_ma388, z389, ez389, hE⟩⟩⟩⟩⟩))) (show hi - (p0.toInt + 1) < ((((hi - (p0.toInt + 1)).toNat + 1 : Nat) : Int) : Int) from oz_natlt) hw (lv_sub hl [6, 7, 5, 4, 3, 2, 1, 0] rfl) | (exact J94 ((hi - (p0.toInt + 1)).toNat + 1) ma388 cf (p0.toInt + 1) z235 v237 (-1) (1 : Int32) (0 : Int32) z389 _ _ ls (show KpE cf cf from hke) (show WrV cf (tf 6).toInt from hwr) (show (cf 33).toInt = (cf 33).toInt from rfl) (show (cf 38).toInt = (cf 38).toInt from rfl) (show (cf 48).toInt = (cf 48).toInt from rfl) (show (cf 46).toInt = (cf 46).toInt from rfl) (show (cf 47).toInt = (cf 47).toInt from rfl) (show (cf 57).toInt = (cf 57).toInt from rfl) (show Ann na ma0 ma388 from han) (show FrC lo hi ma ma388 from hfc) (show -1 ≤ v237.toInt from by first | exact e238 | omega) (show v237.toInt ≤ 9 from by first | exact e239 | omega) (show -1 ≤ (-1 : Int) from by first | exact oz_268d846349 | omega) (show (-1 : Int) < nf from by first | exact oz_46b89dfbf6 g8 | omega) (show 0 ≤ (1 : Int) from by first | exact oz_19c3a41681 | omega) (show (1 : Int) ≤ 1 from by first | exact oz_f9181dc4bb | omega) (show (1 : Int) = 1 → (0 ≤ v237.toInt ∧ (-1 : Int) = -1) ∨ (v237.toInt < 0 ∧ 0 ≤ (-1 : Int)) from by omega) (show (1 : Int) = 0 → 1 ≤ (cf 30).toInt from by omega) (show 0 ≤ (0 : Int) from by first | exact oz_5a341f00aa | omega) (show (0 : Int) + p0.toInt + 1 ≤ (p0.toInt + 1) from by first | exact oz_5323360a91 | omega) (show 0 ≤ z235.toInt from by first | exact rz235.1 | omega) (show z235.toInt < (tf 6).toInt from by first | exact oz_7fe81129bf rz235.2 | omega) (show p0.toInt + 1 ≤ (p0.toInt + 1) from by first | exact oz_a1bc7e1f12 | omega) (show (p0.toInt + 1) ≤ hi from by first | exact oz_8cd8185cc8 hrg.2.1 | omega) (show RcR ta (tf 6).toInt na ma0 d (p0.toInt + 1) hi z389 from hrr) (show KbI ma388 p0 (1 : Int) (cod (-1 : Int) v237.toInt) from (fun h => by omega)) (show ZTa cf (Gk ta ca na ma0 ns ys nf) na ma388 (p0.toInt + 1) (p0.toInt + 1) (cod (-1 : Int) v237.toInt) (na 17 p0.toNatClampNeg) z389 (0 : Int) from (fun _ => by rw [← ez389]; exact tya_0)) (show K_mp_checkCall_94 (RL_mp_check d) tf ta na ca p0 ma cf ma388 cf z235 v237 (-1) 1 0 z389 from (fun y_f0 y_f1 y_v k hE => Exists.intro (k + 1) (Or.inl ⟨rfl, z235, ez235, v237, e240, Or.inr ⟨nc241, v342, e347, Or.inr ⟨nc348, Or.inl ⟨nc382, Or.inl ⟨nc385, z387, ez387, ma388, hu_ma388, z389, ez389, hE⟩⟩⟩⟩⟩))) (show hi - (p0.toInt + 1) < ((((hi - (p0.toInt + 1)).toNat + 1 : Nat) : Int) : Int) from by first | exact oz_natlt | omega) hw (lv_sub hl [6, 7, 5, 4, 3, 2, 1, 0] rfl))
          · have nc385 : ¬ v237.toInt < (0 : Int) := mt (i_lt (x := v237) (y := 0)).mpr c385
            refine lv_iload_n S.x S.b d_Mpg_checkCall_73 rfl (lv_at hl 2 rfl) ?_
            refine lv_goto (tgt := 82) S.x S.b d_Mpg_checkCall_74 (by decide) ?_
            refine px_iast S hT hw 0 14 (n := 2100) (f := (ma 18)) (x := p0) (y := v237) rfl gp_18 (vp_in_iff.mpr (by constructor <;> omega)) d_Mpg_checkCall_82 (w' := wdP cs h r g tf ta pf na (va_up ma 18 (upd (ma 18) p0.toNatClampNeg v237)) wa cf ca ef ea xf xa) (ps' := [wdP cs h r g tf ta pf na (va_up ma 18 (upd (ma 18) p0.toNatClampNeg v237)) wa cf ca ef ea xf xa]) sp_18 rfl (fun H locs hw => ?_)
            obtain ⟨ma390, hu_ma390⟩ : ∃ y : Nat → Nat → Int32, y = va_up ma 18 (upd (ma 18) p0.toNatClampNeg v237) := ⟨_, rfl⟩
            have hw : pw D A s.heap _ _ [wdP cs h r g tf ta pf na ma390 wa cf ca ef ea xf xa] := (by rw [hu_ma390]; exact hw)
            have hf1_ma390 : FrC p0.toInt (p0.toInt + 1) ma ma390 := (by rw [hu_ma390]; exact FrC.w FrC.rf (by omega) (by omega) (by omega))
            have han : Ann na ma0 ma390 := (by rw [hu_ma390]; exact Ann.w18 han (by omega))
            have hfc := hfc.tr hf1_ma390 (by omega) (by omega)
            have hv_18_p0 : ma390 18 p0.toNatClampNeg = v237 := (by rw [hu_ma390, va_up_s, pk_us])
            have hnhv_18_p0 : (ma390 18 p0.toNatClampNeg).toInt = v237.toInt := (by rw [hv_18_p0])
            have hcd1 : (-1 : Int) < 0 → cod (-1 : Int) v237.toInt = v237.toInt := fun h => cod_own h; have hcd2 : 0 ≤ (-1 : Int) → cod (-1 : Int) v237.toInt = 100 + (-1 : Int) := fun h => cod_fun h
            refine lv_iconst (v := 0) S.x S.b d_Mpg_checkCall_83 (by decide) ?_
            refine lv_istore (lv' := [(6, .int 0), (5, .int 1), (4, .int (-1)), (3, .int v237), (2, .int z235), (0, .ref h), (1, .int p0)]) S.x S.b d_Mpg_checkCall_84 hl (by decide) rfl (fun ls hl => ?_)
            refine lv_aload_n S.x S.b d_Mpg_checkCall_86 rfl (lv_at hl 5 rfl) ?_
            refine gP_17 S hT hw 0 rfl m10_1 d_Mpg_checkCall_87 ?_
            refine lv_iload_n S.x S.b d_Mpg_checkCall_90 rfl (lv_at hl 6 rfl) ?_
            refine px_iald S hT hw 0 13 (n := 2100) (f := (na 17)) rfl gp_17 (x := p0) (vp_in_iff.mpr (by first | exact oz_a7e05de1cd hrg.2.2 hrg.2.1 g1 g2 | (constructor <;> omega))) d_Mpg_checkCall_91 ?_
            refine lv_topi (fun z391 ez391 => ?_)
            have lz391 := Int32.le_toInt z391
            have uz391 := Int32.toInt_lt z391
            have hrr := EcV.k3 hec_p0 (by omega) ez391
            refine lv_istore (lv' := [(7, .int z391), (6, .int 0), (5, .int 1), (4, .int (-1)), (3, .int v237), (2, .int z235), (0, .ref h), (1, .int p0)]) S.x S.b d_Mpg_checkCall_92 hl (by decide) rfl (fun ls hl => ?_)
            first | exact J94 ((hi - (p0.toInt + 1)).toNat + 1) ma390 cf (p0.toInt + 1) z235 v237 (-1) (1 : Int32) (0 : Int32) z391 _ _ ls (show KpE cf cf from hke) (show WrV cf (tf 6).toInt from hwr) (show (cf 33).toInt = (cf 33).toInt from rfl) (show (cf 38).toInt = (cf 38).toInt from rfl) (show (cf 48).toInt = (cf 48).toInt from rfl) (show (cf 46).toInt = (cf 46).toInt from rfl) (show (cf 47).toInt = (cf 47).toInt from rfl) (show (cf 57).toInt = (cf 57).toInt from rfl) (show Ann na ma0 ma390 from han) (show FrC lo hi ma ma390 from hfc) (show -1 ≤ v237.toInt from e238) (show v237.toInt ≤ 9 from e239) (show -1 ≤ (-1 : Int) from oz_268d846349) (show (-1 : Int) < nf from (oz_46b89dfbf6 g8)) (show 0 ≤ (1 : Int) from oz_19c3a41681) (show (1 : Int) ≤ 1 from oz_f9181dc4bb) (show (1 : Int) = 1 → (0 ≤ v237.toInt ∧ (-1 : Int) = -1) ∨ (v237.toInt < 0 ∧ 0 ≤ (-1 : Int)) from by omega) (show (1 : Int) = 0 → 1 ≤ (cf 30).toInt from by omega) (show 0 ≤ (0 : Int) from oz_5a341f00aa) (show (0 : Int) + p0.toInt + 1 ≤ (p0.toInt + 1) from oz_5323360a91) (show 0 ≤ z235.toInt from rz235.1) (show z235.toInt < (tf 6).toInt from (oz_7fe81129bf rz235.2)) (show p0.toInt + 1 ≤ (p0.toInt + 1) from oz_a1bc7e1f12) (show (p0.toInt + 1) ≤ hi from (oz_8cd8185cc8 hrg.2.1)) (show RcR ta (tf 6).toInt na ma0 d (p0.toInt + 1) hi z391 from hrr) (show KbI ma390 p0 (1 : Int) (cod (-1 : Int) v237.toInt) from (fun h => by omega)) (show ZTa cf (Gk ta ca na ma0 ns ys nf) na ma390 (p0.toInt + 1) (p0.toInt + 1) (cod (-1 : Int) v237.toInt) (na 17 p0.toNatClampNeg) z391 (0 : Int) from (fun _ => by rw [← ez391]; exact tya_0)) (show K_mp_checkCall_94 (RL_mp_check d) tf ta na ca p0 ma cf ma390 cf z235 v237 (-1) 1 0 z391 from (fun y_f0 y_f1 y_v k hE => Exists.intro (k + 1) (Or.inl ⟨rfl, z235, ez235, v237, e240, Or.inr ⟨nc241, v342, e347, Or.inr ⟨nc348, Or.inl ⟨nc382, Or.inr ⟨nc385, ma390, hu_ma390, z391, ez391, hE⟩⟩⟩⟩⟩))) (show hi - (p0.toInt + 1) < ((((hi - (p0.toInt + 1)).toNat + 1 : Nat) : Int) : Int) from oz_natlt) hw (lv_sub hl [6, 7, 5, 4, 3, 2, 1, 0] rfl) | (exact J94 ((hi - (p0.toInt + 1)).toNat + 1) ma390 cf (p0.toInt + 1) z235 v237 (-1) (1 : Int32) (0 : Int32) z391 _ _ ls (show KpE cf cf from hke) (show WrV cf (tf 6).toInt from hwr) (show (cf 33).toInt = (cf 33).toInt from rfl) (show (cf 38).toInt = (cf 38).toInt from rfl) (show (cf 48).toInt = (cf 48).toInt from rfl) (show (cf 46).toInt = (cf 46).toInt from rfl) (show (cf 47).toInt = (cf 47).toInt from rfl) (show (cf 57).toInt = (cf 57).toInt from rfl) (show Ann na ma0 ma390 from han) (show FrC lo hi ma ma390 from hfc) (show -1 ≤ v237.toInt from by first | exact e238 | omega) (show v237.toInt ≤ 9 from by first | exact e239 | omega) (show -1 ≤ (-1 : Int) from by first | exact oz_268d846349 | omega) (show (-1 : Int) < nf from by first | exact oz_46b89dfbf6 g8 | omega) (show 0 ≤ (1 : Int) from by first | exact oz_19c3a41681 | omega) (show (1 : Int) ≤ 1 from by first | exact oz_f9181dc4bb | omega) (show (1 : Int) = 1 → (0 ≤ v237.toInt ∧ (-1 : Int) = -1) ∨ (v237.toInt < 0 ∧ 0 ≤ (-1 : Int)) from by omega) (show (1 : Int) = 0 → 1 ≤ (cf 30).toInt from by omega) (show 0 ≤ (0 : Int) from by first | exact oz_5a341f00aa | omega) (show (0 : Int) + p0.toInt + 1 ≤ (p0.toInt + 1) from by first | exact oz_5323360a91 | omega) (show 0 ≤ z235.toInt from by first | exact rz235.1 | omega) (show z235.toInt < (tf 6).toInt from by first | exact oz_7fe81129bf rz235.2 | omega) (show p0.toInt + 1 ≤ (p0.toInt + 1) from by first | exact oz_a1bc7e1f12 | omega) (show (p0.toInt + 1) ≤ hi from by first | exact oz_8cd8185cc8 hrg.2.1 | omega) (show RcR ta (tf 6).toInt na ma0 d (p0.toInt + 1) hi z391 from hrr) (show KbI ma390 p0 (1 : Int) (cod (-1 : Int) v237.toInt) from (fun h => by omega)) (show ZTa cf (Gk ta ca na ma0 ns ys nf) na ma390 (p0.toInt + 1) (p0.toInt + 1) (cod (-1 : Int) v237.toInt) (na 17 p0.toNatClampNeg) z391 (0 : Int) from (fun _ => by rw [← ez391]; exact tya_0)) (show K_mp_checkCall_94 (RL_mp_check d) tf ta na ca p0 ma cf ma390 cf z235 v237 (-1) 1 0 z391 from (fun y_f0 y_f1 y_v k hE => Exists.intro (k + 1) (Or.inl ⟨rfl, z235, ez235, v237, e240, Or.inr ⟨nc241, v342, e347, Or.inr ⟨nc348, Or.inl ⟨nc382, Or.inr ⟨nc385, ma390, hu_ma390, z391, ez391, hE⟩⟩⟩⟩⟩))) (show hi - (p0.toInt + 1) < ((((hi - (p0.toInt + 1)).toNat + 1 : Nat) : Int) : Int) from by first | exact oz_natlt | omega) hw (lv_sub hl [6, 7, 5, 4, 3, 2, 1, 0] rfl))
        · exact absurd c384 (by decide)
      · have nc382 : ¬ (0 : Int) ≤ v237.toInt := mt (i_le (x := 0) (y := v237)).mpr c382
        refine lv_iload S.x S.b d_Mpg_checkCall_41 (lv_at hl 0 rfl) ?_
        refine lv_if_lt (tgt := 50) S.x S.b d_Mpg_checkCall_43 (by decide) (fun c392 => ?_) (fun c392 => ?_)
        ·
          refine lv_iconst (v := 0) S.x S.b d_Mpg_checkCall_50 (by decide) ?_
          refine lv_istore (lv' := [(5, .int 0), (4, .int (-1)), (3, .int v237), (2, .int z235), (0, .ref h), (1, .int p0)]) S.x S.b d_Mpg_checkCall_51 hl (by decide) rfl (fun ls hl => ?_)
          refine lv_iload S.x S.b d_Mpg_checkCall_53 (lv_at hl 0 rfl) ?_
          refine lv_if_ne (tgt := 64) S.x S.b d_Mpg_checkCall_55 (by decide) (fun c393 => ?_) (fun c393 => ?_)
          · exact absurd c393 (by decide)
          ·
            refine lv_aload_n S.x S.b d_Mpg_checkCall_58 rfl (lv_at hl 4 rfl) ?_
            refine lv_iconst (v := 2) S.x S.b d_Mpg_checkCall_59 (by decide) ?_
            refine lv_iload_n S.x S.b d_Mpg_checkCall_60 rfl (lv_at hl 3 rfl) ?_
            first | refine px_callv (pr := []) (px_runV (As := [.int 2, .int z235]) (rest := []) S (c_mp_bad l D cs h r g tf ta pf na ma wa ca ef ea xf xa cf 2 z235  (show 1 ≤ (2 : Int) from oz_eaf798137c) (show 0 ≤ z235.toInt from rz235.1) (show z235.toInt < (tf 6).toInt from (oz_7fe81129bf rz235.2)) htk hwr _) hT (pr := []) (pcs := [wdP cs h r g tf ta pf na ma wa cf ca ef ea xf xa]) hw px_X.tt (px_recv hT hw 0 0 rfl rfl rfl) m12_173 m12_170 m12_172 ms_11_12 m1_21 q_Mpg_bad ⟨show 0 + 1 ≤ (4 * d + 14) from (oz_90c46cace3), show 8 + (3 + 11) + 0 ≤ (200 * d + 540) from (oz_2ba881113e)⟩ hl.1 rfl (Nat.le_of_ble_eq_true rfl) d_Mpg_checkCall_61 ⟨Nat.le_of_ble_eq_true rfl, Nat.le_of_ble_eq_true rfl⟩) hw hA (fun p396 H locs hp396 hw => ?_) | (refine px_callv (pr := []) (px_runV (As := [.int 2, .int z235]) (rest := []) S (c_mp_bad l D cs h r g tf ta pf na ma wa ca ef ea xf xa cf 2 z235  (show 1 ≤ (2 : Int) from by first | exact oz_eaf798137c | omega) (show 0 ≤ z235.toInt from by first | exact rz235.1 | omega) (show z235.toInt < (tf 6).toInt from by first | exact oz_7fe81129bf rz235.2 | omega) htk hwr _) hT (pr := []) (pcs := [wdP cs h r g tf ta pf na ma wa cf ca ef ea xf xa]) hw px_X.tt (px_recv hT hw 0 0 rfl rfl rfl) m12_173 m12_170 m12_172 ms_11_12 m1_21 q_Mpg_bad ⟨show 0 + 1 ≤ (4 * d + 14) from (by first | exact oz_90c46cace3 | omega), show 8 + (3 + 11) + 0 ≤ (200 * d + 540) from (by first | exact oz_2ba881113e | omega)⟩ hl.1 rfl (Nat.le_of_ble_eq_true rfl) d_Mpg_checkCall_61 ⟨Nat.le_of_ble_eq_true rfl, Nat.le_of_ble_eq_true rfl⟩) hw hA (fun p396 H locs hp396 hw => ?_))
            obtain ⟨cf395, rfl, e398, e399, e400, e401, e402, e403, e404, e405, e406, e407, e408, e409, e410, e411, e412, e413, e414, e415, e416, e417⟩ := hp396
            have e398 : KpE cf cf395 := e398
            have hke := (hke).tr e398
            have hkz_e398 := e398.2
            have e399 : WrV cf395 (tf 6).toInt := e399
            have hwr := e399
            have hw0_e399 := hwr.1
            have e400 : 1 ≤ (cf395 30).toInt := e400
            have e401 : (cf395 33).toInt = (cf 33).toInt := e401
            have e402 : (cf395 38).toInt = (cf 38).toInt := e402
            have e403 : (cf395 48).toInt = (cf 48).toInt := e403
            have e404 : (cf395 46).toInt = (cf 46).toInt := e404
            have e405 : (cf395 47).toInt = (cf 47).toInt := e405
            have e406 : (cf395 57).toInt = (cf 57).toInt := e406
            have e407 : (cf395 37).toInt = (cf 37).toInt := e407
            have e408 : (cf395 42).toInt = (cf 42).toInt := e408
            have e409 : (cf395 43).toInt = (cf 43).toInt := e409
            have e410 : (cf395 44).toInt = (cf 44).toInt := e410
            have e411 : (cf395 45).toInt = (cf 45).toInt := e411
            have e412 : (cf395 54).toInt = (cf 54).toInt := e412
            have e413 : (cf395 55).toInt = (cf 55).toInt := e413
            have e414 : (cf395 58).toInt = (cf 58).toInt := e414
            have e415 : (cf395 59).toInt = (cf 59).toInt := e415
            have e416 : (cf395 41).toInt = (cf 41).toInt := e416
            have e417 : R_mp_bad (2 : Int32) z235 cf cf395 := e417
            refine lv_aload_n S.x S.b d_Mpg_checkCall_64 rfl (lv_at hl 4 rfl) ?_
            refine gP_18 S hT hw 0 rfl m10_3 d_Mpg_checkCall_65 ?_
            refine lv_iload_n S.x S.b d_Mpg_checkCall_68 rfl (lv_at hl 5 rfl) ?_
            refine lv_iload_n S.x S.b d_Mpg_checkCall_69 rfl (lv_at hl 2 rfl) ?_
            refine lv_if_lt (tgt := 77) S.x S.b d_Mpg_checkCall_70 (by decide) (fun c418 => ?_) (fun c418 => ?_)
            · have nc418 : v237.toInt < (0 : Int) := (i_lt (x := v237) (y := 0)).mp c418
              refine lv_bipush (v := 100) S.x S.b d_Mpg_checkCall_77 (by decide) ?_
              refine lv_iload S.x S.b d_Mpg_checkCall_79 (lv_at hl 1 rfl) ?_
              refine lv_iadd S.x S.b d_Mpg_checkCall_81 ?_
              refine lv_topi (fun z420 ez420 => ?_)
              have tz420 : z420.toInt = ((100 : Int) + (-1 : Int) + 2147483648) % 4294967296 - 2147483648 := by rw [ez420]; exact i_add 100 (-1)
              have lz420 := Int32.le_toInt z420
              have uz420 := Int32.toInt_lt z420
              try replace tz420 : z420.toInt = (100 : Int) + (-1 : Int) := by omega
              refine px_iast S hT hw 0 14 (n := 2100) (f := (ma 18)) (x := p0) (y := z420) rfl gp_18 (vp_in_iff.mpr (by constructor <;> omega)) d_Mpg_checkCall_82 (w' := wdP cs h r g tf ta pf na (va_up ma 18 (upd (ma 18) p0.toNatClampNeg z420)) wa cf395 ca ef ea xf xa) (ps' := [wdP cs h r g tf ta pf na (va_up ma 18 (upd (ma 18) p0.toNatClampNeg z420)) wa cf395 ca ef ea xf xa]) sp_18 rfl (fun H locs hw => ?_)
              obtain ⟨ma421, hu_ma421⟩ : ∃ y : Nat → Nat → Int32, y = va_up ma 18 (upd (ma 18) p0.toNatClampNeg z420) := ⟨_, rfl⟩
              have hw : pw D A s.heap _ _ [wdP cs h r g tf ta pf na ma421 wa cf395 ca ef ea xf xa] := (by rw [hu_ma421]; exact hw)
              have hf1_ma421 : FrC p0.toInt (p0.toInt + 1) ma ma421 := (by rw [hu_ma421]; exact FrC.w FrC.rf (by omega) (by omega) (by omega))
              have han : Ann na ma0 ma421 := (by rw [hu_ma421]; exact Ann.w18 han (by omega))
              have hfc := hfc.tr hf1_ma421 (by omega) (by omega)
              have hv_18_p0 : ma421 18 p0.toNatClampNeg = z420 := (by rw [hu_ma421, va_up_s, pk_us])
              have hnhv_18_p0 : (ma421 18 p0.toNatClampNeg).toInt = z420.toInt := (by rw [hv_18_p0])
              have hcd1 : (-1 : Int) < 0 → cod (-1 : Int) v237.toInt = v237.toInt := fun h => cod_own h; have hcd2 : 0 ≤ (-1 : Int) → cod (-1 : Int) v237.toInt = 100 + (-1 : Int) := fun h => cod_fun h
              refine lv_iconst (v := 0) S.x S.b d_Mpg_checkCall_83 (by decide) ?_
              refine lv_istore (lv' := [(6, .int 0), (5, .int 0), (4, .int (-1)), (3, .int v237), (2, .int z235), (0, .ref h), (1, .int p0)]) S.x S.b d_Mpg_checkCall_84 hl (by decide) rfl (fun ls hl => ?_)
              refine lv_aload_n S.x S.b d_Mpg_checkCall_86 rfl (lv_at hl 5 rfl) ?_
              refine gP_17 S hT hw 0 rfl m10_1 d_Mpg_checkCall_87 ?_
              refine lv_iload_n S.x S.b d_Mpg_checkCall_90 rfl (lv_at hl 6 rfl) ?_
              refine px_iald S hT hw 0 13 (n := 2100) (f := (na 17)) rfl gp_17 (x := p0) (vp_in_iff.mpr (by first | exact oz_a7e05de1cd hrg.2.2 hrg.2.1 g1 g2 | (constructor <;> omega))) d_Mpg_checkCall_91 ?_
              refine lv_topi (fun z422 ez422 => ?_)
              have lz422 := Int32.le_toInt z422
              have uz422 := Int32.toInt_lt z422
              have hrr := EcV.k3 hec_p0 (by omega) ez422
              refine lv_istore (lv' := [(7, .int z422), (6, .int 0), (5, .int 0), (4, .int (-1)), (3, .int v237), (2, .int z235), (0, .ref h), (1, .int p0)]) S.x S.b d_Mpg_checkCall_92 hl (by decide) rfl (fun ls hl => ?_)
              first | exact J94 ((hi - (p0.toInt + 1)).toNat + 1) ma421 cf395 (p0.toInt + 1) z235 v237 (-1) (0 : Int32) (0 : Int32) z422 _ _ ls (show KpE cf cf395 from hke) (show WrV cf395 (tf 6).toInt from hwr) (show (cf395 33).toInt = (cf 33).toInt from e401) (show (cf395 38).toInt = (cf 38).toInt from e402) (show (cf395 48).toInt = (cf 48).toInt from e403) (show (cf395 46).toInt = (cf 46).toInt from e404) (show (cf395 47).toInt = (cf 47).toInt from e405) (show (cf395 57).toInt = (cf 57).toInt from e406) (show Ann na ma0 ma421 from han) (show FrC lo hi ma ma421 from hfc) (show -1 ≤ v237.toInt from e238) (show v237.toInt ≤ 9 from e239) (show -1 ≤ (-1 : Int) from oz_268d846349) (show (-1 : Int) < nf from (oz_46b89dfbf6 g8)) (show 0 ≤ (0 : Int) from oz_5a341f00aa) (show (0 : Int) ≤ 1 from oz_6e68cd0f48) (show (0 : Int) = 1 → (0 ≤ v237.toInt ∧ (-1 : Int) = -1) ∨ (v237.toInt < 0 ∧ 0 ≤ (-1 : Int)) from by omega) (show (0 : Int) = 0 → 1 ≤ (cf395 30).toInt from by omega) (show 0 ≤ (0 : Int) from oz_5a341f00aa) (show (0 : Int) + p0.toInt + 1 ≤ (p0.toInt + 1) from oz_5323360a91) (show 0 ≤ z235.toInt from rz235.1) (show z235.toInt < (tf 6).toInt from (oz_7fe81129bf rz235.2)) (show p0.toInt + 1 ≤ (p0.toInt + 1) from oz_a1bc7e1f12) (show (p0.toInt + 1) ≤ hi from (oz_8cd8185cc8 hrg.2.1)) (show RcR ta (tf 6).toInt na ma0 d (p0.toInt + 1) hi z422 from hrr) (show KbI ma421 p0 (0 : Int) (cod (-1 : Int) v237.toInt) from (fun h => by omega)) (show ZTa cf395 (Gk ta ca na ma0 ns ys nf) na ma421 (p0.toInt + 1) (p0.toInt + 1) (cod (-1 : Int) v237.toInt) (na 17 p0.toNatClampNeg) z422 (0 : Int) from (fun _ => by rw [← ez422]; exact tya_0)) (show K_mp_checkCall_94 (RL_mp_check d) tf ta na ca p0 ma cf ma421 cf395 z235 v237 (-1) 0 0 z422 from (fun y_f0 y_f1 y_v k hE => Exists.intro (k + 1) (Or.inl ⟨rfl, z235, ez235, v237, e240, Or.inr ⟨nc241, v342, e347, Or.inr ⟨nc348, Or.inr ⟨nc382, cf395, e417, Or.inl ⟨nc418, z420, ez420, ma421, hu_ma421, z422, ez422, hE⟩⟩⟩⟩⟩))) (show hi - (p0.toInt + 1) < ((((hi - (p0.toInt + 1)).toNat + 1 : Nat) : Int) : Int) from oz_natlt) hw (lv_sub hl [6, 7, 5, 4, 3, 2, 1, 0] rfl) | (exact J94 ((hi - (p0.toInt + 1)).toNat + 1) ma421 cf395 (p0.toInt + 1) z235 v237 (-1) (0 : Int32) (0 : Int32) z422 _ _ ls (show KpE cf cf395 from hke) (show WrV cf395 (tf 6).toInt from hwr) (show (cf395 33).toInt = (cf 33).toInt from by first | exact e401 | omega) (show (cf395 38).toInt = (cf 38).toInt from by first | exact e402 | omega) (show (cf395 48).toInt = (cf 48).toInt from by first | exact e403 | omega) (show (cf395 46).toInt = (cf 46).toInt from by first | exact e404 | omega) (show (cf395 47).toInt = (cf 47).toInt from by first | exact e405 | omega) (show (cf395 57).toInt = (cf 57).toInt from by first | exact e406 | omega) (show Ann na ma0 ma421 from han) (show FrC lo hi ma ma421 from hfc) (show -1 ≤ v237.toInt from by first | exact e238 | omega) (show v237.toInt ≤ 9 from by first | exact e239 | omega) (show -1 ≤ (-1 : Int) from by first | exact oz_268d846349 | omega) (show (-1 : Int) < nf from by first | exact oz_46b89dfbf6 g8 | omega) (show 0 ≤ (0 : Int) from by first | exact oz_5a341f00aa | omega) (show (0 : Int) ≤ 1 from by first | exact oz_6e68cd0f48 | omega) (show (0 : Int) = 1 → (0 ≤ v237.toInt ∧ (-1 : Int) = -1) ∨ (v237.toInt < 0 ∧ 0 ≤ (-1 : Int)) from by omega) (show (0 : Int) = 0 → 1 ≤ (cf395 30).toInt from by omega) (show 0 ≤ (0 : Int) from by first | exact oz_5a341f00aa | omega) (show (0 : Int) + p0.toInt + 1 ≤ (p0.toInt + 1) from by first | exact oz_5323360a91 | omega) (show 0 ≤ z235.toInt from by first | exact rz235.1 | omega) (show z235.toInt < (tf 6).toInt from by first | exact oz_7fe81129bf rz235.2 | omega) (show p0.toInt + 1 ≤ (p0.toInt + 1) from by first | exact oz_a1bc7e1f12 | omega) (show (p0.toInt + 1) ≤ hi from by first | exact oz_8cd8185cc8 hrg.2.1 | omega) (show RcR ta (tf 6).toInt na ma0 d (p0.toInt + 1) hi z422 from hrr) (show KbI ma421 p0 (0 : Int) (cod (-1 : Int) v237.toInt) from (fun h => by omega)) (show ZTa cf395 (Gk ta ca na ma0 ns ys nf) na ma421 (p0.toInt + 1) (p0.toInt + 1) (cod (-1 : Int) v237.toInt) (na 17 p0.toNatClampNeg) z422 (0 : Int) from (fun _ => by rw [← ez422]; exact tya_0)) (show K_mp_checkCall_94 (RL_mp_check d) tf ta na ca p0 ma cf ma421 cf395 z235 v237 (-1) 0 0 z422 from (fun y_f0 y_f1 y_v k hE => Exists.intro (k + 1) (Or.inl ⟨rfl, z235, ez235, v237, e240, Or.inr ⟨nc241, v342, e347, Or.inr ⟨nc348, Or.inr ⟨nc382, cf395, e417, Or.inl ⟨nc418, z420, ez420, ma421, hu_ma421, z422, ez422, hE⟩⟩⟩⟩⟩))) (show hi - (p0.toInt + 1) < ((((hi - (p0.toInt + 1)).toNat + 1 : Nat) : Int) : Int) from by first | exact oz_natlt | omega) hw (lv_sub hl [6, 7, 5, 4, 3, 2, 1, 0] rfl))
            · have nc418 : ¬ v237.toInt < (0 : Int) := mt (i_lt (x := v237) (y := 0)).mpr c418
              refine lv_iload_n S.x S.b d_Mpg_checkCall_73 rfl (lv_at hl 2 rfl) ?_
              refine lv_goto (tgt := 82) S.x S.b d_Mpg_checkCall_74 (by decide) ?_
              refine px_iast S hT hw 0 14 (n := 2100) (f := (ma 18)) (x := p0) (y := v237) rfl gp_18 (vp_in_iff.mpr (by constructor <;> omega)) d_Mpg_checkCall_82 (w' := wdP cs h r g tf ta pf na (va_up ma 18 (upd (ma 18) p0.toNatClampNeg v237)) wa cf395 ca ef ea xf xa) (ps' := [wdP cs h r g tf ta pf na (va_up ma 18 (upd (ma 18) p0.toNatClampNeg v237)) wa cf395 ca ef ea xf xa]) sp_18 rfl (fun H locs hw => ?_)
              obtain ⟨ma423, hu_ma423⟩ : ∃ y : Nat → Nat → Int32, y = va_up ma 18 (upd (ma 18) p0.toNatClampNeg v237) := ⟨_, rfl⟩
              have hw : pw D A s.heap _ _ [wdP cs h r g tf ta pf na ma423 wa cf395 ca ef ea xf xa] := (by rw [hu_ma423]; exact hw)
              have hf1_ma423 : FrC p0.toInt (p0.toInt + 1) ma ma423 := (by rw [hu_ma423]; exact FrC.w FrC.rf (by omega) (by omega) (by omega))
              have han : Ann na ma0 ma423 := (by rw [hu_ma423]; exact Ann.w18 han (by omega))
              have hfc := hfc.tr hf1_ma423 (by omega) (by omega)
              have hv_18_p0 : ma423 18 p0.toNatClampNeg = v237 := (by rw [hu_ma423, va_up_s, pk_us])
              have hnhv_18_p0 : (ma423 18 p0.toNatClampNeg).toInt = v237.toInt := (by rw [hv_18_p0])
              have hcd1 : (-1 : Int) < 0 → cod (-1 : Int) v237.toInt = v237.toInt := fun h => cod_own h; have hcd2 : 0 ≤ (-1 : Int) → cod (-1 : Int) v237.toInt = 100 + (-1 : Int) := fun h => cod_fun h
              refine lv_iconst (v := 0) S.x S.b d_Mpg_checkCall_83 (by decide) ?_
              refine lv_istore (lv' := [(6, .int 0), (5, .int 0), (4, .int (-1)), (3, .int v237), (2, .int z235), (0, .ref h), (1, .int p0)]) S.x S.b d_Mpg_checkCall_84 hl (by decide) rfl (fun ls hl => ?_)
              refine lv_aload_n S.x S.b d_Mpg_checkCall_86 rfl (lv_at hl 5 rfl) ?_
              refine gP_17 S hT hw 0 rfl m10_1 d_Mpg_checkCall_87 ?_
              refine lv_iload_n S.x S.b d_Mpg_checkCall_90 rfl (lv_at hl 6 rfl) ?_
              refine px_iald S hT hw 0 13 (n := 2100) (f := (na 17)) rfl gp_17 (x := p0) (vp_in_iff.mpr (by first | exact oz_a7e05de1cd hrg.2.2 hrg.2.1 g1 g2 | (constructor <;> omega))) d_Mpg_checkCall_91 ?_
              refine lv_topi (fun z424 ez424 => ?_)
              have lz424 := Int32.le_toInt z424
              have uz424 := Int32.toInt_lt z424
              have hrr := EcV.k3 hec_p0 (by omega) ez424
              refine lv_istore (lv' := [(7, .int z424), (6, .int 0), (5, .int 0), (4, .int (-1)), (3, .int v237), (2, .int z235), (0, .ref h), (1, .int p0)]) S.x S.b d_Mpg_checkCall_92 hl (by decide) rfl (fun ls hl => ?_)
              first | exact J94 ((hi - (p0.toInt + 1)).toNat + 1) ma423 cf395 (p0.toInt + 1) z235 v237 (-1) (0 : Int32) (0 : Int32) z424 _ _ ls (show KpE cf cf395 from hke) (show WrV cf395 (tf 6).toInt from hwr) (show (cf395 33).toInt = (cf 33).toInt from e401) (show (cf395 38).toInt = (cf 38).toInt from e402) (show (cf395 48).toInt = (cf 48).toInt from e403) (show (cf395 46).toInt = (cf 46).toInt from e404) (show (cf395 47).toInt = (cf 47).toInt from e405) (show (cf395 57).toInt = (cf 57).toInt from e406) (show Ann na ma0 ma423 from han) (show FrC lo hi ma ma423 from hfc) (show -1 ≤ v237.toInt from e238) (show v237.toInt ≤ 9 from e239) (show -1 ≤ (-1 : Int) from oz_268d846349) (show (-1 : Int) < nf from (oz_46b89dfbf6 g8)) (show 0 ≤ (0 : Int) from oz_5a341f00aa) (show (0 : Int) ≤ 1 from oz_6e68cd0f48) (show (0 : Int) = 1 → (0 ≤ v237.toInt ∧ (-1 : Int) = -1) ∨ (v237.toInt < 0 ∧ 0 ≤ (-1 : Int)) from by omega) (show (0 : Int) = 0 → 1 ≤ (cf395 30).toInt from by omega) (show 0 ≤ (0 : Int) from oz_5a341f00aa) (show (0 : Int) + p0.toInt + 1 ≤ (p0.toInt + 1) from oz_5323360a91) (show 0 ≤ z235.toInt from rz235.1) (show z235.toInt < (tf 6).toInt from (oz_7fe81129bf rz235.2)) (show p0.toInt + 1 ≤ (p0.toInt + 1) from oz_a1bc7e1f12) (show (p0.toInt + 1) ≤ hi from (oz_8cd8185cc8 hrg.2.1)) (show RcR ta (tf 6).toInt na ma0 d (p0.toInt + 1) hi z424 from hrr) (show KbI ma423 p0 (0 : Int) (cod (-1 : Int) v237.toInt) from (fun h => by omega)) (show ZTa cf395 (Gk ta ca na ma0 ns ys nf) na ma423 (p0.toInt + 1) (p0.toInt + 1) (cod (-1 : Int) v237.toInt) (na 17 p0.toNatClampNeg) z424 (0 : Int) from (fun _ => by rw [← ez424]; exact tya_0)) (show K_mp_checkCall_94 (RL_mp_check d) tf ta na ca p0 ma cf ma423 cf395 z235 v237 (-1) 0 0 z424 from (fun y_f0 y_f1 y_v k hE => Exists.intro (k + 1) (Or.inl ⟨rfl, z235, ez235, v237, e240, Or.inr ⟨nc241, v342, e347, Or.inr ⟨nc348, Or.inr ⟨nc382, cf395, e417, Or.inr ⟨nc418, ma423, hu_ma423, z424, ez424, hE⟩⟩⟩⟩⟩))) (show hi - (p0.toInt + 1) < ((((hi - (p0.toInt + 1)).toNat + 1 : Nat) : Int) : Int) from oz_natlt) hw (lv_sub hl [6, 7, 5, 4, 3, 2, 1, 0] rfl) | (exact J94 ((hi - (p0.toInt + 1)).toNat + 1) ma423 cf395 (p0.toInt + 1) z235 v237 (-1) (0 : Int32) (0 : Int32) z424 _ _ ls (show KpE cf cf395 from hke) (show WrV cf395 (tf 6).toInt from hwr) (show (cf395 33).toInt = (cf 33).toInt from by first | exact e401 | omega) (show (cf395 38).toInt = (cf 38).toInt from by first | exact e402 | omega) (show (cf395 48).toInt = (cf 48).toInt from by first | exact e403 | omega) (show (cf395 46).toInt = (cf 46).toInt from by first | exact e404 | omega) (show (cf395 47).toInt = (cf 47).toInt from by first | exact e405 | omega) (show (cf395 57).toInt = (cf 57).toInt from by first | exact e406 | omega) (show Ann na ma0 ma423 from han) (show FrC lo hi ma ma423 from hfc) (show -1 ≤ v237.toInt from by first | exact e238 | omega) (show v237.toInt ≤ 9 from by first | exact e239 | omega) (show -1 ≤ (-1 : Int) from by first | exact oz_268d846349 | omega) (show (-1 : Int) < nf from by first | exact oz_46b89dfbf6 g8 | omega) (show 0 ≤ (0 : Int) from by first | exact oz_5a341f00aa | omega) (show (0 : Int) ≤ 1 from by first | exact oz_6e68cd0f48 | omega) (show (0 : Int) = 1 → (0 ≤ v237.toInt ∧ (-1 : Int) = -1) ∨ (v237.toInt < 0 ∧ 0 ≤ (-1 : Int)) from by omega) (show (0 : Int) = 0 → 1 ≤ (cf395 30).toInt from by omega) (show 0 ≤ (0 : Int) from by first | exact oz_5a341f00aa | omega) (show (0 : Int) + p0.toInt + 1 ≤ (p0.toInt + 1) from by first | exact oz_5323360a91 | omega) (show 0 ≤ z235.toInt from by first | exact rz235.1 | omega) (show z235.toInt < (tf 6).toInt from by first | exact oz_7fe81129bf rz235.2 | omega) (show p0.toInt + 1 ≤ (p0.toInt + 1) from by first | exact oz_a1bc7e1f12 | omega) (show (p0.toInt + 1) ≤ hi from by first | exact oz_8cd8185cc8 hrg.2.1 | omega) (show RcR ta (tf 6).toInt na ma0 d (p0.toInt + 1) hi z424 from hrr) (show KbI ma423 p0 (0 : Int) (cod (-1 : Int) v237.toInt) from (fun h => by omega)) (show ZTa cf395 (Gk ta ca na ma0 ns ys nf) na ma423 (p0.toInt + 1) (p0.toInt + 1) (cod (-1 : Int) v237.toInt) (na 17 p0.toNatClampNeg) z424 (0 : Int) from (fun _ => by rw [← ez424]; exact tya_0)) (show K_mp_checkCall_94 (RL_mp_check d) tf ta na ca p0 ma cf ma423 cf395 z235 v237 (-1) 0 0 z424 from (fun y_f0 y_f1 y_v k hE => Exists.intro (k + 1) (Or.inl ⟨rfl, z235, ez235, v237, e240, Or.inr ⟨nc241, v342, e347, Or.inr ⟨nc348, Or.inr ⟨nc382, cf395, e417, Or.inr ⟨nc418, ma423, hu_ma423, z424, ez424, hE⟩⟩⟩⟩⟩))) (show hi - (p0.toInt + 1) < ((((hi - (p0.toInt + 1)).toNat + 1 : Nat) : Int) : Int) from by first | exact oz_natlt | omega) hw (lv_sub hl [6, 7, 5, 4, 3, 2, 1, 0] rfl))
        · exact absurd c392 (by decide)
