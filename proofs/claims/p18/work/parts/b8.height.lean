theorem oz_cb73ed35de {a0 a1 a2 a3 : Int} (h0 : a0 = a1 - (100 : Int)) (h1 : a1 = a2) (h2 : a3 = (0 : Int)) (h3 : 0 ≤ a3) (h4 : a3 = 0 → 100 ≤ a2) : -1 ≤ a0 := by omega
theorem oz_f2f12181a2 {a0 a1 a2 a3 a4 a5 : Int} (h0 : a3 + a1 + 1 ≤ a4) (h1 : a5 ≤ 2 * (a2 - a4)) (h2 : a0 = a3 + 1) (h3 : 1 ≤ a5) : a0 + a1 + 1 ≤ a2 := by omega
theorem oz_03606900a4 {a0 a1 a2 a3 : Int} (h0 : a0 + 1 ≤ a2) (h1 : a3 ≤ 2 * (a1 - a2)) (h2 : 1 ≤ a3) : a0 + 1 ≤ a1 := by omega
theorem oz_d06cdef794 {a0 a1 a2 a3 a4 : Int} (h0 : a2 ≤ a1) (h1 : a0 = a3 + (1 : Int)) (h2 : a2 = a3 + a4) (h3 : 1 ≤ a4) : a0 ≤ a1 := by omega
theorem oz_9009d237ba {a0 a1 a3 a4 : Int} {n2 : Nat} (h0 : a0 - a3 < ((n2 + 1 : Nat) : Int)) (h1 : a4 ≤ 2 * (a1 - a3)) (h2 : 1 ≤ a4) : a0 - a1 < (n2 : Int) := by omega
theorem oz_58d7b95763 {a0 a1 : Int} (h0 : ¬ a0 ≤ a1) (h1 : 1 ≤ a1) : 1 ≤ a0 := by omega
theorem oz_07d5c453ac {a0 a1 a2 a3 a4 a5 a6 a7 a8 : Int} (h0 : a2 ≤ a3) (h1 : a4 ≤ a1) (h2 : a0 = a5 + a6) (h3 : a5 ≤ 2 * a7) (h4 : a7 + a3 + 1 ≤ a8) (h5 : a6 ≤ 2 * (a4 - a8)) : a0 ≤ 2 * (a1 - a2) := by omega
theorem oz_b2658c9b4e {a0 a1 a2 a3 : Int} (h0 : a1 = a2 + a3) (h1 : a0 = a2 + (1 : Int)) (h2 : 1 ≤ a3) : a0 ≤ a1 := by omega
theorem oz_7e90d38d08 {a0 a1 a2 a3 : Int} (h0 : a2 ≤ a1) (h1 : a0 = a3 + (2 : Int)) (h2 : a2 = a3 + (2 : Int)) : a0 ≤ a1 := by omega
theorem oz_a158216c70 {a0 a1 a2 a3 a4 a5 a6 : Int} (h0 : a2 ≤ a3) (h1 : a4 ≤ a1) (h2 : a0 = a5 + (2 : Int)) (h3 : a5 ≤ 2 * a6) (h4 : a6 + a3 + 1 ≤ a4) : a0 ≤ 2 * (a1 - a2) := by omega
theorem oz_eb1698c6c8 {a0 a1 a2 : Int} (h0 : a1 = a2 + (2 : Int)) (h1 : a0 = a2 + (2 : Int)) : a0 ≤ a1 := by omega
theorem oz_7f6cba95dd {a0 a1 : Int} (h0 : a0 = a1) (h1 : 0 ≤ a1) : (-1 : Int) < a0 := by omega
theorem oz_3f400c68fe {a0 a1 a2 a3 : Int} (h0 : a0 < a2) (h1 : a3 ≤ 2 * (a1 - a2)) (h2 : 1 ≤ a3) : a0 < a1 := by omega
theorem oz_41a80e4c03 {a0 a1 a2 a3 a4 a5 : Int} (h0 : a2 < a3) (h1 : a4 ≤ a1) (h2 : a0 = (1 : Int) + a5) (h3 : a5 ≤ 2 * (a4 - a3)) : a0 ≤ 2 * (a1 - a2) := by omega
theorem oz_b6e6ff28b8 {a0 a1 a2 a3 : Int} (h0 : a3 < a1) (h1 : a0 ≤ 2 * (a3 - a2)) : a0 ≤ 2 * (a1 - a2) := by omega
theorem oz_379898b557 {a0 a1 a2 : Int} (h0 : a1 ≤ a2) (h1 : a2 < a0) : (1 : Int) ≤ 2 * (a0 - a1) := by omega
theorem oz_e5c01f361a {a0 a1 a2 a3 : Int} (h0 : a2 ≤ a3) (h1 : a0 ≤ 2 * (a1 - (a3 + 1))) : a0 ≤ 2 * (a1 - a2) := by omega
theorem oz_70fae65cb7 {a0 a1 a2 a3 a4 : Int} (h0 : a3 < a1) (h1 : a0 ≤ 2 * (a4 - a2)) (h2 : a4 ≤ a3) : a0 ≤ 2 * (a1 - a2) := by omega
theorem oz_5e4a203018 {a0 a1 a2 : Int} (h0 : a0 ≤ a2) (h1 : a2 < a1) : a0 < a1 := by omega
theorem oz_fb2bb6e922 {a0 a1 a2 a3 a4 a5 a6 a7 : Int} (h0 : a3 < a1) (h1 : a0 ≤ 2 * (a4 - a2)) (h2 : 1 ≤ a5) (h3 : a5 ≤ 2 * (a6 - a4)) (h4 : 1 ≤ a7) (h5 : a7 ≤ 2 * (a3 - a6)) : a0 ≤ 2 * (a1 - a2) := by omega
theorem oz_62956263f3 {a0 a1 a2 a3 a4 a5 a6 a7 : Int} (h0 : a3 < a1) (h1 : a2 ≤ a4) (h2 : a0 ≤ 2 * (a3 - a5)) (h3 : a4 < a6) (h4 : a6 ≤ a7) (h5 : a7 < a5) : a0 ≤ 2 * (a1 - a2) := by omega
theorem oz_9f9208b9f4 {a0 a1 a2 a3 a4 a5 a6 a7 : Int} (h0 : a3 < a1) (h1 : a2 ≤ a4) (h2 : a0 ≤ 2 * (a5 - a6)) (h3 : a4 < a6) (h4 : a5 ≤ a7) (h5 : a7 < (a3)) : a0 ≤ 2 * (a1 - a2) := by omega
theorem oz_952fdbc7e0 {a0 a1 a2 a3 a4 a5 : Int} (h0 : 0 ≤ a0) (h1 : a0 < a1) (h2 : a1 ≤ a2) (h3 : a3 < a4) (h4 : a2 < (a3)) (h5 : a4 ≤ a5) (h6 : a5 ≤ 2100) : 0 ≤ a0 ∧ a0 < ((2100 : Nat) : Int) := by omega
theorem oz_a23c3dad80 {a0 a1 a2 a3 a4 a5 : Int} (h0 : a3 < a1) (h1 : a2 ≤ a4) (h2 : a0 ≤ 2 * (a3 - a5)) (h3 : a4 < a5) : a0 ≤ 2 * (a1 - a2) := by omega
theorem oz_af6d0efbcf {a0 a1 : Int} (h0 : a0 = a1 + (1 : Int)) (h1 : 1 ≤ a1) : 1 ≤ a0 := by omega
theorem oz_48783c20bd {a0 a1 a2 a3 a4 a5 a6 : Int} (h0 : a3 < a1) (h1 : a2 ≤ a4) (h2 : a0 = a5 + (1 : Int)) (h3 : a5 ≤ 2 * (a3 - a6)) (h4 : a4 < a6) : a0 ≤ 2 * (a1 - a2) := by omega
theorem oz_10f5cc4f8d {a0 a1 a2 a3 a4 a5 a6 : Int} (h0 : a3 < a1) (h1 : a2 ≤ a4) (h2 : a0 ≤ 2 * (a5 - (a4 + 1))) (h3 : a5 ≤ a6) (h4 : a6 < (a3)) : a0 ≤ 2 * (a1 - a2) := by omega
theorem m13_62 : Cond.methodLink "HomeSystemModel$Program" 679 ⟨"HomeSystemModel$Program", "height", "(I)I"⟩ ∈ AL := AL_13 (List.mem_of_getElem? (i := 62) rfl) rfl
theorem m13_65 : Cond.code ⟨"HomeSystemModel$Program", "height", "(I)I"⟩ prog_16_method_98_code 12 (Option.some FieldType.int) ∈ AL := AL_13 (List.mem_of_getElem? (i := 65) rfl) rfl
theorem ms_13_13 : Cond.selects "HomeSystemModel$Program" ⟨"HomeSystemModel$Program", "height", "(I)I"⟩ ⟨"HomeSystemModel$Program", "height", "(I)I"⟩ ∈ AL := AL_p (q := (⟨"HomeSystemModel$Program", "height", "(I)I"⟩, 69)) (by unfold lw_privs; exact List.mem_append_right _ (List.mem_append_right _ (List.mem_append_right _ (List.mem_append_right _ (List.mem_append_right _ (List.mem_append_right _ (List.mem_append_right _ (List.mem_append_right _ (List.mem_append_right _ (List.mem_append_right _ (List.mem_append_right _ (List.mem_append_right _ (List.mem_append_left _ (List.mem_of_getElem? (i := 13) rfl))))))))))))))
theorem m13_64 : Cond.instanceMethod ⟨"HomeSystemModel$Program", "height", "(I)I"⟩ ∈ AL := AL_13 (List.mem_of_getElem? (i := 64) rfl) rfl
abbrev b_Mpg_height : ByteArray := prog_16_method_98_code
def y_Mpg_height : MethodName := ⟨"HomeSystemModel$Program", "height", "(I)I"⟩
theorem d_Mpg_height_0 : decode b_Mpg_height 0 = .ok (.aload_n 0, 1) := by decide +kernel
theorem d_Mpg_height_1 : decode b_Mpg_height 1 = .ok (.getfield 207, 3) := by decide +kernel
theorem d_Mpg_height_4 : decode b_Mpg_height 4 = .ok (.iload_n 1, 1) := by decide +kernel
theorem d_Mpg_height_5 : decode b_Mpg_height 5 = .ok (.baload, 1) := by decide +kernel
theorem d_Mpg_height_6 : decode b_Mpg_height 6 = .ok (.tableswitch 439 1 9 #[50, 50, 52, 223, 439, 439, 234, 305, 372], 50) := by decide +kernel
theorem d_Mpg_height_56 : decode b_Mpg_height 56 = .ok (.iconst 1, 1) := by decide +kernel
theorem d_Mpg_height_57 : decode b_Mpg_height 57 = .ok (.ireturn, 1) := by decide +kernel
theorem d_Mpg_height_58 : decode b_Mpg_height 58 = .ok (.iconst 1, 1) := by decide +kernel
theorem d_Mpg_height_59 : decode b_Mpg_height 59 = .ok (.istore_n 2, 1) := by decide +kernel
theorem d_Mpg_height_60 : decode b_Mpg_height 60 = .ok (.iconst 0, 1) := by decide +kernel
theorem d_Mpg_height_61 : decode b_Mpg_height 61 = .ok (.istore_n 3, 1) := by decide +kernel
theorem d_Mpg_height_62 : decode b_Mpg_height 62 = .ok (.aload_n 0, 1) := by decide +kernel
theorem d_Mpg_height_63 : decode b_Mpg_height 63 = .ok (.getfield 219, 3) := by decide +kernel
theorem d_Mpg_height_66 : decode b_Mpg_height 66 = .ok (.iload_n 1, 1) := by decide +kernel
theorem d_Mpg_height_67 : decode b_Mpg_height 67 = .ok (.iaload, 1) := by decide +kernel
theorem d_Mpg_height_68 : decode b_Mpg_height 68 = .ok (.bipush 100, 2) := by decide +kernel
theorem d_Mpg_height_70 : decode b_Mpg_height 70 = .ok (.if_icmp .ge 7, 3) := by decide +kernel
theorem d_Mpg_height_73 : decode b_Mpg_height 73 = .ok (.iconst 1, 1) := by decide +kernel
theorem d_Mpg_height_74 : decode b_Mpg_height 74 = .ok (.goto 4, 3) := by decide +kernel
theorem d_Mpg_height_77 : decode b_Mpg_height 77 = .ok (.iconst 0, 1) := by decide +kernel
theorem d_Mpg_height_78 : decode b_Mpg_height 78 = .ok (.istore 4, 2) := by decide +kernel
theorem d_Mpg_height_80 : decode b_Mpg_height 80 = .ok (.iconst 0, 1) := by decide +kernel
theorem d_Mpg_height_81 : decode b_Mpg_height 81 = .ok (.istore 5, 2) := by decide +kernel
theorem d_Mpg_height_83 : decode b_Mpg_height 83 = .ok (.aload_n 0, 1) := by decide +kernel
theorem d_Mpg_height_84 : decode b_Mpg_height 84 = .ok (.getfield 216, 3) := by decide +kernel
theorem d_Mpg_height_87 : decode b_Mpg_height 87 = .ok (.iload_n 1, 1) := by decide +kernel
theorem d_Mpg_height_88 : decode b_Mpg_height 88 = .ok (.iaload, 1) := by decide +kernel
theorem d_Mpg_height_89 : decode b_Mpg_height 89 = .ok (.istore 6, 2) := by decide +kernel
theorem d_Mpg_height_91 : decode b_Mpg_height 91 = .ok (.iload 6, 2) := by decide +kernel
theorem d_Mpg_height_93 : decode b_Mpg_height 93 = .ok (.ifCond .lt 134, 3) := by decide +kernel
theorem d_Mpg_height_96 : decode b_Mpg_height 96 = .ok (.iload 4, 2) := by decide +kernel
theorem d_Mpg_height_98 : decode b_Mpg_height 98 = .ok (.ifCond .eq 19, 3) := by decide +kernel
theorem d_Mpg_height_101 : decode b_Mpg_height 101 = .ok (.aload_n 0, 1) := by decide +kernel
theorem d_Mpg_height_102 : decode b_Mpg_height 102 = .ok (.iconst (-1), 1) := by decide +kernel
theorem d_Mpg_height_103 : decode b_Mpg_height 103 = .ok (.aload_n 0, 1) := by decide +kernel
theorem d_Mpg_height_104 : decode b_Mpg_height 104 = .ok (.getfield 219, 3) := by decide +kernel
theorem d_Mpg_height_107 : decode b_Mpg_height 107 = .ok (.iload_n 1, 1) := by decide +kernel
theorem d_Mpg_height_108 : decode b_Mpg_height 108 = .ok (.iaload, 1) := by decide +kernel
theorem d_Mpg_height_109 : decode b_Mpg_height 109 = .ok (.iload 5, 2) := by decide +kernel
theorem d_Mpg_height_111 : decode b_Mpg_height 111 = .ok (.invokevirtual 587, 3) := by decide +kernel
theorem d_Mpg_height_114 : decode b_Mpg_height 114 = .ok (.goto 19, 3) := by decide +kernel
theorem d_Mpg_height_117 : decode b_Mpg_height 117 = .ok (.aload_n 0, 1) := by decide +kernel
theorem d_Mpg_height_118 : decode b_Mpg_height 118 = .ok (.aload_n 0, 1) := by decide +kernel
theorem d_Mpg_height_119 : decode b_Mpg_height 119 = .ok (.getfield 219, 3) := by decide +kernel
theorem d_Mpg_height_122 : decode b_Mpg_height 122 = .ok (.iload_n 1, 1) := by decide +kernel
theorem d_Mpg_height_123 : decode b_Mpg_height 123 = .ok (.iaload, 1) := by decide +kernel
theorem d_Mpg_height_124 : decode b_Mpg_height 124 = .ok (.bipush 100, 2) := by decide +kernel
theorem d_Mpg_height_126 : decode b_Mpg_height 126 = .ok (.isub, 1) := by decide +kernel
theorem d_Mpg_height_127 : decode b_Mpg_height 127 = .ok (.iconst (-1), 1) := by decide +kernel
theorem d_Mpg_height_128 : decode b_Mpg_height 128 = .ok (.iload 5, 2) := by decide +kernel
theorem d_Mpg_height_130 : decode b_Mpg_height 130 = .ok (.invokevirtual 587, 3) := by decide +kernel
theorem d_Mpg_height_133 : decode b_Mpg_height 133 = .ok (.istore 7, 2) := by decide +kernel
theorem d_Mpg_height_135 : decode b_Mpg_height 135 = .ok (.iload 7, 2) := by decide +kernel
theorem d_Mpg_height_137 : decode b_Mpg_height 137 = .ok (.bipush 105, 2) := by decide +kernel
theorem d_Mpg_height_139 : decode b_Mpg_height 139 = .ok (.if_icmp .eq 14, 3) := by decide +kernel
theorem d_Mpg_height_142 : decode b_Mpg_height 142 = .ok (.iload 7, 2) := by decide +kernel
theorem d_Mpg_height_144 : decode b_Mpg_height 144 = .ok (.bipush 107, 2) := by decide +kernel
theorem d_Mpg_height_146 : decode b_Mpg_height 146 = .ok (.if_icmp .eq 7, 3) := by decide +kernel
theorem d_Mpg_height_149 : decode b_Mpg_height 149 = .ok (.iconst 1, 1) := by decide +kernel
theorem d_Mpg_height_150 : decode b_Mpg_height 150 = .ok (.goto 4, 3) := by decide +kernel
theorem d_Mpg_height_153 : decode b_Mpg_height 153 = .ok (.iconst 0, 1) := by decide +kernel
theorem d_Mpg_height_154 : decode b_Mpg_height 154 = .ok (.istore 8, 2) := by decide +kernel
theorem d_Mpg_height_156 : decode b_Mpg_height 156 = .ok (.iload_n 3, 1) := by decide +kernel
theorem d_Mpg_height_157 : decode b_Mpg_height 157 = .ok (.iload 8, 2) := by decide +kernel
theorem d_Mpg_height_159 : decode b_Mpg_height 159 = .ok (.ifCond .eq 7, 3) := by decide +kernel
theorem d_Mpg_height_162 : decode b_Mpg_height 162 = .ok (.iconst 2, 1) := by decide +kernel
theorem d_Mpg_height_163 : decode b_Mpg_height 163 = .ok (.goto 20, 3) := by decide +kernel
theorem d_Mpg_height_166 : decode b_Mpg_height 166 = .ok (.iload 7, 2) := by decide +kernel
theorem d_Mpg_height_168 : decode b_Mpg_height 168 = .ok (.bipush 107, 2) := by decide +kernel
theorem d_Mpg_height_170 : decode b_Mpg_height 170 = .ok (.if_icmp .ne 7, 3) := by decide +kernel
theorem d_Mpg_height_177 : decode b_Mpg_height 177 = .ok (.aload_n 0, 1) := by decide +kernel
theorem d_Mpg_height_178 : decode b_Mpg_height 178 = .ok (.iload 6, 2) := by decide +kernel
theorem d_Mpg_height_180 : decode b_Mpg_height 180 = .ok (.invokevirtual 679, 3) := by decide +kernel
theorem d_Mpg_height_183 : decode b_Mpg_height 183 = .ok (.iadd, 1) := by decide +kernel
theorem d_Mpg_height_184 : decode b_Mpg_height 184 = .ok (.istore 9, 2) := by decide +kernel
theorem d_Mpg_height_186 : decode b_Mpg_height 186 = .ok (.iload 9, 2) := by decide +kernel
theorem d_Mpg_height_188 : decode b_Mpg_height 188 = .ok (.iload_n 2, 1) := by decide +kernel
theorem d_Mpg_height_189 : decode b_Mpg_height 189 = .ok (.if_icmp .le 8, 3) := by decide +kernel
theorem d_Mpg_height_192 : decode b_Mpg_height 192 = .ok (.iload 9, 2) := by decide +kernel
theorem d_Mpg_height_194 : decode b_Mpg_height 194 = .ok (.goto 4, 3) := by decide +kernel
theorem d_Mpg_height_197 : decode b_Mpg_height 197 = .ok (.iload_n 2, 1) := by decide +kernel
theorem d_Mpg_height_198 : decode b_Mpg_height 198 = .ok (.istore_n 2, 1) := by decide +kernel
theorem d_Mpg_height_199 : decode b_Mpg_height 199 = .ok (.iload_n 3, 1) := by decide +kernel
theorem d_Mpg_height_200 : decode b_Mpg_height 200 = .ok (.iload 8, 2) := by decide +kernel
theorem d_Mpg_height_202 : decode b_Mpg_height 202 = .ok (.ifCond .eq 7, 3) := by decide +kernel
theorem d_Mpg_height_205 : decode b_Mpg_height 205 = .ok (.iconst 2, 1) := by decide +kernel
theorem d_Mpg_height_206 : decode b_Mpg_height 206 = .ok (.goto 4, 3) := by decide +kernel
theorem d_Mpg_height_209 : decode b_Mpg_height 209 = .ok (.iconst 1, 1) := by decide +kernel
theorem d_Mpg_height_210 : decode b_Mpg_height 210 = .ok (.iadd, 1) := by decide +kernel
theorem d_Mpg_height_211 : decode b_Mpg_height 211 = .ok (.istore_n 3, 1) := by decide +kernel
theorem d_Mpg_height_212 : decode b_Mpg_height 212 = .ok (.iinc 5 1, 3) := by decide +kernel
theorem d_Mpg_height_215 : decode b_Mpg_height 215 = .ok (.aload_n 0, 1) := by decide +kernel
theorem d_Mpg_height_216 : decode b_Mpg_height 216 = .ok (.getfield 228, 3) := by decide +kernel
theorem d_Mpg_height_219 : decode b_Mpg_height 219 = .ok (.iload 6, 2) := by decide +kernel
theorem d_Mpg_height_221 : decode b_Mpg_height 221 = .ok (.iaload, 1) := by decide +kernel
theorem d_Mpg_height_222 : decode b_Mpg_height 222 = .ok (.istore 6, 2) := by decide +kernel
theorem d_Mpg_height_224 : decode b_Mpg_height 224 = .ok (.goto (-133), 3) := by decide +kernel
theorem d_Mpg_height_227 : decode b_Mpg_height 227 = .ok (.iload_n 2, 1) := by decide +kernel
theorem d_Mpg_height_228 : decode b_Mpg_height 228 = .ok (.ireturn, 1) := by decide +kernel
theorem d_Mpg_height_229 : decode b_Mpg_height 229 = .ok (.aload_n 0, 1) := by decide +kernel
theorem d_Mpg_height_230 : decode b_Mpg_height 230 = .ok (.aload_n 0, 1) := by decide +kernel
theorem d_Mpg_height_231 : decode b_Mpg_height 231 = .ok (.getfield 216, 3) := by decide +kernel
theorem d_Mpg_height_234 : decode b_Mpg_height 234 = .ok (.iload_n 1, 1) := by decide +kernel
theorem d_Mpg_height_235 : decode b_Mpg_height 235 = .ok (.iaload, 1) := by decide +kernel
theorem d_Mpg_height_236 : decode b_Mpg_height 236 = .ok (.invokevirtual 679, 3) := by decide +kernel
theorem d_Mpg_height_239 : decode b_Mpg_height 239 = .ok (.ireturn, 1) := by decide +kernel
theorem d_Mpg_height_240 : decode b_Mpg_height 240 = .ok (.aload_n 0, 1) := by decide +kernel
theorem d_Mpg_height_241 : decode b_Mpg_height 241 = .ok (.aload_n 0, 1) := by decide +kernel
theorem d_Mpg_height_242 : decode b_Mpg_height 242 = .ok (.getfield 216, 3) := by decide +kernel
theorem d_Mpg_height_245 : decode b_Mpg_height 245 = .ok (.iload_n 1, 1) := by decide +kernel
theorem d_Mpg_height_246 : decode b_Mpg_height 246 = .ok (.iaload, 1) := by decide +kernel
theorem d_Mpg_height_247 : decode b_Mpg_height 247 = .ok (.invokevirtual 679, 3) := by decide +kernel
theorem d_Mpg_height_250 : decode b_Mpg_height 250 = .ok (.istore 6, 2) := by decide +kernel
theorem d_Mpg_height_252 : decode b_Mpg_height 252 = .ok (.aload_n 0, 1) := by decide +kernel
theorem d_Mpg_height_253 : decode b_Mpg_height 253 = .ok (.getfield 228, 3) := by decide +kernel
theorem d_Mpg_height_256 : decode b_Mpg_height 256 = .ok (.aload_n 0, 1) := by decide +kernel
theorem d_Mpg_height_257 : decode b_Mpg_height 257 = .ok (.getfield 216, 3) := by decide +kernel
theorem d_Mpg_height_260 : decode b_Mpg_height 260 = .ok (.iload_n 1, 1) := by decide +kernel
theorem d_Mpg_height_261 : decode b_Mpg_height 261 = .ok (.iaload, 1) := by decide +kernel
theorem d_Mpg_height_262 : decode b_Mpg_height 262 = .ok (.iaload, 1) := by decide +kernel
theorem d_Mpg_height_263 : decode b_Mpg_height 263 = .ok (.istore 7, 2) := by decide +kernel
theorem d_Mpg_height_265 : decode b_Mpg_height 265 = .ok (.iload 7, 2) := by decide +kernel
theorem d_Mpg_height_267 : decode b_Mpg_height 267 = .ok (.ifCond .lt 41, 3) := by decide +kernel
theorem d_Mpg_height_270 : decode b_Mpg_height 270 = .ok (.iconst 1, 1) := by decide +kernel
theorem d_Mpg_height_271 : decode b_Mpg_height 271 = .ok (.aload_n 0, 1) := by decide +kernel
theorem d_Mpg_height_272 : decode b_Mpg_height 272 = .ok (.iload 7, 2) := by decide +kernel
theorem d_Mpg_height_274 : decode b_Mpg_height 274 = .ok (.invokevirtual 679, 3) := by decide +kernel
theorem d_Mpg_height_277 : decode b_Mpg_height 277 = .ok (.iadd, 1) := by decide +kernel
theorem d_Mpg_height_278 : decode b_Mpg_height 278 = .ok (.istore 8, 2) := by decide +kernel
theorem d_Mpg_height_280 : decode b_Mpg_height 280 = .ok (.iload 8, 2) := by decide +kernel
theorem d_Mpg_height_282 : decode b_Mpg_height 282 = .ok (.iload 6, 2) := by decide +kernel
theorem d_Mpg_height_284 : decode b_Mpg_height 284 = .ok (.if_icmp .le 8, 3) := by decide +kernel
theorem d_Mpg_height_287 : decode b_Mpg_height 287 = .ok (.iload 8, 2) := by decide +kernel
theorem d_Mpg_height_289 : decode b_Mpg_height 289 = .ok (.goto 5, 3) := by decide +kernel
theorem d_Mpg_height_292 : decode b_Mpg_height 292 = .ok (.iload 6, 2) := by decide +kernel
theorem d_Mpg_height_294 : decode b_Mpg_height 294 = .ok (.istore 6, 2) := by decide +kernel
theorem d_Mpg_height_296 : decode b_Mpg_height 296 = .ok (.aload_n 0, 1) := by decide +kernel
theorem d_Mpg_height_297 : decode b_Mpg_height 297 = .ok (.getfield 228, 3) := by decide +kernel
theorem d_Mpg_height_300 : decode b_Mpg_height 300 = .ok (.iload 7, 2) := by decide +kernel
theorem d_Mpg_height_302 : decode b_Mpg_height 302 = .ok (.iaload, 1) := by decide +kernel
theorem d_Mpg_height_303 : decode b_Mpg_height 303 = .ok (.istore 7, 2) := by decide +kernel
theorem d_Mpg_height_305 : decode b_Mpg_height 305 = .ok (.goto (-40), 3) := by decide +kernel
theorem d_Mpg_height_308 : decode b_Mpg_height 308 = .ok (.iload 6, 2) := by decide +kernel
theorem d_Mpg_height_310 : decode b_Mpg_height 310 = .ok (.ireturn, 1) := by decide +kernel
theorem d_Mpg_height_311 : decode b_Mpg_height 311 = .ok (.aload_n 0, 1) := by decide +kernel
theorem d_Mpg_height_312 : decode b_Mpg_height 312 = .ok (.aload_n 0, 1) := by decide +kernel
theorem d_Mpg_height_313 : decode b_Mpg_height 313 = .ok (.getfield 216, 3) := by decide +kernel
theorem d_Mpg_height_316 : decode b_Mpg_height 316 = .ok (.iload_n 1, 1) := by decide +kernel
theorem d_Mpg_height_317 : decode b_Mpg_height 317 = .ok (.iaload, 1) := by decide +kernel
theorem d_Mpg_height_318 : decode b_Mpg_height 318 = .ok (.invokevirtual 679, 3) := by decide +kernel
theorem d_Mpg_height_321 : decode b_Mpg_height 321 = .ok (.istore 7, 2) := by decide +kernel
theorem d_Mpg_height_323 : decode b_Mpg_height 323 = .ok (.aload_n 0, 1) := by decide +kernel
theorem d_Mpg_height_324 : decode b_Mpg_height 324 = .ok (.aload_n 0, 1) := by decide +kernel
theorem d_Mpg_height_325 : decode b_Mpg_height 325 = .ok (.getfield 219, 3) := by decide +kernel
theorem d_Mpg_height_328 : decode b_Mpg_height 328 = .ok (.iload_n 1, 1) := by decide +kernel
theorem d_Mpg_height_329 : decode b_Mpg_height 329 = .ok (.iaload, 1) := by decide +kernel
theorem d_Mpg_height_330 : decode b_Mpg_height 330 = .ok (.invokevirtual 679, 3) := by decide +kernel
theorem d_Mpg_height_333 : decode b_Mpg_height 333 = .ok (.istore 8, 2) := by decide +kernel
theorem d_Mpg_height_335 : decode b_Mpg_height 335 = .ok (.aload_n 0, 1) := by decide +kernel
theorem d_Mpg_height_336 : decode b_Mpg_height 336 = .ok (.aload_n 0, 1) := by decide +kernel
theorem d_Mpg_height_337 : decode b_Mpg_height 337 = .ok (.getfield 222, 3) := by decide +kernel
theorem d_Mpg_height_340 : decode b_Mpg_height 340 = .ok (.iload_n 1, 1) := by decide +kernel
theorem d_Mpg_height_341 : decode b_Mpg_height 341 = .ok (.iaload, 1) := by decide +kernel
theorem d_Mpg_height_342 : decode b_Mpg_height 342 = .ok (.invokevirtual 679, 3) := by decide +kernel
theorem d_Mpg_height_345 : decode b_Mpg_height 345 = .ok (.istore 9, 2) := by decide +kernel
theorem d_Mpg_height_347 : decode b_Mpg_height 347 = .ok (.iload 8, 2) := by decide +kernel
theorem d_Mpg_height_349 : decode b_Mpg_height 349 = .ok (.iload 7, 2) := by decide +kernel
theorem d_Mpg_height_351 : decode b_Mpg_height 351 = .ok (.if_icmp .le 8, 3) := by decide +kernel
theorem d_Mpg_height_354 : decode b_Mpg_height 354 = .ok (.iload 8, 2) := by decide +kernel
theorem d_Mpg_height_356 : decode b_Mpg_height 356 = .ok (.goto 5, 3) := by decide +kernel
theorem d_Mpg_height_359 : decode b_Mpg_height 359 = .ok (.iload 7, 2) := by decide +kernel
theorem d_Mpg_height_361 : decode b_Mpg_height 361 = .ok (.istore 7, 2) := by decide +kernel
theorem d_Mpg_height_363 : decode b_Mpg_height 363 = .ok (.iload 9, 2) := by decide +kernel
theorem d_Mpg_height_365 : decode b_Mpg_height 365 = .ok (.iload 7, 2) := by decide +kernel
theorem d_Mpg_height_367 : decode b_Mpg_height 367 = .ok (.if_icmp .le 8, 3) := by decide +kernel
theorem d_Mpg_height_370 : decode b_Mpg_height 370 = .ok (.iload 9, 2) := by decide +kernel
theorem d_Mpg_height_372 : decode b_Mpg_height 372 = .ok (.goto 5, 3) := by decide +kernel
theorem d_Mpg_height_375 : decode b_Mpg_height 375 = .ok (.iload 7, 2) := by decide +kernel
theorem d_Mpg_height_377 : decode b_Mpg_height 377 = .ok (.ireturn, 1) := by decide +kernel
theorem d_Mpg_height_378 : decode b_Mpg_height 378 = .ok (.aload_n 0, 1) := by decide +kernel
theorem d_Mpg_height_379 : decode b_Mpg_height 379 = .ok (.aload_n 0, 1) := by decide +kernel
theorem d_Mpg_height_380 : decode b_Mpg_height 380 = .ok (.getfield 219, 3) := by decide +kernel
theorem d_Mpg_height_383 : decode b_Mpg_height 383 = .ok (.iload_n 1, 1) := by decide +kernel
theorem d_Mpg_height_384 : decode b_Mpg_height 384 = .ok (.iaload, 1) := by decide +kernel
theorem d_Mpg_height_385 : decode b_Mpg_height 385 = .ok (.invokevirtual 679, 3) := by decide +kernel
theorem d_Mpg_height_388 : decode b_Mpg_height 388 = .ok (.istore 10, 2) := by decide +kernel
theorem d_Mpg_height_390 : decode b_Mpg_height 390 = .ok (.aload_n 0, 1) := by decide +kernel
theorem d_Mpg_height_391 : decode b_Mpg_height 391 = .ok (.getfield 207, 3) := by decide +kernel
theorem d_Mpg_height_394 : decode b_Mpg_height 394 = .ok (.aload_n 0, 1) := by decide +kernel
theorem d_Mpg_height_395 : decode b_Mpg_height 395 = .ok (.getfield 216, 3) := by decide +kernel
theorem d_Mpg_height_398 : decode b_Mpg_height 398 = .ok (.iload_n 1, 1) := by decide +kernel
theorem d_Mpg_height_399 : decode b_Mpg_height 399 = .ok (.iaload, 1) := by decide +kernel
theorem d_Mpg_height_400 : decode b_Mpg_height 400 = .ok (.baload, 1) := by decide +kernel
theorem d_Mpg_height_401 : decode b_Mpg_height 401 = .ok (.iconst 4, 1) := by decide +kernel
theorem d_Mpg_height_402 : decode b_Mpg_height 402 = .ok (.if_icmp .ne 40, 3) := by decide +kernel
theorem d_Mpg_height_405 : decode b_Mpg_height 405 = .ok (.aload_n 0, 1) := by decide +kernel
theorem d_Mpg_height_406 : decode b_Mpg_height 406 = .ok (.aload_n 0, 1) := by decide +kernel
theorem d_Mpg_height_407 : decode b_Mpg_height 407 = .ok (.getfield 216, 3) := by decide +kernel
theorem d_Mpg_height_410 : decode b_Mpg_height 410 = .ok (.aload_n 0, 1) := by decide +kernel
theorem d_Mpg_height_411 : decode b_Mpg_height 411 = .ok (.getfield 216, 3) := by decide +kernel
theorem d_Mpg_height_414 : decode b_Mpg_height 414 = .ok (.iload_n 1, 1) := by decide +kernel
theorem d_Mpg_height_415 : decode b_Mpg_height 415 = .ok (.iaload, 1) := by decide +kernel
theorem d_Mpg_height_416 : decode b_Mpg_height 416 = .ok (.iaload, 1) := by decide +kernel
theorem d_Mpg_height_417 : decode b_Mpg_height 417 = .ok (.invokevirtual 679, 3) := by decide +kernel
theorem d_Mpg_height_420 : decode b_Mpg_height 420 = .ok (.istore 11, 2) := by decide +kernel
theorem d_Mpg_height_422 : decode b_Mpg_height 422 = .ok (.iload 11, 2) := by decide +kernel
theorem d_Mpg_height_424 : decode b_Mpg_height 424 = .ok (.iload 10, 2) := by decide +kernel
theorem d_Mpg_height_426 : decode b_Mpg_height 426 = .ok (.iconst 1, 1) := by decide +kernel
theorem d_Mpg_height_427 : decode b_Mpg_height 427 = .ok (.iadd, 1) := by decide +kernel
theorem d_Mpg_height_428 : decode b_Mpg_height 428 = .ok (.if_icmp .le 8, 3) := by decide +kernel
theorem d_Mpg_height_431 : decode b_Mpg_height 431 = .ok (.iload 11, 2) := by decide +kernel
theorem d_Mpg_height_433 : decode b_Mpg_height 433 = .ok (.goto 7, 3) := by decide +kernel
theorem d_Mpg_height_436 : decode b_Mpg_height 436 = .ok (.iload 10, 2) := by decide +kernel
theorem d_Mpg_height_438 : decode b_Mpg_height 438 = .ok (.iconst 1, 1) := by decide +kernel
theorem d_Mpg_height_439 : decode b_Mpg_height 439 = .ok (.iadd, 1) := by decide +kernel
theorem d_Mpg_height_440 : decode b_Mpg_height 440 = .ok (.istore 10, 2) := by decide +kernel
theorem d_Mpg_height_442 : decode b_Mpg_height 442 = .ok (.iload 10, 2) := by decide +kernel
theorem d_Mpg_height_444 : decode b_Mpg_height 444 = .ok (.ireturn, 1) := by decide +kernel
theorem d_Mpg_height_445 : decode b_Mpg_height 445 = .ok (.aload_n 0, 1) := by decide +kernel
theorem d_Mpg_height_446 : decode b_Mpg_height 446 = .ok (.aload_n 0, 1) := by decide +kernel
theorem d_Mpg_height_447 : decode b_Mpg_height 447 = .ok (.getfield 216, 3) := by decide +kernel
theorem d_Mpg_height_450 : decode b_Mpg_height 450 = .ok (.iload_n 1, 1) := by decide +kernel
theorem d_Mpg_height_451 : decode b_Mpg_height 451 = .ok (.iaload, 1) := by decide +kernel
theorem d_Mpg_height_452 : decode b_Mpg_height 452 = .ok (.invokevirtual 679, 3) := by decide +kernel
theorem d_Mpg_height_455 : decode b_Mpg_height 455 = .ok (.ireturn, 1) := by decide +kernel
theorem q_Mpg_height : px_y y_Mpg_height 1 := by unfold px_y; decide +kernel
def HtC (l : Launch) (D : va_G) (cs : Nat → ClassId) (d : Nat) : Prop := ∀ (ma0 : Nat → Nat → Int32) (ys : Int) (ns : Int) (nf : Int) (lo : Int) (hi : Int) (V : Nat → Nat → Prop) (vl : Int) (vh : Int) (h : Nat) (r : Nat → Nat) (g : Nat → Nat → Option Nat) (tf : Nat → Int32) (ta : Nat → Nat → Int32) (pf : Nat → Int32) (na : Nat → Nat → Int32) (ma : Nat → Nat → Int32) (wa : Nat → Nat → Int32) (cf : Nat → Int32) (ca : Nat → Nat → Int32) (ef : Nat → Int32) (ea : Nat → Nat → Int32) (xf : Nat → Int32) (xa : Nat → Nat → Int32) (p0 : Int32)  (g0 : 0 ≤ lo) (g1 : hi ≤ (pf 13).toInt) (g2 : (pf 13).toInt ≤ 2100) (g3 : (tf 6).toInt ≤ 2049) (g4 : (cf 38).toInt = nf) (g5 : 0 ≤ nf) (htk : TkI tf ta) (hft : FnT (tf 6).toInt na ca (cf 38).toInt) (hfp : FnP na ca nf) (han : Ann na ma0 ma) (hts : Ts (Gk ta ca na ma0 ns ys nf) na ma vl vh V) (hec : EcV ta (tf 6).toInt na ma0 d lo hi p0) (hvn : V p0.toNatClampNeg 0), MetI l y_Mpg_height b_Mpg_height 12 (.int) D cs (2 * d + 8) (100 * d + 260) (0) (0) [.ref h, .int p0] [wdP cs h r g tf ta pf na ma wa cf ca ef ea xf xa] (oX (fun A U H => (oP A g U H)) [wdP cs h r g tf ta pf na ma wa cf ca ef ea xf xa]) (fun v ps => (ps = [wdP cs h r g tf ta pf na ma wa cf ca ef ea xf xa]) ∧ (1 ≤ v.toInt) ∧ (v.toInt ≤ 2 * (hi - lo)) ∧ (HgB na ma0 ma (tkl na ma0 ca) d p0 v.toInt))
set_option maxHeartbeats 4000000 in
set_option maxRecDepth 100000 in
theorem c_mp_height (l : Launch) (D : va_G) (cs : Nat → ClassId) (ma0 : Nat → Nat → Int32) (ys : Int) (ns : Int) (nf : Int) (d : Nat) (lo : Int) (hi : Int) (V : Nat → Nat → Prop) (vl : Int) (vh : Int) (h : Nat) (r : Nat → Nat) (g : Nat → Nat → Option Nat) (tf : Nat → Int32) (ta : Nat → Nat → Int32) (pf : Nat → Int32) (na : Nat → Nat → Int32) (ma : Nat → Nat → Int32) (wa : Nat → Nat → Int32) (cf : Nat → Int32) (ca : Nat → Nat → Int32) (ef : Nat → Int32) (ea : Nat → Nat → Int32) (xf : Nat → Int32) (xa : Nat → Nat → Int32) (p0 : Int32)  (g0 : 0 ≤ lo) (g1 : hi ≤ (pf 13).toInt) (g2 : (pf 13).toInt ≤ 2100) (g3 : (tf 6).toInt ≤ 2049) (g4 : (cf 38).toInt = nf) (g5 : 0 ≤ nf) (htk : TkI tf ta) (hft : FnT (tf 6).toInt na ca (cf 38).toInt) (hfp : FnP na ca nf) (han : Ann na ma0 ma) (hts : Ts (Gk ta ca na ma0 ns ys nf) na ma vl vh V) (hec : EcV ta (tf 6).toInt na ma0 (d + 1) lo hi p0) (hvn : V p0.toNatClampNeg 0) (hLH : HtC l D cs d) : MetI l y_Mpg_height b_Mpg_height 12 (.int) D cs (2 * (d + 1) + 8) (100 * (d + 1) + 260) (0) (0) [.ref h, .int p0] [wdP cs h r g tf ta pf na ma wa cf ca ef ea xf xa] (oX (fun A U H => (oP A g U H)) [wdP cs h r g tf ta pf na ma wa cf ca ef ea xf xa]) (fun v ps => (ps = [wdP cs h r g tf ta pf na ma wa cf ca ef ea xf xa]) ∧ (1 ≤ v.toInt) ∧ (v.toInt ≤ 2 * (hi - lo)) ∧ (HgB na ma0 ma (tkl na ma0 ca) (d + 1) p0 v.toInt)) := by
  refine px_enter (by decide) (Nat.le_of_ble_eq_true rfl) ?_
  intro p e s m below meth c A ls hAe S hr hlk hnm hA hT hX hw hl
  replace hl : lv_has ls 12 [(0, .ref h), (1, .int p0)] := hl
  have lp0 := Int32.le_toInt p0
  have up0 := Int32.toInt_lt p0
  have cstm1 : ((-1) : Int32).toInt = (-1) := rfl
  have cst0 : (0 : Int32).toInt = 0 := rfl
  have cst1 : (1 : Int32).toInt = 1 := rfl
  have cst2 : (2 : Int32).toInt = 2 := rfl
  have cst4 : (4 : Int32).toInt = 4 := rfl
  have cst100 : (100 : Int32).toInt = 100 := rfl
  have cst105 : (105 : Int32).toInt = 105 := rfl
  have cst107 : (107 : Int32).toInt = 107 := rfl
  have hX : (fun A U H => (oP A g U H)) A s s.heap := by rw [hAe]; exact hX
  have hP := hX
  have hZ := hP.1
  have hF0 := hP.2.1
  have hf11 := hft.1
  have hec_p0 := hec
  have hrg := EcV.rng hec
  have hlc := Ts.e hts hvn
  have hvn_p0 := hvn
  have hce0 : (na 14 p0.toNatClampNeg).toInt = 3 → CeN nf (ma 18 p0.toNatClampNeg).toInt := fun q => (LcE.k3 hlc q).1
  have J91 : ∀ (n_91 : Nat)  (mid_91 : Int) (x91_2 x91_3 x91_4 x91_5 x91_6 : Int32) (H : Heap) (locs : List Loc) (ls : Array Slot), (1 ≤ x91_2.toInt) → (x91_2.toInt ≤ 2 * (hi - lo)) → (0 ≤ x91_3.toInt) → (x91_3.toInt ≤ 2 * x91_5.toInt) → (0 ≤ x91_4.toInt) → (x91_4.toInt ≤ 1) → (x91_4.toInt = 1 → (ma 18 p0.toNatClampNeg).toInt < 100) → (x91_4.toInt = 0 → 100 ≤ (ma 18 p0.toNatClampNeg).toInt) → (0 ≤ x91_5.toInt) → (x91_5.toInt + p0.toInt + 1 ≤ mid_91) → (p0.toInt + 1 ≤ mid_91) → (mid_91 ≤ hi) → ((na 14 p0.toNatClampNeg).toInt = 3) → (RcR ta (tf 6).toInt na ma0 d mid_91 hi x91_6) → (AgV na V (tkl na ma0 ca (ma 18 p0.toNatClampNeg).toInt) x91_5.toInt x91_6) → (HaS na ma0 ma ca d (ma 18 p0.toNatClampNeg).toInt (na 17 p0.toNatClampNeg) x91_5.toInt x91_3.toInt x91_6 x91_2.toInt) → (x91_3.toInt ≤ x91_2.toInt) → hi - mid_91 < (n_91 : Int) → pw D A s.heap H locs [wdP cs h r g tf ta pf na ma wa cf ca ef ea xf xa] → lv_has ls 12 [(0, .ref h), (1, .int p0), (2, .int x91_2), (3, .int x91_3), (4, .int x91_4), (5, .int x91_5), (6, .int x91_6)] → W p l e { frames := (2 * (d + 1) + 8), cells := 0, slots := 0, locals := (100 * (d + 1) + 260) } s m [.ref h, .int p0].toArray below meth c H locs 0 0 (MQ below (va_Qi (fun v ps => (ps = [wdP cs h r g tf ta pf na ma wa cf ca ef ea xf xa]) ∧ (1 ≤ v.toInt) ∧ (v.toInt ≤ 2 * (hi - lo)) ∧ (HgB na ma0 ma (tkl na ma0 ca) (d + 1) p0 v.toInt)) (pc_B D (va_A ([wdP cs h r g tf ta pf na ma wa cf ca ef ea xf xa] : List va_W).flatten s.heap.size)) (va_A ([wdP cs h r g tf ta pf na ma wa cf ca ef ea xf xa] : List va_W).flatten s.heap.size)) [.ref h, .int p0].toArray s 0 0 A) (F0 m 91 ls []) := by
    intro  n_91
    induction n_91 with
    | zero =>
      intro mid_91 x91_2 x91_3 x91_4 x91_5 x91_6 H locs ls k91_0 k91_1 k91_2 k91_3 k91_4 k91_5 k91_6 k91_7 k91_8 k91_9 k91_10 k91_11 k91_12 k91_13 k91_14 k91_15 k91_16 hm hw hl
      have lx91_2 := Int32.le_toInt x91_2
      have ux91_2 := Int32.toInt_lt x91_2
      have lx91_3 := Int32.le_toInt x91_3
      have ux91_3 := Int32.toInt_lt x91_3
      have lx91_4 := Int32.le_toInt x91_4
      have ux91_4 := Int32.toInt_lt x91_4
      have lx91_5 := Int32.le_toInt x91_5
      have ux91_5 := Int32.toInt_lt x91_5
      have lx91_6 := Int32.le_toInt x91_6
      have ux91_6 := Int32.toInt_lt x91_6
      have hrr := k91_13
      have hag := k91_14
      have has := k91_15
      exact absurd hm (by first | with_reducible rfl | with_reducible assumption | omega)
    | succ n_91 ih91 =>
      intro mid_91 x91_2 x91_3 x91_4 x91_5 x91_6 H locs ls k91_0 k91_1 k91_2 k91_3 k91_4 k91_5 k91_6 k91_7 k91_8 k91_9 k91_10 k91_11 k91_12 k91_13 k91_14 k91_15 k91_16 hm hw hl
      have lx91_2 := Int32.le_toInt x91_2
      have ux91_2 := Int32.toInt_lt x91_2
      have lx91_3 := Int32.le_toInt x91_3
      have ux91_3 := Int32.toInt_lt x91_3
      have lx91_4 := Int32.le_toInt x91_4
      have ux91_4 := Int32.toInt_lt x91_4
      have lx91_5 := Int32.le_toInt x91_5
      have ux91_5 := Int32.toInt_lt x91_5
      have lx91_6 := Int32.le_toInt x91_6
      have ux91_6 := Int32.toInt_lt x91_6
      have hrr := k91_13
      have hag := k91_14
      have has := k91_15
      refine lv_iload S.x S.b d_Mpg_height_91 (lv_at hl 6 rfl) ?_
      refine lv_if_lt (tgt := 227) S.x S.b d_Mpg_height_93 (by decide) (fun c1 => ?_) (fun c1 => ?_)
      · have nc1 : x91_6.toInt < (0 : Int) := (i_lt (x := x91_6) (y := 0)).mp c1
        refine lv_iload_n S.x S.b d_Mpg_height_227 rfl (lv_at hl 2 rfl) ?_
        exact px_iret (v := x91_2) S hr rfl hlk hAe hw (Nat.le_of_ble_eq_true rfl) (Nat.le_of_ble_eq_true rfl) (⟨rfl, (show 1 ≤ x91_2.toInt from by first | exact k91_0 | omega), (show x91_2.toInt ≤ 2 * (hi - lo) from by first | exact k91_1 | omega), (show HgB na ma0 ma (tkl na ma0 ca) (d + 1) p0 x91_2.toInt from (has.elim fun m9 g9 => ⟨by first | with_reducible rfl | with_reducible assumption | omega, Or.inr (Or.inr (Or.inl (⟨by first | with_reducible rfl | with_reducible assumption | omega, m9, g9.fin (by first | with_reducible rfl | with_reducible assumption | omega) (by first | with_reducible rfl | with_reducible assumption | omega)⟩)))⟩))⟩) d_Mpg_height_228
      · have nc1 : ¬ x91_6.toInt < (0 : Int) := mt (i_lt (x := x91_6) (y := 0)).mpr c1
        refine lv_iload S.x S.b d_Mpg_height_96 (lv_at hl 4 rfl) ?_
        have hce := hce0 (by first | with_reducible rfl | with_reducible assumption | omega); have hce1 := hce; unfold CeN at hce1
        obtain ⟨md2, hm1_md2, hm2_md2, hec_x91_6, hx3_md2, hrr2⟩ := RcE.step hrr (by first | with_reducible rfl | with_reducible assumption | omega); obtain ⟨hag1, hag2, hag3⟩ := AgV.go hag (by first | with_reducible rfl | with_reducible assumption | omega) (by first | with_reducible rfl | with_reducible assumption | omega) (k' := x91_5.toInt + 1) rfl rfl
        refine lv_if_eq (tgt := 117) S.x S.b d_Mpg_height_98 (by decide) (fun c3 => ?_) (fun c3 => ?_)
        · have nc3 : x91_4.toInt = (0 : Int) := (i_eq (x := x91_4) (y := 0)).mp c3
          refine lv_aload_n S.x S.b d_Mpg_height_117 rfl (lv_at hl 0 rfl) ?_
          refine lv_aload_n S.x S.b d_Mpg_height_118 rfl (lv_at hl 0 rfl) ?_
          refine px_get S k_Mpg hT hw 0 0 18 (v := .ref (r 18)) rfl rfl rfl (by decide) m10_3 d_Mpg_height_119 ?_
          refine lv_iload_n S.x S.b d_Mpg_height_122 rfl (lv_at hl 1 rfl) ?_
          refine px_iald S hT hw 0 14 (n := 2100) (f := (ma 18)) rfl gp_18 (x := p0) (vp_in_iff.mpr (by first | exact oz_a7e05de1cd hrg.2.2 hrg.2.1 g1 g2 | (constructor <;> omega))) d_Mpg_height_123 ?_
          refine lv_topi (fun z4 ez4 => ?_)
          have lz4 := Int32.le_toInt z4
          have uz4 := Int32.toInt_lt z4
          have rz4 : z4.toInt = (ma 18 p0.toNatClampNeg).toInt := by rw [ez4]
          refine lv_bipush (v := 100) S.x S.b d_Mpg_height_124 (by decide) ?_
          refine lv_isub S.x S.b d_Mpg_height_126 ?_
          refine lv_topi (fun z5 ez5 => ?_)
          have tz5 : z5.toInt = (z4.toInt - (100 : Int) + 2147483648) % 4294967296 - 2147483648 := by rw [ez5]; exact i_sub z4 100
          have lz5 := Int32.le_toInt z5
          have uz5 := Int32.toInt_lt z5
          try replace tz5 : z5.toInt = z4.toInt - (100 : Int) := by omega
          refine lv_iconst (v := (-1)) S.x S.b d_Mpg_height_127 (by decide) ?_
          refine lv_iload S.x S.b d_Mpg_height_128 (lv_at hl 5 rfl) ?_
          refine px_calli (pr := []) (px_runV (As := [.int z5, .int (-1), .int x91_5]) (rest := []) S (c_mp_taken l D cs h r g tf ta pf na ma wa cf ca ef ea xf xa z5 (-1) x91_5  (show -1 ≤ z5.toInt from by first | exact oz_cb73ed35de tz5 rz4 nc3 k91_4 k91_7 | omega) (show z5.toInt < (cf 38).toInt from by first | with_reducible rfl | with_reducible assumption | omega) (show z5.toInt < 0 → 0 ≤ (-1 : Int) ∧ (-1 : Int) < 10 from by first | with_reducible rfl | with_reducible assumption | omega) (show 0 ≤ x91_5.toInt from by first | exact k91_8 | omega) (show x91_5.toInt ≤ 4000 from by first | exact oz_2634073f30 k91_9 hrg.2.2 k91_11 g1 g2 | omega) (show 0 ≤ (cf 38).toInt from by first | exact oz_f3ebed1ad0 g4 g5 | omega) htk (FnT.eq hft (by first | with_reducible rfl | with_reducible assumption | omega)) (FnP.eq hfp (by first | with_reducible rfl | with_reducible assumption | omega)) _) hT (pr := []) (pcs := [wdP cs h r g tf ta pf na ma wa cf ca ef ea xf xa]) hw (oX_call (P := (fun A U H => (oP A g U H))) (pr := []) oG_P hw hA hP) (px_recv hT hw 0 0 rfl rfl rfl) m12_229 m12_226 m12_228 ms_12_10 m1_21 q_Mpg_taken ⟨show 4 + 1 ≤ (2 * (d + 1) + 8) from by first | with_reducible rfl | with_reducible assumption | omega, show 8 + (6 + 11) + 140 ≤ (100 * (d + 1) + 260) from by first | with_reducible rfl | with_reducible assumption | omega⟩ hl.1 rfl (Nat.le_of_ble_eq_true rfl) d_Mpg_height_130 ⟨Nat.le_of_ble_eq_true rfl, Nat.le_of_ble_eq_true rfl⟩) hw hA (fun v7 p6 H locs hp6 hw => ?_)
          obtain ⟨rfl, e8⟩ := hp6
          replace e8 : TkV na ma ca z5.toInt (-1 : Int) x91_5.toInt v7.toInt := e8
          replace hw : pw D A s.heap H locs [wdP cs h r g tf ta pf na ma wa cf ca ef ea xf xa] := hw
          have lv7 := Int32.le_toInt v7
          have uv7 := Int32.toInt_lt v7
          have hcd_130 : cod z5.toInt (-1 : Int) = (ma 18 p0.toNatClampNeg).toInt := (by unfold cod; first | (rw [if_pos (by first | with_reducible rfl | with_reducible assumption | omega)]; omega) | (rw [if_neg (by first | with_reducible rfl | with_reducible assumption | omega)]; omega)); have hcn_130 : CeN nf (cod z5.toInt (-1 : Int)) := (by rw [hcd_130]; exact hce); have htv_130 := tkv_at (ta := ta) (ns := ns) (ys := ys) e8 han hfp hcn_130; have htg_130 := tkv_rng e8 hcn_130; rw [hcd_130] at htv_130
          refine lv_istore (lv' := [(7, .int v7), (0, .ref h), (1, .int p0), (2, .int x91_2), (3, .int x91_3), (4, .int x91_4), (5, .int x91_5), (6, .int x91_6)]) S.x S.b d_Mpg_height_133 hl (by decide) rfl (fun ls hl => ?_)
          refine lv_iload S.x S.b d_Mpg_height_135 (lv_at hl 0 rfl) ?_
          refine lv_bipush (v := 105) S.x S.b d_Mpg_height_137 (by decide) ?_
          refine lv_icmp_eq (tgt := 153) S.x S.b d_Mpg_height_139 (by decide) (fun c9 => ?_) (fun c9 => ?_)
          · have nc9 : v7.toInt = (105 : Int) := (i_eq (x := v7) (y := 105)).mp c9
            refine lv_iconst (v := 0) S.x S.b d_Mpg_height_153 (by decide) ?_
            refine lv_istore (lv' := [(8, .int 0), (7, .int v7), (0, .ref h), (1, .int p0), (2, .int x91_2), (3, .int x91_3), (4, .int x91_4), (5, .int x91_5), (6, .int x91_6)]) S.x S.b d_Mpg_height_154 hl (by decide) rfl (fun ls hl => ?_)
            refine lv_iload_n S.x S.b d_Mpg_height_156 rfl (lv_at hl 5 rfl) ?_
            refine lv_iload S.x S.b d_Mpg_height_157 (lv_at hl 0 rfl) ?_
            refine lv_if_eq (tgt := 166) S.x S.b d_Mpg_height_159 (by decide) (fun c10 => ?_) (fun c10 => ?_)
            ·
              refine lv_iload S.x S.b d_Mpg_height_166 (lv_at hl 1 rfl) ?_
              refine lv_bipush (v := 107) S.x S.b d_Mpg_height_168 (by decide) ?_
              refine lv_icmp_ne (tgt := 177) S.x S.b d_Mpg_height_170 (by decide) (fun c11 => ?_) (fun c11 => ?_)
              · have nc11 : ¬ v7.toInt = (107 : Int) := mt (i_eq (x := v7) (y := 107)).mpr c11
                refine lv_aload_n S.x S.b d_Mpg_height_177 rfl (lv_at hl 2 rfl) ?_
                refine lv_iload S.x S.b d_Mpg_height_178 (lv_at hl 8 rfl) ?_
                have hvn_x91_6 : V x91_6.toNatClampNeg 0 := AgV.v0 hag2 (htv_130.symm.trans (by first | with_reducible rfl | with_reducible assumption | omega))
                refine px_calli (pr := []) (px_runV (As := [.int x91_6]) (rest := [.int x91_3]) S (hLH ma0 ys ns nf mid_91 md2 V vl vh h r g tf ta pf na ma wa cf ca ef ea xf xa x91_6 (show 0 ≤ mid_91 from by first | exact oz_06d7f15a5c k91_10 hrg.2.2 | omega) (show md2 ≤ (pf 13).toInt from by first | exact oz_bbb5b20c1a g1 hm2_md2 | omega) (show (pf 13).toInt ≤ 2100 from by first | exact g2 | omega) (show (tf 6).toInt ≤ 2049 from by first | exact g3 | omega) (show (cf 38).toInt = nf from by first | exact g4 | omega) (show 0 ≤ nf from by first | exact g5 | omega) htk (FnT.eq hft (by first | with_reducible rfl | with_reducible assumption | omega)) hfp han hts hec_x91_6 hvn_x91_6 _) hT (pr := []) (pcs := [wdP cs h r g tf ta pf na ma wa cf ca ef ea xf xa]) hw (oX_call (P := (fun A U H => (oP A g U H))) (pr := []) oG_P hw hA hP) (px_recv hT hw 0 0 rfl rfl rfl) m13_65 m13_62 m13_64 ms_13_13 m1_21 q_Mpg_height ⟨show (2 * d + 8) + 1 ≤ (2 * (d + 1) + 8) from by first | with_reducible rfl | with_reducible assumption | omega, show 8 + (12 + 11) + (100 * d + 260) ≤ (100 * (d + 1) + 260) from by first | with_reducible rfl | with_reducible assumption | omega⟩ hl.1 rfl (Nat.le_of_ble_eq_true rfl) d_Mpg_height_180 ⟨Nat.le_of_ble_eq_true rfl, Nat.le_of_ble_eq_true rfl⟩) hw hA (fun v13 p12 H locs hp12 hw => ?_)
                obtain ⟨rfl, e14, e15, e16⟩ := hp12
                replace e14 : 1 ≤ v13.toInt := e14
                replace e15 : v13.toInt ≤ 2 * (md2 - mid_91) := e15
                replace e16 : HgB na ma0 ma (tkl na ma0 ca) d x91_6 v13.toInt := e16
                replace hw : pw D A s.heap H locs [wdP cs h r g tf ta pf na ma wa cf ca ef ea xf xa] := hw
                have lv13 := Int32.le_toInt v13
                have uv13 := Int32.toInt_lt v13
                refine lv_iadd S.x S.b d_Mpg_height_183 ?_
                refine lv_topi (fun z17 ez17 => ?_)
                have tz17 : z17.toInt = (x91_3.toInt + v13.toInt + 2147483648) % 4294967296 - 2147483648 := by rw [ez17]; exact i_add x91_3 v13
                have lz17 := Int32.le_toInt z17
                have uz17 := Int32.toInt_lt z17
                try replace tz17 : z17.toInt = x91_3.toInt + v13.toInt := by omega
                refine lv_istore (lv' := [(9, .int z17), (8, .int 0), (7, .int v7), (0, .ref h), (1, .int p0), (2, .int x91_2), (3, .int x91_3), (4, .int x91_4), (5, .int x91_5), (6, .int x91_6)]) S.x S.b d_Mpg_height_184 hl (by decide) rfl (fun ls hl => ?_)
                refine lv_iload S.x S.b d_Mpg_height_186 (lv_at hl 0 rfl) ?_
                refine lv_iload_n S.x S.b d_Mpg_height_188 rfl (lv_at hl 5 rfl) ?_
                refine lv_icmp_le (tgt := 197) S.x S.b d_Mpg_height_189 (by decide) (fun c18 => ?_) (fun c18 => ?_)
                · have nc18 : z17.toInt ≤ x91_2.toInt := (i_le (x := z17) (y := x91_2)).mp c18
                  refine lv_iload_n S.x S.b d_Mpg_height_197 rfl (lv_at hl 5 rfl) ?_
                  refine lv_istore_n (lv' := [(2, .int x91_2), (9, .int z17), (8, .int 0), (7, .int v7), (0, .ref h), (1, .int p0), (3, .int x91_3), (4, .int x91_4), (5, .int x91_5), (6, .int x91_6)]) S.x S.b d_Mpg_height_198 rfl hl (by decide) rfl (fun ls hl => ?_)
                  refine lv_iload_n S.x S.b d_Mpg_height_199 rfl (lv_at hl 6 rfl) ?_
                  refine lv_iload S.x S.b d_Mpg_height_200 (lv_at hl 2 rfl) ?_
                  refine lv_if_eq (tgt := 209) S.x S.b d_Mpg_height_202 (by decide) (fun c19 => ?_) (fun c19 => ?_)
                  ·
                    refine lv_iconst (v := 1) S.x S.b d_Mpg_height_209 (by decide) ?_
                    refine lv_iadd S.x S.b d_Mpg_height_210 ?_
                    refine lv_topi (fun z20 ez20 => ?_)
                    have tz20 : z20.toInt = (x91_3.toInt + (1 : Int) + 2147483648) % 4294967296 - 2147483648 := by rw [ez20]; exact i_add x91_3 1
                    have lz20 := Int32.le_toInt z20
                    have uz20 := Int32.toInt_lt z20
                    try replace tz20 : z20.toInt = x91_3.toInt + (1 : Int) := by omega
                    refine lv_istore_n (lv' := [(3, .int z20), (2, .int x91_2), (9, .int z17), (8, .int 0), (7, .int v7), (0, .ref h), (1, .int p0), (4, .int x91_4), (5, .int x91_5), (6, .int x91_6)]) S.x S.b d_Mpg_height_211 rfl hl (by decide) rfl (fun ls hl => ?_)
                    obtain ⟨z21, ez21⟩ : ∃ y : Int32, y = x91_5 + 1 := ⟨_, rfl⟩
                    have tz21 : z21.toInt = (x91_5.toInt + 1 + 2147483648) % 4294967296 - 2147483648 := by rw [ez21]; exact i_add x91_5 1
                    have lz21 := Int32.le_toInt z21
                    have uz21 := Int32.toInt_lt z21
                    try replace tz21 : z21.toInt = x91_5.toInt + 1 := by omega
                    refine lv_iinc (v := z21) (lv' := [(5, .int z21), (3, .int z20), (2, .int x91_2), (9, .int z17), (8, .int 0), (7, .int v7), (0, .ref h), (1, .int p0), (4, .int x91_4), (6, .int x91_6)]) S.x S.b d_Mpg_height_212 hl (k := 8) rfl (by rw [ez21]; rfl) (by decide) rfl (fun ls hl => ?_)
                    refine lv_aload_n S.x S.b d_Mpg_height_215 rfl (lv_at hl 6 rfl) ?_
                    refine px_get S k_Mpg hT hw 0 0 21 (v := .ref (r 21)) rfl rfl rfl (by decide) m10_7 d_Mpg_height_216 ?_
                    refine lv_iload S.x S.b d_Mpg_height_219 (lv_at hl 9 rfl) ?_
                    refine px_iald S hT hw 0 17 (n := 2100) (f := (na 21)) rfl gp_21 (x := x91_6) (vp_in_iff.mpr (by constructor <;> omega)) d_Mpg_height_221 ?_
                    refine lv_topi (fun z22 ez22 => ?_)
                    have lz22 := Int32.le_toInt z22
                    have uz22 := Int32.toInt_lt z22
                    refine lv_istore (lv' := [(6, .int z22), (5, .int z21), (3, .int z20), (2, .int x91_2), (9, .int z17), (8, .int 0), (7, .int v7), (0, .ref h), (1, .int p0), (4, .int x91_4)]) S.x S.b d_Mpg_height_222 hl (by decide) rfl (fun ls hl => ?_)
                    refine lv_goto (tgt := 91) S.x S.b d_Mpg_height_224 (by decide) ?_
                    exact ih91 md2 x91_2 z20 x91_4 z21 z22 _ _ ls (show 1 ≤ x91_2.toInt from by first | exact k91_0 | omega) (show x91_2.toInt ≤ 2 * (hi - lo) from by first | exact k91_1 | omega) (show 0 ≤ z20.toInt from by first | exact oz_b3b25f0e49 tz20 k91_2 | omega) (show z20.toInt ≤ 2 * z21.toInt from by first | exact oz_82982fc7e4 tz20 tz21 k91_3 | omega) (show 0 ≤ x91_4.toInt from by first | exact k91_4 | omega) (show x91_4.toInt ≤ 1 from by first | exact k91_5 | omega) (show x91_4.toInt = 1 → (ma 18 p0.toNatClampNeg).toInt < 100 from by first | exact k91_6 | omega) (show x91_4.toInt = 0 → 100 ≤ (ma 18 p0.toNatClampNeg).toInt from by first | exact k91_7 | omega) (show 0 ≤ z21.toInt from by first | exact oz_ae613611c0 tz21 k91_8 | omega) (show z21.toInt + p0.toInt + 1 ≤ md2 from by first | exact oz_f2f12181a2 k91_9 e15 tz21 e14 | omega) (show p0.toInt + 1 ≤ md2 from by first | exact oz_03606900a4 k91_10 e15 e14 | omega) (show md2 ≤ hi from by first | exact hm2_md2 | omega) (show (na 14 p0.toNatClampNeg).toInt = 3 from by first | exact k91_12 | omega) (show RcR ta (tf 6).toInt na ma0 d md2 hi z22 from (by rw [ez22]; exact hrr2)) (show AgV na V (tkl na ma0 ca (ma 18 p0.toNatClampNeg).toInt) z21.toInt z22 from (by rw [ez22, show z21.toInt = x91_5.toInt + 1 by omega]; exact hag3)) (show HaS na ma0 ma ca d (ma 18 p0.toNatClampNeg).toInt (na 17 p0.toNatClampNeg) z21.toInt z20.toInt z22 x91_2.toInt from (HaS.nx (v := v13.toInt) has (by first | with_reducible rfl | with_reducible assumption | omega) (by first | with_reducible rfl | with_reducible assumption | omega) (by first | with_reducible rfl | with_reducible assumption | omega) (by first | with_reducible rfl | with_reducible assumption | omega) htv_130 (fun q => ⟨e16, by first | with_reducible rfl | with_reducible assumption | omega, by first | with_reducible rfl | with_reducible assumption | omega⟩) (fun q => ⟨by first | with_reducible rfl | with_reducible assumption | omega, by first | with_reducible rfl | with_reducible assumption | omega⟩) ez22)) (show z20.toInt ≤ x91_2.toInt from by first | exact oz_d06cdef794 nc18 tz20 tz17 e14 | omega) (show hi - md2 < (n_91 : Int) from by first | exact oz_9009d237ba hm e15 e14 | omega) hw (lv_sub hl [7, 8, 3, 2, 9, 1, 0] rfl)
                  · exact absurd c19 (by decide)
                · have nc18 : ¬ z17.toInt ≤ x91_2.toInt := mt (i_le (x := z17) (y := x91_2)).mpr c18
                  refine lv_iload S.x S.b d_Mpg_height_192 (lv_at hl 0 rfl) ?_
                  refine lv_goto (tgt := 198) S.x S.b d_Mpg_height_194 (by decide) ?_
                  refine lv_istore_n (lv' := [(2, .int z17), (9, .int z17), (8, .int 0), (7, .int v7), (0, .ref h), (1, .int p0), (3, .int x91_3), (4, .int x91_4), (5, .int x91_5), (6, .int x91_6)]) S.x S.b d_Mpg_height_198 rfl hl (by decide) rfl (fun ls hl => ?_)
                  refine lv_iload_n S.x S.b d_Mpg_height_199 rfl (lv_at hl 6 rfl) ?_
                  refine lv_iload S.x S.b d_Mpg_height_200 (lv_at hl 2 rfl) ?_
                  refine lv_if_eq (tgt := 209) S.x S.b d_Mpg_height_202 (by decide) (fun c23 => ?_) (fun c23 => ?_)
                  ·
                    refine lv_iconst (v := 1) S.x S.b d_Mpg_height_209 (by decide) ?_
                    refine lv_iadd S.x S.b d_Mpg_height_210 ?_
                    refine lv_topi (fun z24 ez24 => ?_)
                    have tz24 : z24.toInt = (x91_3.toInt + (1 : Int) + 2147483648) % 4294967296 - 2147483648 := by rw [ez24]; exact i_add x91_3 1
                    have lz24 := Int32.le_toInt z24
                    have uz24 := Int32.toInt_lt z24
                    try replace tz24 : z24.toInt = x91_3.toInt + (1 : Int) := by omega
                    refine lv_istore_n (lv' := [(3, .int z24), (2, .int z17), (9, .int z17), (8, .int 0), (7, .int v7), (0, .ref h), (1, .int p0), (4, .int x91_4), (5, .int x91_5), (6, .int x91_6)]) S.x S.b d_Mpg_height_211 rfl hl (by decide) rfl (fun ls hl => ?_)
                    obtain ⟨z25, ez25⟩ : ∃ y : Int32, y = x91_5 + 1 := ⟨_, rfl⟩
                    have tz25 : z25.toInt = (x91_5.toInt + 1 + 2147483648) % 4294967296 - 2147483648 := by rw [ez25]; exact i_add x91_5 1
                    have lz25 := Int32.le_toInt z25
                    have uz25 := Int32.toInt_lt z25
                    try replace tz25 : z25.toInt = x91_5.toInt + 1 := by omega
                    refine lv_iinc (v := z25) (lv' := [(5, .int z25), (3, .int z24), (2, .int z17), (9, .int z17), (8, .int 0), (7, .int v7), (0, .ref h), (1, .int p0), (4, .int x91_4), (6, .int x91_6)]) S.x S.b d_Mpg_height_212 hl (k := 8) rfl (by rw [ez25]; rfl) (by decide) rfl (fun ls hl => ?_)
                    refine lv_aload_n S.x S.b d_Mpg_height_215 rfl (lv_at hl 6 rfl) ?_
                    refine px_get S k_Mpg hT hw 0 0 21 (v := .ref (r 21)) rfl rfl rfl (by decide) m10_7 d_Mpg_height_216 ?_
                    refine lv_iload S.x S.b d_Mpg_height_219 (lv_at hl 9 rfl) ?_
                    refine px_iald S hT hw 0 17 (n := 2100) (f := (na 21)) rfl gp_21 (x := x91_6) (vp_in_iff.mpr (by constructor <;> omega)) d_Mpg_height_221 ?_
                    refine lv_topi (fun z26 ez26 => ?_)
                    have lz26 := Int32.le_toInt z26
                    have uz26 := Int32.toInt_lt z26
                    refine lv_istore (lv' := [(6, .int z26), (5, .int z25), (3, .int z24), (2, .int z17), (9, .int z17), (8, .int 0), (7, .int v7), (0, .ref h), (1, .int p0), (4, .int x91_4)]) S.x S.b d_Mpg_height_222 hl (by decide) rfl (fun ls hl => ?_)
                    refine lv_goto (tgt := 91) S.x S.b d_Mpg_height_224 (by decide) ?_
                    exact ih91 md2 z17 z24 x91_4 z25 z26 _ _ ls (show 1 ≤ z17.toInt from by first | exact oz_58d7b95763 nc18 k91_0 | omega) (show z17.toInt ≤ 2 * (hi - lo) from by first | exact oz_07d5c453ac hrg.1 hm2_md2 tz17 k91_3 k91_9 e15 | omega) (show 0 ≤ z24.toInt from by first | exact oz_b3b25f0e49 tz24 k91_2 | omega) (show z24.toInt ≤ 2 * z25.toInt from by first | exact oz_82982fc7e4 tz24 tz25 k91_3 | omega) (show 0 ≤ x91_4.toInt from by first | exact k91_4 | omega) (show x91_4.toInt ≤ 1 from by first | exact k91_5 | omega) (show x91_4.toInt = 1 → (ma 18 p0.toNatClampNeg).toInt < 100 from by first | exact k91_6 | omega) (show x91_4.toInt = 0 → 100 ≤ (ma 18 p0.toNatClampNeg).toInt from by first | exact k91_7 | omega) (show 0 ≤ z25.toInt from by first | exact oz_ae613611c0 tz25 k91_8 | omega) (show z25.toInt + p0.toInt + 1 ≤ md2 from by first | exact oz_f2f12181a2 k91_9 e15 tz25 e14 | omega) (show p0.toInt + 1 ≤ md2 from by first | exact oz_03606900a4 k91_10 e15 e14 | omega) (show md2 ≤ hi from by first | exact hm2_md2 | omega) (show (na 14 p0.toNatClampNeg).toInt = 3 from by first | exact k91_12 | omega) (show RcR ta (tf 6).toInt na ma0 d md2 hi z26 from (by rw [ez26]; exact hrr2)) (show AgV na V (tkl na ma0 ca (ma 18 p0.toNatClampNeg).toInt) z25.toInt z26 from (by rw [ez26, show z25.toInt = x91_5.toInt + 1 by omega]; exact hag3)) (show HaS na ma0 ma ca d (ma 18 p0.toNatClampNeg).toInt (na 17 p0.toNatClampNeg) z25.toInt z24.toInt z26 z17.toInt from (HaS.nx (v := v13.toInt) has (by first | with_reducible rfl | with_reducible assumption | omega) (by first | with_reducible rfl | with_reducible assumption | omega) (by first | with_reducible rfl | with_reducible assumption | omega) (by first | with_reducible rfl | with_reducible assumption | omega) htv_130 (fun q => ⟨e16, by first | with_reducible rfl | with_reducible assumption | omega, by first | with_reducible rfl | with_reducible assumption | omega⟩) (fun q => ⟨by first | with_reducible rfl | with_reducible assumption | omega, by first | with_reducible rfl | with_reducible assumption | omega⟩) ez26)) (show z24.toInt ≤ z17.toInt from by first | exact oz_b2658c9b4e tz17 tz24 e14 | omega) (show hi - md2 < (n_91 : Int) from by first | exact oz_9009d237ba hm e15 e14 | omega) hw (lv_sub hl [7, 8, 3, 2, 9, 1, 0] rfl)
                  · exact absurd c23 (by decide)
              · have nc11 : v7.toInt = (107 : Int) := (i_eq (x := v7) (y := 107)).mp c11
                exfalso
                omega
            · exact absurd c10 (by decide)
          · have nc9 : ¬ v7.toInt = (105 : Int) := mt (i_eq (x := v7) (y := 105)).mpr c9
            refine lv_iload S.x S.b d_Mpg_height_142 (lv_at hl 0 rfl) ?_
            refine lv_bipush (v := 107) S.x S.b d_Mpg_height_144 (by decide) ?_
            refine lv_icmp_eq (tgt := 153) S.x S.b d_Mpg_height_146 (by decide) (fun c27 => ?_) (fun c27 => ?_)
            · have nc27 : v7.toInt = (107 : Int) := (i_eq (x := v7) (y := 107)).mp c27
              exfalso
              omega
            · have nc27 : ¬ v7.toInt = (107 : Int) := mt (i_eq (x := v7) (y := 107)).mpr c27
              refine lv_iconst (v := 1) S.x S.b d_Mpg_height_149 (by decide) ?_
              refine lv_goto (tgt := 154) S.x S.b d_Mpg_height_150 (by decide) ?_
              refine lv_istore (lv' := [(8, .int 1), (7, .int v7), (0, .ref h), (1, .int p0), (2, .int x91_2), (3, .int x91_3), (4, .int x91_4), (5, .int x91_5), (6, .int x91_6)]) S.x S.b d_Mpg_height_154 hl (by decide) rfl (fun ls hl => ?_)
              refine lv_iload_n S.x S.b d_Mpg_height_156 rfl (lv_at hl 5 rfl) ?_
              refine lv_iload S.x S.b d_Mpg_height_157 (lv_at hl 0 rfl) ?_
              refine lv_if_eq (tgt := 166) S.x S.b d_Mpg_height_159 (by decide) (fun c28 => ?_) (fun c28 => ?_)
              · exact absurd c28 (by decide)
              ·
                refine lv_iconst (v := 2) S.x S.b d_Mpg_height_162 (by decide) ?_
                refine lv_goto (tgt := 183) S.x S.b d_Mpg_height_163 (by decide) ?_
                refine lv_iadd S.x S.b d_Mpg_height_183 ?_
                refine lv_topi (fun z29 ez29 => ?_)
                have tz29 : z29.toInt = (x91_3.toInt + (2 : Int) + 2147483648) % 4294967296 - 2147483648 := by rw [ez29]; exact i_add x91_3 2
                have lz29 := Int32.le_toInt z29
                have uz29 := Int32.toInt_lt z29
                try replace tz29 : z29.toInt = x91_3.toInt + (2 : Int) := by omega
                refine lv_istore (lv' := [(9, .int z29), (8, .int 1), (7, .int v7), (0, .ref h), (1, .int p0), (2, .int x91_2), (3, .int x91_3), (4, .int x91_4), (5, .int x91_5), (6, .int x91_6)]) S.x S.b d_Mpg_height_184 hl (by decide) rfl (fun ls hl => ?_)
                refine lv_iload S.x S.b d_Mpg_height_186 (lv_at hl 0 rfl) ?_
                refine lv_iload_n S.x S.b d_Mpg_height_188 rfl (lv_at hl 5 rfl) ?_
                refine lv_icmp_le (tgt := 197) S.x S.b d_Mpg_height_189 (by decide) (fun c30 => ?_) (fun c30 => ?_)
                · have nc30 : z29.toInt ≤ x91_2.toInt := (i_le (x := z29) (y := x91_2)).mp c30
                  refine lv_iload_n S.x S.b d_Mpg_height_197 rfl (lv_at hl 5 rfl) ?_
                  refine lv_istore_n (lv' := [(2, .int x91_2), (9, .int z29), (8, .int 1), (7, .int v7), (0, .ref h), (1, .int p0), (3, .int x91_3), (4, .int x91_4), (5, .int x91_5), (6, .int x91_6)]) S.x S.b d_Mpg_height_198 rfl hl (by decide) rfl (fun ls hl => ?_)
                  refine lv_iload_n S.x S.b d_Mpg_height_199 rfl (lv_at hl 6 rfl) ?_
                  refine lv_iload S.x S.b d_Mpg_height_200 (lv_at hl 2 rfl) ?_
                  refine lv_if_eq (tgt := 209) S.x S.b d_Mpg_height_202 (by decide) (fun c31 => ?_) (fun c31 => ?_)
                  · exact absurd c31 (by decide)
                  ·
                    refine lv_iconst (v := 2) S.x S.b d_Mpg_height_205 (by decide) ?_
                    refine lv_goto (tgt := 210) S.x S.b d_Mpg_height_206 (by decide) ?_
                    refine lv_iadd S.x S.b d_Mpg_height_210 ?_
                    refine lv_topi (fun z32 ez32 => ?_)
                    have tz32 : z32.toInt = (x91_3.toInt + (2 : Int) + 2147483648) % 4294967296 - 2147483648 := by rw [ez32]; exact i_add x91_3 2
                    have lz32 := Int32.le_toInt z32
                    have uz32 := Int32.toInt_lt z32
                    try replace tz32 : z32.toInt = x91_3.toInt + (2 : Int) := by omega
                    refine lv_istore_n (lv' := [(3, .int z32), (2, .int x91_2), (9, .int z29), (8, .int 1), (7, .int v7), (0, .ref h), (1, .int p0), (4, .int x91_4), (5, .int x91_5), (6, .int x91_6)]) S.x S.b d_Mpg_height_211 rfl hl (by decide) rfl (fun ls hl => ?_)
                    obtain ⟨z33, ez33⟩ : ∃ y : Int32, y = x91_5 + 1 := ⟨_, rfl⟩
                    have tz33 : z33.toInt = (x91_5.toInt + 1 + 2147483648) % 4294967296 - 2147483648 := by rw [ez33]; exact i_add x91_5 1
                    have lz33 := Int32.le_toInt z33
                    have uz33 := Int32.toInt_lt z33
                    try replace tz33 : z33.toInt = x91_5.toInt + 1 := by omega
                    refine lv_iinc (v := z33) (lv' := [(5, .int z33), (3, .int z32), (2, .int x91_2), (9, .int z29), (8, .int 1), (7, .int v7), (0, .ref h), (1, .int p0), (4, .int x91_4), (6, .int x91_6)]) S.x S.b d_Mpg_height_212 hl (k := 8) rfl (by rw [ez33]; rfl) (by decide) rfl (fun ls hl => ?_)
                    refine lv_aload_n S.x S.b d_Mpg_height_215 rfl (lv_at hl 6 rfl) ?_
                    refine px_get S k_Mpg hT hw 0 0 21 (v := .ref (r 21)) rfl rfl rfl (by decide) m10_7 d_Mpg_height_216 ?_
                    refine lv_iload S.x S.b d_Mpg_height_219 (lv_at hl 9 rfl) ?_
                    refine px_iald S hT hw 0 17 (n := 2100) (f := (na 21)) rfl gp_21 (x := x91_6) (vp_in_iff.mpr (by constructor <;> omega)) d_Mpg_height_221 ?_
                    refine lv_topi (fun z34 ez34 => ?_)
                    have lz34 := Int32.le_toInt z34
                    have uz34 := Int32.toInt_lt z34
                    refine lv_istore (lv' := [(6, .int z34), (5, .int z33), (3, .int z32), (2, .int x91_2), (9, .int z29), (8, .int 1), (7, .int v7), (0, .ref h), (1, .int p0), (4, .int x91_4)]) S.x S.b d_Mpg_height_222 hl (by decide) rfl (fun ls hl => ?_)
                    refine lv_goto (tgt := 91) S.x S.b d_Mpg_height_224 (by decide) ?_
                    exact ih91 md2 x91_2 z32 x91_4 z33 z34 _ _ ls (show 1 ≤ x91_2.toInt from by first | exact k91_0 | omega) (show x91_2.toInt ≤ 2 * (hi - lo) from by first | exact k91_1 | omega) (show 0 ≤ z32.toInt from by first | exact oz_6c4a1e09c3 tz32 k91_2 | omega) (show z32.toInt ≤ 2 * z33.toInt from by first | exact oz_0b0b8c8fbd tz32 tz33 k91_3 | omega) (show 0 ≤ x91_4.toInt from by first | exact k91_4 | omega) (show x91_4.toInt ≤ 1 from by first | exact k91_5 | omega) (show x91_4.toInt = 1 → (ma 18 p0.toNatClampNeg).toInt < 100 from by first | exact k91_6 | omega) (show x91_4.toInt = 0 → 100 ≤ (ma 18 p0.toNatClampNeg).toInt from by first | exact k91_7 | omega) (show 0 ≤ z33.toInt from by first | exact oz_ae613611c0 tz33 k91_8 | omega) (show z33.toInt + p0.toInt + 1 ≤ md2 from by first | with_reducible rfl | with_reducible assumption | omega) (show p0.toInt + 1 ≤ md2 from by first | with_reducible rfl | with_reducible assumption | omega) (show md2 ≤ hi from by first | exact hm2_md2 | omega) (show (na 14 p0.toNatClampNeg).toInt = 3 from by first | exact k91_12 | omega) (show RcR ta (tf 6).toInt na ma0 d md2 hi z34 from (by rw [ez34]; exact hrr2)) (show AgV na V (tkl na ma0 ca (ma 18 p0.toNatClampNeg).toInt) z33.toInt z34 from (by rw [ez34, show z33.toInt = x91_5.toInt + 1 by omega]; exact hag3)) (show HaS na ma0 ma ca d (ma 18 p0.toNatClampNeg).toInt (na 17 p0.toNatClampNeg) z33.toInt z32.toInt z34 x91_2.toInt from (HaS.nx (v := 0) has (by first | with_reducible rfl | with_reducible assumption | omega) (by first | with_reducible rfl | with_reducible assumption | omega) (by first | with_reducible rfl | with_reducible assumption | omega) (by first | with_reducible rfl | with_reducible assumption | omega) htv_130 (fun q => absurd q (by first | with_reducible rfl | with_reducible assumption | omega)) (fun q => ⟨by first | with_reducible rfl | with_reducible assumption | omega, by first | with_reducible rfl | with_reducible assumption | omega⟩) ez34)) (show z32.toInt ≤ x91_2.toInt from by first | exact oz_7e90d38d08 nc30 tz32 tz29 | omega) (show hi - md2 < (n_91 : Int) from by first | with_reducible rfl | with_reducible assumption | omega) hw (lv_sub hl [7, 8, 3, 2, 9, 1, 0] rfl)
                · have nc30 : ¬ z29.toInt ≤ x91_2.toInt := mt (i_le (x := z29) (y := x91_2)).mpr c30
                  refine lv_iload S.x S.b d_Mpg_height_192 (lv_at hl 0 rfl) ?_
                  refine lv_goto (tgt := 198) S.x S.b d_Mpg_height_194 (by decide) ?_
                  refine lv_istore_n (lv' := [(2, .int z29), (9, .int z29), (8, .int 1), (7, .int v7), (0, .ref h), (1, .int p0), (3, .int x91_3), (4, .int x91_4), (5, .int x91_5), (6, .int x91_6)]) S.x S.b d_Mpg_height_198 rfl hl (by decide) rfl (fun ls hl => ?_)
                  refine lv_iload_n S.x S.b d_Mpg_height_199 rfl (lv_at hl 6 rfl) ?_
                  refine lv_iload S.x S.b d_Mpg_height_200 (lv_at hl 2 rfl) ?_
                  refine lv_if_eq (tgt := 209) S.x S.b d_Mpg_height_202 (by decide) (fun c35 => ?_) (fun c35 => ?_)
                  · exact absurd c35 (by decide)
                  ·
                    refine lv_iconst (v := 2) S.x S.b d_Mpg_height_205 (by decide) ?_
                    refine lv_goto (tgt := 210) S.x S.b d_Mpg_height_206 (by decide) ?_
                    refine lv_iadd S.x S.b d_Mpg_height_210 ?_
                    refine lv_topi (fun z36 ez36 => ?_)
                    have tz36 : z36.toInt = (x91_3.toInt + (2 : Int) + 2147483648) % 4294967296 - 2147483648 := by rw [ez36]; exact i_add x91_3 2
                    have lz36 := Int32.le_toInt z36
                    have uz36 := Int32.toInt_lt z36
                    try replace tz36 : z36.toInt = x91_3.toInt + (2 : Int) := by omega
                    refine lv_istore_n (lv' := [(3, .int z36), (2, .int z29), (9, .int z29), (8, .int 1), (7, .int v7), (0, .ref h), (1, .int p0), (4, .int x91_4), (5, .int x91_5), (6, .int x91_6)]) S.x S.b d_Mpg_height_211 rfl hl (by decide) rfl (fun ls hl => ?_)
                    obtain ⟨z37, ez37⟩ : ∃ y : Int32, y = x91_5 + 1 := ⟨_, rfl⟩
                    have tz37 : z37.toInt = (x91_5.toInt + 1 + 2147483648) % 4294967296 - 2147483648 := by rw [ez37]; exact i_add x91_5 1
                    have lz37 := Int32.le_toInt z37
                    have uz37 := Int32.toInt_lt z37
                    try replace tz37 : z37.toInt = x91_5.toInt + 1 := by omega
                    refine lv_iinc (v := z37) (lv' := [(5, .int z37), (3, .int z36), (2, .int z29), (9, .int z29), (8, .int 1), (7, .int v7), (0, .ref h), (1, .int p0), (4, .int x91_4), (6, .int x91_6)]) S.x S.b d_Mpg_height_212 hl (k := 8) rfl (by rw [ez37]; rfl) (by decide) rfl (fun ls hl => ?_)
                    refine lv_aload_n S.x S.b d_Mpg_height_215 rfl (lv_at hl 6 rfl) ?_
                    refine px_get S k_Mpg hT hw 0 0 21 (v := .ref (r 21)) rfl rfl rfl (by decide) m10_7 d_Mpg_height_216 ?_
                    refine lv_iload S.x S.b d_Mpg_height_219 (lv_at hl 9 rfl) ?_
                    refine px_iald S hT hw 0 17 (n := 2100) (f := (na 21)) rfl gp_21 (x := x91_6) (vp_in_iff.mpr (by constructor <;> omega)) d_Mpg_height_221 ?_
                    refine lv_topi (fun z38 ez38 => ?_)
                    have lz38 := Int32.le_toInt z38
                    have uz38 := Int32.toInt_lt z38
                    refine lv_istore (lv' := [(6, .int z38), (5, .int z37), (3, .int z36), (2, .int z29), (9, .int z29), (8, .int 1), (7, .int v7), (0, .ref h), (1, .int p0), (4, .int x91_4)]) S.x S.b d_Mpg_height_222 hl (by decide) rfl (fun ls hl => ?_)
                    refine lv_goto (tgt := 91) S.x S.b d_Mpg_height_224 (by decide) ?_
                    exact ih91 md2 z29 z36 x91_4 z37 z38 _ _ ls (show 1 ≤ z29.toInt from by first | exact oz_58d7b95763 nc30 k91_0 | omega) (show z29.toInt ≤ 2 * (hi - lo) from by first | exact oz_a158216c70 hrg.1 k91_11 tz29 k91_3 k91_9 | omega) (show 0 ≤ z36.toInt from by first | exact oz_6c4a1e09c3 tz36 k91_2 | omega) (show z36.toInt ≤ 2 * z37.toInt from by first | exact oz_0b0b8c8fbd tz36 tz37 k91_3 | omega) (show 0 ≤ x91_4.toInt from by first | exact k91_4 | omega) (show x91_4.toInt ≤ 1 from by first | exact k91_5 | omega) (show x91_4.toInt = 1 → (ma 18 p0.toNatClampNeg).toInt < 100 from by first | exact k91_6 | omega) (show x91_4.toInt = 0 → 100 ≤ (ma 18 p0.toNatClampNeg).toInt from by first | exact k91_7 | omega) (show 0 ≤ z37.toInt from by first | exact oz_ae613611c0 tz37 k91_8 | omega) (show z37.toInt + p0.toInt + 1 ≤ md2 from by first | with_reducible rfl | with_reducible assumption | omega) (show p0.toInt + 1 ≤ md2 from by first | with_reducible rfl | with_reducible assumption | omega) (show md2 ≤ hi from by first | exact hm2_md2 | omega) (show (na 14 p0.toNatClampNeg).toInt = 3 from by first | exact k91_12 | omega) (show RcR ta (tf 6).toInt na ma0 d md2 hi z38 from (by rw [ez38]; exact hrr2)) (show AgV na V (tkl na ma0 ca (ma 18 p0.toNatClampNeg).toInt) z37.toInt z38 from (by rw [ez38, show z37.toInt = x91_5.toInt + 1 by omega]; exact hag3)) (show HaS na ma0 ma ca d (ma 18 p0.toNatClampNeg).toInt (na 17 p0.toNatClampNeg) z37.toInt z36.toInt z38 z29.toInt from (HaS.nx (v := 0) has (by first | with_reducible rfl | with_reducible assumption | omega) (by first | with_reducible rfl | with_reducible assumption | omega) (by first | with_reducible rfl | with_reducible assumption | omega) (by first | with_reducible rfl | with_reducible assumption | omega) htv_130 (fun q => absurd q (by first | with_reducible rfl | with_reducible assumption | omega)) (fun q => ⟨by first | with_reducible rfl | with_reducible assumption | omega, by first | with_reducible rfl | with_reducible assumption | omega⟩) ez38)) (show z36.toInt ≤ z29.toInt from by first | exact oz_eb1698c6c8 tz29 tz36 | omega) (show hi - md2 < (n_91 : Int) from by first | with_reducible rfl | with_reducible assumption | omega) hw (lv_sub hl [7, 8, 3, 2, 9, 1, 0] rfl)
        · have nc3 : ¬ x91_4.toInt = (0 : Int) := mt (i_eq (x := x91_4) (y := 0)).mpr c3
          refine lv_aload_n S.x S.b d_Mpg_height_101 rfl (lv_at hl 0 rfl) ?_
          refine lv_iconst (v := (-1)) S.x S.b d_Mpg_height_102 (by decide) ?_
          refine lv_aload_n S.x S.b d_Mpg_height_103 rfl (lv_at hl 0 rfl) ?_
          refine px_get S k_Mpg hT hw 0 0 18 (v := .ref (r 18)) rfl rfl rfl (by decide) m10_3 d_Mpg_height_104 ?_
          refine lv_iload_n S.x S.b d_Mpg_height_107 rfl (lv_at hl 1 rfl) ?_
          refine px_iald S hT hw 0 14 (n := 2100) (f := (ma 18)) rfl gp_18 (x := p0) (vp_in_iff.mpr (by first | exact oz_a7e05de1cd hrg.2.2 hrg.2.1 g1 g2 | (constructor <;> omega))) d_Mpg_height_108 ?_
          refine lv_topi (fun z39 ez39 => ?_)
          have lz39 := Int32.le_toInt z39
          have uz39 := Int32.toInt_lt z39
          have rz39 : z39.toInt = (ma 18 p0.toNatClampNeg).toInt := by rw [ez39]
          refine lv_iload S.x S.b d_Mpg_height_109 (lv_at hl 5 rfl) ?_
          refine px_calli (pr := []) (px_runV (As := [.int (-1), .int z39, .int x91_5]) (rest := []) S (c_mp_taken l D cs h r g tf ta pf na ma wa cf ca ef ea xf xa (-1) z39 x91_5  (show -1 ≤ (-1 : Int) from by first | decide | omega) (show (-1 : Int) < (cf 38).toInt from by first | exact oz_7f6cba95dd g4 g5 | omega) (show (-1 : Int) < 0 → 0 ≤ z39.toInt ∧ z39.toInt < 10 from by first | with_reducible rfl | with_reducible assumption | omega) (show 0 ≤ x91_5.toInt from by first | exact k91_8 | omega) (show x91_5.toInt ≤ 4000 from by first | exact oz_2634073f30 k91_9 hrg.2.2 k91_11 g1 g2 | omega) (show 0 ≤ (cf 38).toInt from by first | exact oz_f3ebed1ad0 g4 g5 | omega) htk (FnT.eq hft (by first | with_reducible rfl | with_reducible assumption | omega)) (FnP.eq hfp (by first | with_reducible rfl | with_reducible assumption | omega)) _) hT (pr := []) (pcs := [wdP cs h r g tf ta pf na ma wa cf ca ef ea xf xa]) hw (oX_call (P := (fun A U H => (oP A g U H))) (pr := []) oG_P hw hA hP) (px_recv hT hw 0 0 rfl rfl rfl) m12_229 m12_226 m12_228 ms_12_10 m1_21 q_Mpg_taken ⟨show 4 + 1 ≤ (2 * (d + 1) + 8) from by first | with_reducible rfl | with_reducible assumption | omega, show 8 + (6 + 11) + 140 ≤ (100 * (d + 1) + 260) from by first | with_reducible rfl | with_reducible assumption | omega⟩ hl.1 rfl (Nat.le_of_ble_eq_true rfl) d_Mpg_height_111 ⟨Nat.le_of_ble_eq_true rfl, Nat.le_of_ble_eq_true rfl⟩) hw hA (fun v41 p40 H locs hp40 hw => ?_)
          obtain ⟨rfl, e42⟩ := hp40
          replace e42 : TkV na ma ca (-1 : Int) z39.toInt x91_5.toInt v41.toInt := e42
          replace hw : pw D A s.heap H locs [wdP cs h r g tf ta pf na ma wa cf ca ef ea xf xa] := hw
          have lv41 := Int32.le_toInt v41
          have uv41 := Int32.toInt_lt v41
          have hcd_111 : cod (-1 : Int) z39.toInt = (ma 18 p0.toNatClampNeg).toInt := (by unfold cod; first | (rw [if_pos (by first | with_reducible rfl | with_reducible assumption | omega)]; omega) | (rw [if_neg (by first | with_reducible rfl | with_reducible assumption | omega)]; omega)); have hcn_111 : CeN nf (cod (-1 : Int) z39.toInt) := (by rw [hcd_111]; exact hce); have htv_111 := tkv_at (ta := ta) (ns := ns) (ys := ys) e42 han hfp hcn_111; have htg_111 := tkv_rng e42 hcn_111; rw [hcd_111] at htv_111
          refine lv_goto (tgt := 133) S.x S.b d_Mpg_height_114 (by decide) ?_
          refine lv_istore (lv' := [(7, .int v41), (0, .ref h), (1, .int p0), (2, .int x91_2), (3, .int x91_3), (4, .int x91_4), (5, .int x91_5), (6, .int x91_6)]) S.x S.b d_Mpg_height_133 hl (by decide) rfl (fun ls hl => ?_)
          refine lv_iload S.x S.b d_Mpg_height_135 (lv_at hl 0 rfl) ?_
          refine lv_bipush (v := 105) S.x S.b d_Mpg_height_137 (by decide) ?_
          refine lv_icmp_eq (tgt := 153) S.x S.b d_Mpg_height_139 (by decide) (fun c43 => ?_) (fun c43 => ?_)
          · have nc43 : v41.toInt = (105 : Int) := (i_eq (x := v41) (y := 105)).mp c43
            refine lv_iconst (v := 0) S.x S.b d_Mpg_height_153 (by decide) ?_
            refine lv_istore (lv' := [(8, .int 0), (7, .int v41), (0, .ref h), (1, .int p0), (2, .int x91_2), (3, .int x91_3), (4, .int x91_4), (5, .int x91_5), (6, .int x91_6)]) S.x S.b d_Mpg_height_154 hl (by decide) rfl (fun ls hl => ?_)
            refine lv_iload_n S.x S.b d_Mpg_height_156 rfl (lv_at hl 5 rfl) ?_
            refine lv_iload S.x S.b d_Mpg_height_157 (lv_at hl 0 rfl) ?_
            refine lv_if_eq (tgt := 166) S.x S.b d_Mpg_height_159 (by decide) (fun c44 => ?_) (fun c44 => ?_)
            ·
              refine lv_iload S.x S.b d_Mpg_height_166 (lv_at hl 1 rfl) ?_
              refine lv_bipush (v := 107) S.x S.b d_Mpg_height_168 (by decide) ?_
              refine lv_icmp_ne (tgt := 177) S.x S.b d_Mpg_height_170 (by decide) (fun c45 => ?_) (fun c45 => ?_)
              · have nc45 : ¬ v41.toInt = (107 : Int) := mt (i_eq (x := v41) (y := 107)).mpr c45
                refine lv_aload_n S.x S.b d_Mpg_height_177 rfl (lv_at hl 2 rfl) ?_
                refine lv_iload S.x S.b d_Mpg_height_178 (lv_at hl 8 rfl) ?_
                have hvn_x91_6 : V x91_6.toNatClampNeg 0 := AgV.v0 hag2 (htv_111.symm.trans (by first | with_reducible rfl | with_reducible assumption | omega))
                refine px_calli (pr := []) (px_runV (As := [.int x91_6]) (rest := [.int x91_3]) S (hLH ma0 ys ns nf mid_91 md2 V vl vh h r g tf ta pf na ma wa cf ca ef ea xf xa x91_6 (show 0 ≤ mid_91 from by first | exact oz_06d7f15a5c k91_10 hrg.2.2 | omega) (show md2 ≤ (pf 13).toInt from by first | exact oz_bbb5b20c1a g1 hm2_md2 | omega) (show (pf 13).toInt ≤ 2100 from by first | exact g2 | omega) (show (tf 6).toInt ≤ 2049 from by first | exact g3 | omega) (show (cf 38).toInt = nf from by first | exact g4 | omega) (show 0 ≤ nf from by first | exact g5 | omega) htk (FnT.eq hft (by first | with_reducible rfl | with_reducible assumption | omega)) hfp han hts hec_x91_6 hvn_x91_6 _) hT (pr := []) (pcs := [wdP cs h r g tf ta pf na ma wa cf ca ef ea xf xa]) hw (oX_call (P := (fun A U H => (oP A g U H))) (pr := []) oG_P hw hA hP) (px_recv hT hw 0 0 rfl rfl rfl) m13_65 m13_62 m13_64 ms_13_13 m1_21 q_Mpg_height ⟨show (2 * d + 8) + 1 ≤ (2 * (d + 1) + 8) from by first | with_reducible rfl | with_reducible assumption | omega, show 8 + (12 + 11) + (100 * d + 260) ≤ (100 * (d + 1) + 260) from by first | with_reducible rfl | with_reducible assumption | omega⟩ hl.1 rfl (Nat.le_of_ble_eq_true rfl) d_Mpg_height_180 ⟨Nat.le_of_ble_eq_true rfl, Nat.le_of_ble_eq_true rfl⟩) hw hA (fun v47 p46 H locs hp46 hw => ?_)
                obtain ⟨rfl, e48, e49, e50⟩ := hp46
                replace e48 : 1 ≤ v47.toInt := e48
                replace e49 : v47.toInt ≤ 2 * (md2 - mid_91) := e49
                replace e50 : HgB na ma0 ma (tkl na ma0 ca) d x91_6 v47.toInt := e50
                replace hw : pw D A s.heap H locs [wdP cs h r g tf ta pf na ma wa cf ca ef ea xf xa] := hw
                have lv47 := Int32.le_toInt v47
                have uv47 := Int32.toInt_lt v47
                refine lv_iadd S.x S.b d_Mpg_height_183 ?_
                refine lv_topi (fun z51 ez51 => ?_)
                have tz51 : z51.toInt = (x91_3.toInt + v47.toInt + 2147483648) % 4294967296 - 2147483648 := by rw [ez51]; exact i_add x91_3 v47
                have lz51 := Int32.le_toInt z51
                have uz51 := Int32.toInt_lt z51
                try replace tz51 : z51.toInt = x91_3.toInt + v47.toInt := by omega
                refine lv_istore (lv' := [(9, .int z51), (8, .int 0), (7, .int v41), (0, .ref h), (1, .int p0), (2, .int x91_2), (3, .int x91_3), (4, .int x91_4), (5, .int x91_5), (6, .int x91_6)]) S.x S.b d_Mpg_height_184 hl (by decide) rfl (fun ls hl => ?_)
                refine lv_iload S.x S.b d_Mpg_height_186 (lv_at hl 0 rfl) ?_
                refine lv_iload_n S.x S.b d_Mpg_height_188 rfl (lv_at hl 5 rfl) ?_
                refine lv_icmp_le (tgt := 197) S.x S.b d_Mpg_height_189 (by decide) (fun c52 => ?_) (fun c52 => ?_)
                · have nc52 : z51.toInt ≤ x91_2.toInt := (i_le (x := z51) (y := x91_2)).mp c52
                  refine lv_iload_n S.x S.b d_Mpg_height_197 rfl (lv_at hl 5 rfl) ?_
                  refine lv_istore_n (lv' := [(2, .int x91_2), (9, .int z51), (8, .int 0), (7, .int v41), (0, .ref h), (1, .int p0), (3, .int x91_3), (4, .int x91_4), (5, .int x91_5), (6, .int x91_6)]) S.x S.b d_Mpg_height_198 rfl hl (by decide) rfl (fun ls hl => ?_)
                  refine lv_iload_n S.x S.b d_Mpg_height_199 rfl (lv_at hl 6 rfl) ?_
                  refine lv_iload S.x S.b d_Mpg_height_200 (lv_at hl 2 rfl) ?_
                  refine lv_if_eq (tgt := 209) S.x S.b d_Mpg_height_202 (by decide) (fun c53 => ?_) (fun c53 => ?_)
                  ·
                    refine lv_iconst (v := 1) S.x S.b d_Mpg_height_209 (by decide) ?_
                    refine lv_iadd S.x S.b d_Mpg_height_210 ?_
                    refine lv_topi (fun z54 ez54 => ?_)
                    have tz54 : z54.toInt = (x91_3.toInt + (1 : Int) + 2147483648) % 4294967296 - 2147483648 := by rw [ez54]; exact i_add x91_3 1
                    have lz54 := Int32.le_toInt z54
                    have uz54 := Int32.toInt_lt z54
                    try replace tz54 : z54.toInt = x91_3.toInt + (1 : Int) := by omega
                    refine lv_istore_n (lv' := [(3, .int z54), (2, .int x91_2), (9, .int z51), (8, .int 0), (7, .int v41), (0, .ref h), (1, .int p0), (4, .int x91_4), (5, .int x91_5), (6, .int x91_6)]) S.x S.b d_Mpg_height_211 rfl hl (by decide) rfl (fun ls hl => ?_)
                    obtain ⟨z55, ez55⟩ : ∃ y : Int32, y = x91_5 + 1 := ⟨_, rfl⟩
                    have tz55 : z55.toInt = (x91_5.toInt + 1 + 2147483648) % 4294967296 - 2147483648 := by rw [ez55]; exact i_add x91_5 1
                    have lz55 := Int32.le_toInt z55
                    have uz55 := Int32.toInt_lt z55
                    try replace tz55 : z55.toInt = x91_5.toInt + 1 := by omega
                    refine lv_iinc (v := z55) (lv' := [(5, .int z55), (3, .int z54), (2, .int x91_2), (9, .int z51), (8, .int 0), (7, .int v41), (0, .ref h), (1, .int p0), (4, .int x91_4), (6, .int x91_6)]) S.x S.b d_Mpg_height_212 hl (k := 8) rfl (by rw [ez55]; rfl) (by decide) rfl (fun ls hl => ?_)
                    refine lv_aload_n S.x S.b d_Mpg_height_215 rfl (lv_at hl 6 rfl) ?_
                    refine px_get S k_Mpg hT hw 0 0 21 (v := .ref (r 21)) rfl rfl rfl (by decide) m10_7 d_Mpg_height_216 ?_
                    refine lv_iload S.x S.b d_Mpg_height_219 (lv_at hl 9 rfl) ?_
                    refine px_iald S hT hw 0 17 (n := 2100) (f := (na 21)) rfl gp_21 (x := x91_6) (vp_in_iff.mpr (by constructor <;> omega)) d_Mpg_height_221 ?_
                    refine lv_topi (fun z56 ez56 => ?_)
                    have lz56 := Int32.le_toInt z56
                    have uz56 := Int32.toInt_lt z56
                    refine lv_istore (lv' := [(6, .int z56), (5, .int z55), (3, .int z54), (2, .int x91_2), (9, .int z51), (8, .int 0), (7, .int v41), (0, .ref h), (1, .int p0), (4, .int x91_4)]) S.x S.b d_Mpg_height_222 hl (by decide) rfl (fun ls hl => ?_)
                    refine lv_goto (tgt := 91) S.x S.b d_Mpg_height_224 (by decide) ?_
                    exact ih91 md2 x91_2 z54 x91_4 z55 z56 _ _ ls (show 1 ≤ x91_2.toInt from by first | exact k91_0 | omega) (show x91_2.toInt ≤ 2 * (hi - lo) from by first | exact k91_1 | omega) (show 0 ≤ z54.toInt from by first | exact oz_b3b25f0e49 tz54 k91_2 | omega) (show z54.toInt ≤ 2 * z55.toInt from by first | exact oz_82982fc7e4 tz54 tz55 k91_3 | omega) (show 0 ≤ x91_4.toInt from by first | exact k91_4 | omega) (show x91_4.toInt ≤ 1 from by first | exact k91_5 | omega) (show x91_4.toInt = 1 → (ma 18 p0.toNatClampNeg).toInt < 100 from by first | exact k91_6 | omega) (show x91_4.toInt = 0 → 100 ≤ (ma 18 p0.toNatClampNeg).toInt from by first | exact k91_7 | omega) (show 0 ≤ z55.toInt from by first | exact oz_ae613611c0 tz55 k91_8 | omega) (show z55.toInt + p0.toInt + 1 ≤ md2 from by first | exact oz_f2f12181a2 k91_9 e49 tz55 e48 | omega) (show p0.toInt + 1 ≤ md2 from by first | exact oz_03606900a4 k91_10 e49 e48 | omega) (show md2 ≤ hi from by first | exact hm2_md2 | omega) (show (na 14 p0.toNatClampNeg).toInt = 3 from by first | exact k91_12 | omega) (show RcR ta (tf 6).toInt na ma0 d md2 hi z56 from (by rw [ez56]; exact hrr2)) (show AgV na V (tkl na ma0 ca (ma 18 p0.toNatClampNeg).toInt) z55.toInt z56 from (by rw [ez56, show z55.toInt = x91_5.toInt + 1 by omega]; exact hag3)) (show HaS na ma0 ma ca d (ma 18 p0.toNatClampNeg).toInt (na 17 p0.toNatClampNeg) z55.toInt z54.toInt z56 x91_2.toInt from (HaS.nx (v := v47.toInt) has (by first | with_reducible rfl | with_reducible assumption | omega) (by first | with_reducible rfl | with_reducible assumption | omega) (by first | with_reducible rfl | with_reducible assumption | omega) (by first | with_reducible rfl | with_reducible assumption | omega) htv_111 (fun q => ⟨e50, by first | with_reducible rfl | with_reducible assumption | omega, by first | with_reducible rfl | with_reducible assumption | omega⟩) (fun q => ⟨by first | with_reducible rfl | with_reducible assumption | omega, by first | with_reducible rfl | with_reducible assumption | omega⟩) ez56)) (show z54.toInt ≤ x91_2.toInt from by first | exact oz_d06cdef794 nc52 tz54 tz51 e48 | omega) (show hi - md2 < (n_91 : Int) from by first | exact oz_9009d237ba hm e49 e48 | omega) hw (lv_sub hl [7, 8, 3, 2, 9, 1, 0] rfl)
                  · exact absurd c53 (by decide)
                · have nc52 : ¬ z51.toInt ≤ x91_2.toInt := mt (i_le (x := z51) (y := x91_2)).mpr c52
                  refine lv_iload S.x S.b d_Mpg_height_192 (lv_at hl 0 rfl) ?_
                  refine lv_goto (tgt := 198) S.x S.b d_Mpg_height_194 (by decide) ?_
                  refine lv_istore_n (lv' := [(2, .int z51), (9, .int z51), (8, .int 0), (7, .int v41), (0, .ref h), (1, .int p0), (3, .int x91_3), (4, .int x91_4), (5, .int x91_5), (6, .int x91_6)]) S.x S.b d_Mpg_height_198 rfl hl (by decide) rfl (fun ls hl => ?_)
                  refine lv_iload_n S.x S.b d_Mpg_height_199 rfl (lv_at hl 6 rfl) ?_
                  refine lv_iload S.x S.b d_Mpg_height_200 (lv_at hl 2 rfl) ?_
                  refine lv_if_eq (tgt := 209) S.x S.b d_Mpg_height_202 (by decide) (fun c57 => ?_) (fun c57 => ?_)
                  ·
                    refine lv_iconst (v := 1) S.x S.b d_Mpg_height_209 (by decide) ?_
                    refine lv_iadd S.x S.b d_Mpg_height_210 ?_
                    refine lv_topi (fun z58 ez58 => ?_)
                    have tz58 : z58.toInt = (x91_3.toInt + (1 : Int) + 2147483648) % 4294967296 - 2147483648 := by rw [ez58]; exact i_add x91_3 1
                    have lz58 := Int32.le_toInt z58
                    have uz58 := Int32.toInt_lt z58
                    try replace tz58 : z58.toInt = x91_3.toInt + (1 : Int) := by omega
                    refine lv_istore_n (lv' := [(3, .int z58), (2, .int z51), (9, .int z51), (8, .int 0), (7, .int v41), (0, .ref h), (1, .int p0), (4, .int x91_4), (5, .int x91_5), (6, .int x91_6)]) S.x S.b d_Mpg_height_211 rfl hl (by decide) rfl (fun ls hl => ?_)
                    obtain ⟨z59, ez59⟩ : ∃ y : Int32, y = x91_5 + 1 := ⟨_, rfl⟩
                    have tz59 : z59.toInt = (x91_5.toInt + 1 + 2147483648) % 4294967296 - 2147483648 := by rw [ez59]; exact i_add x91_5 1
                    have lz59 := Int32.le_toInt z59
                    have uz59 := Int32.toInt_lt z59
                    try replace tz59 : z59.toInt = x91_5.toInt + 1 := by omega
                    refine lv_iinc (v := z59) (lv' := [(5, .int z59), (3, .int z58), (2, .int z51), (9, .int z51), (8, .int 0), (7, .int v41), (0, .ref h), (1, .int p0), (4, .int x91_4), (6, .int x91_6)]) S.x S.b d_Mpg_height_212 hl (k := 8) rfl (by rw [ez59]; rfl) (by decide) rfl (fun ls hl => ?_)
                    refine lv_aload_n S.x S.b d_Mpg_height_215 rfl (lv_at hl 6 rfl) ?_
                    refine px_get S k_Mpg hT hw 0 0 21 (v := .ref (r 21)) rfl rfl rfl (by decide) m10_7 d_Mpg_height_216 ?_
                    refine lv_iload S.x S.b d_Mpg_height_219 (lv_at hl 9 rfl) ?_
                    refine px_iald S hT hw 0 17 (n := 2100) (f := (na 21)) rfl gp_21 (x := x91_6) (vp_in_iff.mpr (by constructor <;> omega)) d_Mpg_height_221 ?_
                    refine lv_topi (fun z60 ez60 => ?_)
                    have lz60 := Int32.le_toInt z60
                    have uz60 := Int32.toInt_lt z60
                    refine lv_istore (lv' := [(6, .int z60), (5, .int z59), (3, .int z58), (2, .int z51), (9, .int z51), (8, .int 0), (7, .int v41), (0, .ref h), (1, .int p0), (4, .int x91_4)]) S.x S.b d_Mpg_height_222 hl (by decide) rfl (fun ls hl => ?_)
                    refine lv_goto (tgt := 91) S.x S.b d_Mpg_height_224 (by decide) ?_
                    exact ih91 md2 z51 z58 x91_4 z59 z60 _ _ ls (show 1 ≤ z51.toInt from by first | exact oz_58d7b95763 nc52 k91_0 | omega) (show z51.toInt ≤ 2 * (hi - lo) from by first | exact oz_07d5c453ac hrg.1 hm2_md2 tz51 k91_3 k91_9 e49 | omega) (show 0 ≤ z58.toInt from by first | exact oz_b3b25f0e49 tz58 k91_2 | omega) (show z58.toInt ≤ 2 * z59.toInt from by first | exact oz_82982fc7e4 tz58 tz59 k91_3 | omega) (show 0 ≤ x91_4.toInt from by first | exact k91_4 | omega) (show x91_4.toInt ≤ 1 from by first | exact k91_5 | omega) (show x91_4.toInt = 1 → (ma 18 p0.toNatClampNeg).toInt < 100 from by first | exact k91_6 | omega) (show x91_4.toInt = 0 → 100 ≤ (ma 18 p0.toNatClampNeg).toInt from by first | exact k91_7 | omega) (show 0 ≤ z59.toInt from by first | exact oz_ae613611c0 tz59 k91_8 | omega) (show z59.toInt + p0.toInt + 1 ≤ md2 from by first | exact oz_f2f12181a2 k91_9 e49 tz59 e48 | omega) (show p0.toInt + 1 ≤ md2 from by first | exact oz_03606900a4 k91_10 e49 e48 | omega) (show md2 ≤ hi from by first | exact hm2_md2 | omega) (show (na 14 p0.toNatClampNeg).toInt = 3 from by first | exact k91_12 | omega) (show RcR ta (tf 6).toInt na ma0 d md2 hi z60 from (by rw [ez60]; exact hrr2)) (show AgV na V (tkl na ma0 ca (ma 18 p0.toNatClampNeg).toInt) z59.toInt z60 from (by rw [ez60, show z59.toInt = x91_5.toInt + 1 by omega]; exact hag3)) (show HaS na ma0 ma ca d (ma 18 p0.toNatClampNeg).toInt (na 17 p0.toNatClampNeg) z59.toInt z58.toInt z60 z51.toInt from (HaS.nx (v := v47.toInt) has (by first | with_reducible rfl | with_reducible assumption | omega) (by first | with_reducible rfl | with_reducible assumption | omega) (by first | with_reducible rfl | with_reducible assumption | omega) (by first | with_reducible rfl | with_reducible assumption | omega) htv_111 (fun q => ⟨e50, by first | with_reducible rfl | with_reducible assumption | omega, by first | with_reducible rfl | with_reducible assumption | omega⟩) (fun q => ⟨by first | with_reducible rfl | with_reducible assumption | omega, by first | with_reducible rfl | with_reducible assumption | omega⟩) ez60)) (show z58.toInt ≤ z51.toInt from by first | exact oz_b2658c9b4e tz51 tz58 e48 | omega) (show hi - md2 < (n_91 : Int) from by first | exact oz_9009d237ba hm e49 e48 | omega) hw (lv_sub hl [7, 8, 3, 2, 9, 1, 0] rfl)
                  · exact absurd c57 (by decide)
              · have nc45 : v41.toInt = (107 : Int) := (i_eq (x := v41) (y := 107)).mp c45
                exfalso
                omega
            · exact absurd c44 (by decide)
          · have nc43 : ¬ v41.toInt = (105 : Int) := mt (i_eq (x := v41) (y := 105)).mpr c43
            refine lv_iload S.x S.b d_Mpg_height_142 (lv_at hl 0 rfl) ?_
            refine lv_bipush (v := 107) S.x S.b d_Mpg_height_144 (by decide) ?_
            refine lv_icmp_eq (tgt := 153) S.x S.b d_Mpg_height_146 (by decide) (fun c61 => ?_) (fun c61 => ?_)
            · have nc61 : v41.toInt = (107 : Int) := (i_eq (x := v41) (y := 107)).mp c61
              exfalso
              omega
            · have nc61 : ¬ v41.toInt = (107 : Int) := mt (i_eq (x := v41) (y := 107)).mpr c61
              refine lv_iconst (v := 1) S.x S.b d_Mpg_height_149 (by decide) ?_
              refine lv_goto (tgt := 154) S.x S.b d_Mpg_height_150 (by decide) ?_
              refine lv_istore (lv' := [(8, .int 1), (7, .int v41), (0, .ref h), (1, .int p0), (2, .int x91_2), (3, .int x91_3), (4, .int x91_4), (5, .int x91_5), (6, .int x91_6)]) S.x S.b d_Mpg_height_154 hl (by decide) rfl (fun ls hl => ?_)
              refine lv_iload_n S.x S.b d_Mpg_height_156 rfl (lv_at hl 5 rfl) ?_
              refine lv_iload S.x S.b d_Mpg_height_157 (lv_at hl 0 rfl) ?_
              refine lv_if_eq (tgt := 166) S.x S.b d_Mpg_height_159 (by decide) (fun c62 => ?_) (fun c62 => ?_)
              · exact absurd c62 (by decide)
              ·
                refine lv_iconst (v := 2) S.x S.b d_Mpg_height_162 (by decide) ?_
                refine lv_goto (tgt := 183) S.x S.b d_Mpg_height_163 (by decide) ?_
                refine lv_iadd S.x S.b d_Mpg_height_183 ?_
                refine lv_topi (fun z63 ez63 => ?_)
                have tz63 : z63.toInt = (x91_3.toInt + (2 : Int) + 2147483648) % 4294967296 - 2147483648 := by rw [ez63]; exact i_add x91_3 2
                have lz63 := Int32.le_toInt z63
                have uz63 := Int32.toInt_lt z63
                try replace tz63 : z63.toInt = x91_3.toInt + (2 : Int) := by omega
                refine lv_istore (lv' := [(9, .int z63), (8, .int 1), (7, .int v41), (0, .ref h), (1, .int p0), (2, .int x91_2), (3, .int x91_3), (4, .int x91_4), (5, .int x91_5), (6, .int x91_6)]) S.x S.b d_Mpg_height_184 hl (by decide) rfl (fun ls hl => ?_)
                refine lv_iload S.x S.b d_Mpg_height_186 (lv_at hl 0 rfl) ?_
                refine lv_iload_n S.x S.b d_Mpg_height_188 rfl (lv_at hl 5 rfl) ?_
                refine lv_icmp_le (tgt := 197) S.x S.b d_Mpg_height_189 (by decide) (fun c64 => ?_) (fun c64 => ?_)
                · have nc64 : z63.toInt ≤ x91_2.toInt := (i_le (x := z63) (y := x91_2)).mp c64
                  refine lv_iload_n S.x S.b d_Mpg_height_197 rfl (lv_at hl 5 rfl) ?_
                  refine lv_istore_n (lv' := [(2, .int x91_2), (9, .int z63), (8, .int 1), (7, .int v41), (0, .ref h), (1, .int p0), (3, .int x91_3), (4, .int x91_4), (5, .int x91_5), (6, .int x91_6)]) S.x S.b d_Mpg_height_198 rfl hl (by decide) rfl (fun ls hl => ?_)
                  refine lv_iload_n S.x S.b d_Mpg_height_199 rfl (lv_at hl 6 rfl) ?_
                  refine lv_iload S.x S.b d_Mpg_height_200 (lv_at hl 2 rfl) ?_
                  refine lv_if_eq (tgt := 209) S.x S.b d_Mpg_height_202 (by decide) (fun c65 => ?_) (fun c65 => ?_)
                  · exact absurd c65 (by decide)
                  ·
                    refine lv_iconst (v := 2) S.x S.b d_Mpg_height_205 (by decide) ?_
                    refine lv_goto (tgt := 210) S.x S.b d_Mpg_height_206 (by decide) ?_
                    refine lv_iadd S.x S.b d_Mpg_height_210 ?_
                    refine lv_topi (fun z66 ez66 => ?_)
                    have tz66 : z66.toInt = (x91_3.toInt + (2 : Int) + 2147483648) % 4294967296 - 2147483648 := by rw [ez66]; exact i_add x91_3 2
                    have lz66 := Int32.le_toInt z66
                    have uz66 := Int32.toInt_lt z66
                    try replace tz66 : z66.toInt = x91_3.toInt + (2 : Int) := by omega
                    refine lv_istore_n (lv' := [(3, .int z66), (2, .int x91_2), (9, .int z63), (8, .int 1), (7, .int v41), (0, .ref h), (1, .int p0), (4, .int x91_4), (5, .int x91_5), (6, .int x91_6)]) S.x S.b d_Mpg_height_211 rfl hl (by decide) rfl (fun ls hl => ?_)
                    obtain ⟨z67, ez67⟩ : ∃ y : Int32, y = x91_5 + 1 := ⟨_, rfl⟩
                    have tz67 : z67.toInt = (x91_5.toInt + 1 + 2147483648) % 4294967296 - 2147483648 := by rw [ez67]; exact i_add x91_5 1
                    have lz67 := Int32.le_toInt z67
                    have uz67 := Int32.toInt_lt z67
                    try replace tz67 : z67.toInt = x91_5.toInt + 1 := by omega
                    refine lv_iinc (v := z67) (lv' := [(5, .int z67), (3, .int z66), (2, .int x91_2), (9, .int z63), (8, .int 1), (7, .int v41), (0, .ref h), (1, .int p0), (4, .int x91_4), (6, .int x91_6)]) S.x S.b d_Mpg_height_212 hl (k := 8) rfl (by rw [ez67]; rfl) (by decide) rfl (fun ls hl => ?_)
                    refine lv_aload_n S.x S.b d_Mpg_height_215 rfl (lv_at hl 6 rfl) ?_
                    refine px_get S k_Mpg hT hw 0 0 21 (v := .ref (r 21)) rfl rfl rfl (by decide) m10_7 d_Mpg_height_216 ?_
                    refine lv_iload S.x S.b d_Mpg_height_219 (lv_at hl 9 rfl) ?_
                    refine px_iald S hT hw 0 17 (n := 2100) (f := (na 21)) rfl gp_21 (x := x91_6) (vp_in_iff.mpr (by constructor <;> omega)) d_Mpg_height_221 ?_
                    refine lv_topi (fun z68 ez68 => ?_)
                    have lz68 := Int32.le_toInt z68
                    have uz68 := Int32.toInt_lt z68
                    refine lv_istore (lv' := [(6, .int z68), (5, .int z67), (3, .int z66), (2, .int x91_2), (9, .int z63), (8, .int 1), (7, .int v41), (0, .ref h), (1, .int p0), (4, .int x91_4)]) S.x S.b d_Mpg_height_222 hl (by decide) rfl (fun ls hl => ?_)
                    refine lv_goto (tgt := 91) S.x S.b d_Mpg_height_224 (by decide) ?_
                    exact ih91 md2 x91_2 z66 x91_4 z67 z68 _ _ ls (show 1 ≤ x91_2.toInt from by first | exact k91_0 | omega) (show x91_2.toInt ≤ 2 * (hi - lo) from by first | exact k91_1 | omega) (show 0 ≤ z66.toInt from by first | exact oz_6c4a1e09c3 tz66 k91_2 | omega) (show z66.toInt ≤ 2 * z67.toInt from by first | exact oz_0b0b8c8fbd tz66 tz67 k91_3 | omega) (show 0 ≤ x91_4.toInt from by first | exact k91_4 | omega) (show x91_4.toInt ≤ 1 from by first | exact k91_5 | omega) (show x91_4.toInt = 1 → (ma 18 p0.toNatClampNeg).toInt < 100 from by first | exact k91_6 | omega) (show x91_4.toInt = 0 → 100 ≤ (ma 18 p0.toNatClampNeg).toInt from by first | exact k91_7 | omega) (show 0 ≤ z67.toInt from by first | exact oz_ae613611c0 tz67 k91_8 | omega) (show z67.toInt + p0.toInt + 1 ≤ md2 from by first | with_reducible rfl | with_reducible assumption | omega) (show p0.toInt + 1 ≤ md2 from by first | with_reducible rfl | with_reducible assumption | omega) (show md2 ≤ hi from by first | exact hm2_md2 | omega) (show (na 14 p0.toNatClampNeg).toInt = 3 from by first | exact k91_12 | omega) (show RcR ta (tf 6).toInt na ma0 d md2 hi z68 from (by rw [ez68]; exact hrr2)) (show AgV na V (tkl na ma0 ca (ma 18 p0.toNatClampNeg).toInt) z67.toInt z68 from (by rw [ez68, show z67.toInt = x91_5.toInt + 1 by omega]; exact hag3)) (show HaS na ma0 ma ca d (ma 18 p0.toNatClampNeg).toInt (na 17 p0.toNatClampNeg) z67.toInt z66.toInt z68 x91_2.toInt from (HaS.nx (v := 0) has (by first | with_reducible rfl | with_reducible assumption | omega) (by first | with_reducible rfl | with_reducible assumption | omega) (by first | with_reducible rfl | with_reducible assumption | omega) (by first | with_reducible rfl | with_reducible assumption | omega) htv_111 (fun q => absurd q (by first | with_reducible rfl | with_reducible assumption | omega)) (fun q => ⟨by first | with_reducible rfl | with_reducible assumption | omega, by first | with_reducible rfl | with_reducible assumption | omega⟩) ez68)) (show z66.toInt ≤ x91_2.toInt from by first | exact oz_7e90d38d08 nc64 tz66 tz63 | omega) (show hi - md2 < (n_91 : Int) from by first | with_reducible rfl | with_reducible assumption | omega) hw (lv_sub hl [7, 8, 3, 2, 9, 1, 0] rfl)
                · have nc64 : ¬ z63.toInt ≤ x91_2.toInt := mt (i_le (x := z63) (y := x91_2)).mpr c64
                  refine lv_iload S.x S.b d_Mpg_height_192 (lv_at hl 0 rfl) ?_
                  refine lv_goto (tgt := 198) S.x S.b d_Mpg_height_194 (by decide) ?_
                  refine lv_istore_n (lv' := [(2, .int z63), (9, .int z63), (8, .int 1), (7, .int v41), (0, .ref h), (1, .int p0), (3, .int x91_3), (4, .int x91_4), (5, .int x91_5), (6, .int x91_6)]) S.x S.b d_Mpg_height_198 rfl hl (by decide) rfl (fun ls hl => ?_)
                  refine lv_iload_n S.x S.b d_Mpg_height_199 rfl (lv_at hl 6 rfl) ?_
                  refine lv_iload S.x S.b d_Mpg_height_200 (lv_at hl 2 rfl) ?_
                  refine lv_if_eq (tgt := 209) S.x S.b d_Mpg_height_202 (by decide) (fun c69 => ?_) (fun c69 => ?_)
                  · exact absurd c69 (by decide)
                  ·
                    refine lv_iconst (v := 2) S.x S.b d_Mpg_height_205 (by decide) ?_
                    refine lv_goto (tgt := 210) S.x S.b d_Mpg_height_206 (by decide) ?_
                    refine lv_iadd S.x S.b d_Mpg_height_210 ?_
                    refine lv_topi (fun z70 ez70 => ?_)
                    have tz70 : z70.toInt = (x91_3.toInt + (2 : Int) + 2147483648) % 4294967296 - 2147483648 := by rw [ez70]; exact i_add x91_3 2
                    have lz70 := Int32.le_toInt z70
                    have uz70 := Int32.toInt_lt z70
                    try replace tz70 : z70.toInt = x91_3.toInt + (2 : Int) := by omega
                    refine lv_istore_n (lv' := [(3, .int z70), (2, .int z63), (9, .int z63), (8, .int 1), (7, .int v41), (0, .ref h), (1, .int p0), (4, .int x91_4), (5, .int x91_5), (6, .int x91_6)]) S.x S.b d_Mpg_height_211 rfl hl (by decide) rfl (fun ls hl => ?_)
                    obtain ⟨z71, ez71⟩ : ∃ y : Int32, y = x91_5 + 1 := ⟨_, rfl⟩
                    have tz71 : z71.toInt = (x91_5.toInt + 1 + 2147483648) % 4294967296 - 2147483648 := by rw [ez71]; exact i_add x91_5 1
                    have lz71 := Int32.le_toInt z71
                    have uz71 := Int32.toInt_lt z71
                    try replace tz71 : z71.toInt = x91_5.toInt + 1 := by omega
                    refine lv_iinc (v := z71) (lv' := [(5, .int z71), (3, .int z70), (2, .int z63), (9, .int z63), (8, .int 1), (7, .int v41), (0, .ref h), (1, .int p0), (4, .int x91_4), (6, .int x91_6)]) S.x S.b d_Mpg_height_212 hl (k := 8) rfl (by rw [ez71]; rfl) (by decide) rfl (fun ls hl => ?_)
                    refine lv_aload_n S.x S.b d_Mpg_height_215 rfl (lv_at hl 6 rfl) ?_
                    refine px_get S k_Mpg hT hw 0 0 21 (v := .ref (r 21)) rfl rfl rfl (by decide) m10_7 d_Mpg_height_216 ?_
                    refine lv_iload S.x S.b d_Mpg_height_219 (lv_at hl 9 rfl) ?_
                    refine px_iald S hT hw 0 17 (n := 2100) (f := (na 21)) rfl gp_21 (x := x91_6) (vp_in_iff.mpr (by constructor <;> omega)) d_Mpg_height_221 ?_
                    refine lv_topi (fun z72 ez72 => ?_)
                    have lz72 := Int32.le_toInt z72
                    have uz72 := Int32.toInt_lt z72
                    refine lv_istore (lv' := [(6, .int z72), (5, .int z71), (3, .int z70), (2, .int z63), (9, .int z63), (8, .int 1), (7, .int v41), (0, .ref h), (1, .int p0), (4, .int x91_4)]) S.x S.b d_Mpg_height_222 hl (by decide) rfl (fun ls hl => ?_)
                    refine lv_goto (tgt := 91) S.x S.b d_Mpg_height_224 (by decide) ?_
                    exact ih91 md2 z63 z70 x91_4 z71 z72 _ _ ls (show 1 ≤ z63.toInt from by first | exact oz_58d7b95763 nc64 k91_0 | omega) (show z63.toInt ≤ 2 * (hi - lo) from by first | exact oz_a158216c70 hrg.1 k91_11 tz63 k91_3 k91_9 | omega) (show 0 ≤ z70.toInt from by first | exact oz_6c4a1e09c3 tz70 k91_2 | omega) (show z70.toInt ≤ 2 * z71.toInt from by first | exact oz_0b0b8c8fbd tz70 tz71 k91_3 | omega) (show 0 ≤ x91_4.toInt from by first | exact k91_4 | omega) (show x91_4.toInt ≤ 1 from by first | exact k91_5 | omega) (show x91_4.toInt = 1 → (ma 18 p0.toNatClampNeg).toInt < 100 from by first | exact k91_6 | omega) (show x91_4.toInt = 0 → 100 ≤ (ma 18 p0.toNatClampNeg).toInt from by first | exact k91_7 | omega) (show 0 ≤ z71.toInt from by first | exact oz_ae613611c0 tz71 k91_8 | omega) (show z71.toInt + p0.toInt + 1 ≤ md2 from by first | with_reducible rfl | with_reducible assumption | omega) (show p0.toInt + 1 ≤ md2 from by first | with_reducible rfl | with_reducible assumption | omega) (show md2 ≤ hi from by first | exact hm2_md2 | omega) (show (na 14 p0.toNatClampNeg).toInt = 3 from by first | exact k91_12 | omega) (show RcR ta (tf 6).toInt na ma0 d md2 hi z72 from (by rw [ez72]; exact hrr2)) (show AgV na V (tkl na ma0 ca (ma 18 p0.toNatClampNeg).toInt) z71.toInt z72 from (by rw [ez72, show z71.toInt = x91_5.toInt + 1 by omega]; exact hag3)) (show HaS na ma0 ma ca d (ma 18 p0.toNatClampNeg).toInt (na 17 p0.toNatClampNeg) z71.toInt z70.toInt z72 z63.toInt from (HaS.nx (v := 0) has (by first | with_reducible rfl | with_reducible assumption | omega) (by first | with_reducible rfl | with_reducible assumption | omega) (by first | with_reducible rfl | with_reducible assumption | omega) (by first | with_reducible rfl | with_reducible assumption | omega) htv_111 (fun q => absurd q (by first | with_reducible rfl | with_reducible assumption | omega)) (fun q => ⟨by first | with_reducible rfl | with_reducible assumption | omega, by first | with_reducible rfl | with_reducible assumption | omega⟩) ez72)) (show z70.toInt ≤ z63.toInt from by first | exact oz_eb1698c6c8 tz63 tz70 | omega) (show hi - md2 < (n_91 : Int) from by first | with_reducible rfl | with_reducible assumption | omega) hw (lv_sub hl [7, 8, 3, 2, 9, 1, 0] rfl)
  have J265 : ∀ (n_265 : Nat)  (mid_265 : Int) (x265_6 x265_7 : Int32) (H : Heap) (locs : List Loc) (ls : Array Slot), (1 ≤ x265_6.toInt) → (x265_6.toInt ≤ 2 * (hi - lo)) → (lo < mid_265) → (mid_265 ≤ hi) → ((na 14 p0.toNatClampNeg).toInt = 7) → (RcM ta (tf 6).toInt na ma0 d p0 mid_265 hi x265_7) → (RwV0 na V 0 x265_7) → (HgB na ma0 ma (tkl na ma0 ca) d (na 17 p0.toNatClampNeg) x265_6.toInt) → (HgS na ma0 ma ca d (na 21 (na 17 p0.toNatClampNeg).toNatClampNeg) x265_7 x265_6.toInt) → hi - mid_265 < (n_265 : Int) → pw D A s.heap H locs [wdP cs h r g tf ta pf na ma wa cf ca ef ea xf xa] → lv_has ls 12 [(0, .ref h), (1, .int p0), (6, .int x265_6), (7, .int x265_7)] → W p l e { frames := (2 * (d + 1) + 8), cells := 0, slots := 0, locals := (100 * (d + 1) + 260) } s m [.ref h, .int p0].toArray below meth c H locs 0 0 (MQ below (va_Qi (fun v ps => (ps = [wdP cs h r g tf ta pf na ma wa cf ca ef ea xf xa]) ∧ (1 ≤ v.toInt) ∧ (v.toInt ≤ 2 * (hi - lo)) ∧ (HgB na ma0 ma (tkl na ma0 ca) (d + 1) p0 v.toInt)) (pc_B D (va_A ([wdP cs h r g tf ta pf na ma wa cf ca ef ea xf xa] : List va_W).flatten s.heap.size)) (va_A ([wdP cs h r g tf ta pf na ma wa cf ca ef ea xf xa] : List va_W).flatten s.heap.size)) [.ref h, .int p0].toArray s 0 0 A) (F0 m 265 ls []) := by
    intro  n_265
    induction n_265 with
    | zero =>
      intro mid_265 x265_6 x265_7 H locs ls k265_0 k265_1 k265_2 k265_3 k265_4 k265_5 k265_6 k265_7 k265_8 hm hw hl
      have lx265_6 := Int32.le_toInt x265_6
      have ux265_6 := Int32.toInt_lt x265_6
      have lx265_7 := Int32.le_toInt x265_7
      have ux265_7 := Int32.toInt_lt x265_7
      have hrm := k265_5
      have hrw := k265_6
      have hgf := k265_7
      have hgs := k265_8
      exact absurd hm (by first | with_reducible rfl | with_reducible assumption | omega)
    | succ n_265 ih265 =>
      intro mid_265 x265_6 x265_7 H locs ls k265_0 k265_1 k265_2 k265_3 k265_4 k265_5 k265_6 k265_7 k265_8 hm hw hl
      have lx265_6 := Int32.le_toInt x265_6
      have ux265_6 := Int32.toInt_lt x265_6
      have lx265_7 := Int32.le_toInt x265_7
      have ux265_7 := Int32.toInt_lt x265_7
      have hrm := k265_5
      have hrw := k265_6
      have hgf := k265_7
      have hgs := k265_8
      refine lv_iload S.x S.b d_Mpg_height_265 (lv_at hl 3 rfl) ?_
      refine lv_if_lt (tgt := 308) S.x S.b d_Mpg_height_267 (by decide) (fun c73 => ?_) (fun c73 => ?_)
      · have nc73 : x265_7.toInt < (0 : Int) := (i_lt (x := x265_7) (y := 0)).mp c73
        refine lv_iload S.x S.b d_Mpg_height_308 (lv_at hl 2 rfl) ?_
        exact px_iret (v := x265_6) S hr rfl hlk hAe hw (Nat.le_of_ble_eq_true rfl) (Nat.le_of_ble_eq_true rfl) (⟨rfl, (show 1 ≤ x265_6.toInt from by first | exact k265_0 | omega), (show x265_6.toInt ≤ 2 * (hi - lo) from by first | exact k265_1 | omega), (show HgB na ma0 ma (tkl na ma0 ca) (d + 1) p0 x265_6.toInt from (hgs.elim fun m9 g9 => ⟨by first | with_reducible rfl | with_reducible assumption | omega, Or.inr (Or.inr (Or.inr (Or.inr (Or.inl (⟨by first | with_reducible rfl | with_reducible assumption | omega, hgf, m9, g9.row (by first | with_reducible rfl | with_reducible assumption | omega)⟩)))))⟩))⟩) d_Mpg_height_310
      · have nc73 : ¬ x265_7.toInt < (0 : Int) := mt (i_lt (x := x265_7) (y := 0)).mpr c73
        refine lv_iconst (v := 1) S.x S.b d_Mpg_height_270 (by decide) ?_
        obtain ⟨md74, hm1_md74, hm2_md74, ⟨hec_x265_7, hne_md74, hmk_md74⟩, hx3_md74, hrm2⟩ := RcE.step hrm (by first | with_reducible rfl | with_reducible assumption | omega); obtain ⟨hvn_x265_7, hrw2⟩ := RwV0.go hrw (by first | with_reducible rfl | with_reducible assumption | omega) rfl
        refine lv_aload_n S.x S.b d_Mpg_height_271 rfl (lv_at hl 0 rfl) ?_
        refine lv_iload S.x S.b d_Mpg_height_272 (lv_at hl 3 rfl) ?_
        refine px_calli (pr := []) (px_runV (As := [.int x265_7]) (rest := [.int 1]) S (hLH ma0 ys ns nf mid_265 md74 V vl vh h r g tf ta pf na ma wa cf ca ef ea xf xa x265_7 (show 0 ≤ mid_265 from by first | exact oz_0a7da9c4d6 k265_2 g0 | omega) (show md74 ≤ (pf 13).toInt from by first | exact oz_bbb5b20c1a g1 hm2_md74 | omega) (show (pf 13).toInt ≤ 2100 from by first | exact g2 | omega) (show (tf 6).toInt ≤ 2049 from by first | exact g3 | omega) (show (cf 38).toInt = nf from by first | exact g4 | omega) (show 0 ≤ nf from by first | exact g5 | omega) htk (FnT.eq hft (by first | with_reducible rfl | with_reducible assumption | omega)) hfp han hts hec_x265_7 hvn_x265_7 _) hT (pr := []) (pcs := [wdP cs h r g tf ta pf na ma wa cf ca ef ea xf xa]) hw (oX_call (P := (fun A U H => (oP A g U H))) (pr := []) oG_P hw hA hP) (px_recv hT hw 0 0 rfl rfl rfl) m13_65 m13_62 m13_64 ms_13_13 m1_21 q_Mpg_height ⟨show (2 * d + 8) + 1 ≤ (2 * (d + 1) + 8) from by first | with_reducible rfl | with_reducible assumption | omega, show 8 + (12 + 11) + (100 * d + 260) ≤ (100 * (d + 1) + 260) from by first | with_reducible rfl | with_reducible assumption | omega⟩ hl.1 rfl (Nat.le_of_ble_eq_true rfl) d_Mpg_height_274 ⟨Nat.le_of_ble_eq_true rfl, Nat.le_of_ble_eq_true rfl⟩) hw hA (fun v76 p75 H locs hp75 hw => ?_)
        obtain ⟨rfl, e77, e78, e79⟩ := hp75
        replace e77 : 1 ≤ v76.toInt := e77
        replace e78 : v76.toInt ≤ 2 * (md74 - mid_265) := e78
        replace e79 : HgB na ma0 ma (tkl na ma0 ca) d x265_7 v76.toInt := e79
        replace hw : pw D A s.heap H locs [wdP cs h r g tf ta pf na ma wa cf ca ef ea xf xa] := hw
        have lv76 := Int32.le_toInt v76
        have uv76 := Int32.toInt_lt v76
        refine lv_iadd S.x S.b d_Mpg_height_277 ?_
        refine lv_topi (fun z80 ez80 => ?_)
        have tz80 : z80.toInt = ((1 : Int) + v76.toInt + 2147483648) % 4294967296 - 2147483648 := by rw [ez80]; exact i_add 1 v76
        have lz80 := Int32.le_toInt z80
        have uz80 := Int32.toInt_lt z80
        try replace tz80 : z80.toInt = (1 : Int) + v76.toInt := by omega
        refine lv_istore (lv' := [(8, .int z80), (0, .ref h), (1, .int p0), (6, .int x265_6), (7, .int x265_7)]) S.x S.b d_Mpg_height_278 hl (by decide) rfl (fun ls hl => ?_)
        refine lv_iload S.x S.b d_Mpg_height_280 (lv_at hl 0 rfl) ?_
        refine lv_iload S.x S.b d_Mpg_height_282 (lv_at hl 3 rfl) ?_
        refine lv_icmp_le (tgt := 292) S.x S.b d_Mpg_height_284 (by decide) (fun c81 => ?_) (fun c81 => ?_)
        · have nc81 : z80.toInt ≤ x265_6.toInt := (i_le (x := z80) (y := x265_6)).mp c81
          refine lv_iload S.x S.b d_Mpg_height_292 (lv_at hl 3 rfl) ?_
          refine lv_istore (lv' := [(6, .int x265_6), (8, .int z80), (0, .ref h), (1, .int p0), (7, .int x265_7)]) S.x S.b d_Mpg_height_294 hl (by decide) rfl (fun ls hl => ?_)
          refine lv_aload_n S.x S.b d_Mpg_height_296 rfl (lv_at hl 2 rfl) ?_
          refine px_get S k_Mpg hT hw 0 0 21 (v := .ref (r 21)) rfl rfl rfl (by decide) m10_7 d_Mpg_height_297 ?_
          refine lv_iload S.x S.b d_Mpg_height_300 (lv_at hl 4 rfl) ?_
          refine px_iald S hT hw 0 17 (n := 2100) (f := (na 21)) rfl gp_21 (x := x265_7) (vp_in_iff.mpr (by constructor <;> omega)) d_Mpg_height_302 ?_
          refine lv_topi (fun z82 ez82 => ?_)
          have lz82 := Int32.le_toInt z82
          have uz82 := Int32.toInt_lt z82
          refine lv_istore (lv' := [(7, .int z82), (6, .int x265_6), (8, .int z80), (0, .ref h), (1, .int p0)]) S.x S.b d_Mpg_height_303 hl (by decide) rfl (fun ls hl => ?_)
          refine lv_goto (tgt := 265) S.x S.b d_Mpg_height_305 (by decide) ?_
          exact ih265 md74 x265_6 z82 _ _ ls (show 1 ≤ x265_6.toInt from by first | exact k265_0 | omega) (show x265_6.toInt ≤ 2 * (hi - lo) from by first | exact k265_1 | omega) (show lo < md74 from by first | exact oz_3f400c68fe k265_2 e78 e77 | omega) (show md74 ≤ hi from by first | exact hm2_md74 | omega) (show (na 14 p0.toNatClampNeg).toInt = 7 from by first | exact k265_4 | omega) (show RcM ta (tf 6).toInt na ma0 d p0 md74 hi z82 from (by rw [ez82]; exact hrm2)) (show RwV0 na V 0 z82 from (by rw [ez82]; exact hrw2)) (show HgB na ma0 ma (tkl na ma0 ca) d (na 17 p0.toNatClampNeg) x265_6.toInt from (HgB.mono hgf (by first | with_reducible rfl | with_reducible assumption | omega))) (show HgS na ma0 ma ca d (na 21 (na 17 p0.toNatClampNeg).toNatClampNeg) z82 x265_6.toInt from (HgS.nx hgs (by first | with_reducible rfl | with_reducible assumption | omega) e79 (by first | with_reducible rfl | with_reducible assumption | omega) ez82)) (show hi - md74 < (n_265 : Int) from by first | exact oz_9009d237ba hm e78 e77 | omega) hw (lv_sub hl [3, 4, 1, 0] rfl)
        · have nc81 : ¬ z80.toInt ≤ x265_6.toInt := mt (i_le (x := z80) (y := x265_6)).mpr c81
          refine lv_iload S.x S.b d_Mpg_height_287 (lv_at hl 0 rfl) ?_
          refine lv_goto (tgt := 294) S.x S.b d_Mpg_height_289 (by decide) ?_
          refine lv_istore (lv' := [(6, .int z80), (8, .int z80), (0, .ref h), (1, .int p0), (7, .int x265_7)]) S.x S.b d_Mpg_height_294 hl (by decide) rfl (fun ls hl => ?_)
          refine lv_aload_n S.x S.b d_Mpg_height_296 rfl (lv_at hl 2 rfl) ?_
          refine px_get S k_Mpg hT hw 0 0 21 (v := .ref (r 21)) rfl rfl rfl (by decide) m10_7 d_Mpg_height_297 ?_
          refine lv_iload S.x S.b d_Mpg_height_300 (lv_at hl 4 rfl) ?_
          refine px_iald S hT hw 0 17 (n := 2100) (f := (na 21)) rfl gp_21 (x := x265_7) (vp_in_iff.mpr (by constructor <;> omega)) d_Mpg_height_302 ?_
          refine lv_topi (fun z83 ez83 => ?_)
          have lz83 := Int32.le_toInt z83
          have uz83 := Int32.toInt_lt z83
          refine lv_istore (lv' := [(7, .int z83), (6, .int z80), (8, .int z80), (0, .ref h), (1, .int p0)]) S.x S.b d_Mpg_height_303 hl (by decide) rfl (fun ls hl => ?_)
          refine lv_goto (tgt := 265) S.x S.b d_Mpg_height_305 (by decide) ?_
          exact ih265 md74 z80 z83 _ _ ls (show 1 ≤ z80.toInt from by first | exact oz_58d7b95763 nc81 k265_0 | omega) (show z80.toInt ≤ 2 * (hi - lo) from by first | exact oz_41a80e4c03 k265_2 hm2_md74 tz80 e78 | omega) (show lo < md74 from by first | exact oz_3f400c68fe k265_2 e78 e77 | omega) (show md74 ≤ hi from by first | exact hm2_md74 | omega) (show (na 14 p0.toNatClampNeg).toInt = 7 from by first | exact k265_4 | omega) (show RcM ta (tf 6).toInt na ma0 d p0 md74 hi z83 from (by rw [ez83]; exact hrm2)) (show RwV0 na V 0 z83 from (by rw [ez83]; exact hrw2)) (show HgB na ma0 ma (tkl na ma0 ca) d (na 17 p0.toNatClampNeg) z80.toInt from (HgB.mono hgf (by first | with_reducible rfl | with_reducible assumption | omega))) (show HgS na ma0 ma ca d (na 21 (na 17 p0.toNatClampNeg).toNatClampNeg) z83 z80.toInt from (HgS.nx hgs (by first | with_reducible rfl | with_reducible assumption | omega) e79 (by first | with_reducible rfl | with_reducible assumption | omega) ez83)) (show hi - md74 < (n_265 : Int) from by first | exact oz_9009d237ba hm e78 e77 | omega) hw (lv_sub hl [3, 4, 1, 0] rfl)
  refine lv_aload_n S.x S.b d_Mpg_height_0 rfl (lv_at hl 0 rfl) ?_
  refine px_get S k_Mpg hT hw 0 0 14 (v := .ref (r 14)) rfl rfl rfl (by decide) m9_238 d_Mpg_height_1 ?_
  refine lv_iload_n S.x S.b d_Mpg_height_4 rfl (lv_at hl 1 rfl) ?_
  refine px_bald S hT hw 0 10 (n := 2100) (f := (na 14)) rfl gp_14 (x := p0) (vp_in_iff.mpr (by first | exact oz_a7e05de1cd hrg.2.2 hrg.2.1 g1 g2 | (constructor <;> omega))) d_Mpg_height_5 ?_
  refine lv_topi (fun z84 ez84 => ?_)
  have lz84 := Int32.le_toInt z84
  have uz84 := Int32.toInt_lt z84
  have rz84 := EcV.kd hec_p0 ez84
  refine px_tableD S (dt := 445) [(56, [1, 2]), (58, [3]), (229, [4]), (445, [5, 6]), (240, [7]), (311, [8]), (378, [9])] d_Mpg_height_6 (by decide +kernel) (by decide) (by decide +kernel) ?_ ?_
  · intro hdf_6
    refine lv_aload_n S.x S.b d_Mpg_height_445 rfl (lv_at hl 0 rfl) ?_
    refine lv_aload_n S.x S.b d_Mpg_height_446 rfl (lv_at hl 0 rfl) ?_
    refine px_get S k_Mpg hT hw 0 0 17 (v := .ref (r 17)) rfl rfl rfl (by decide) m10_1 d_Mpg_height_447 ?_
    refine lv_iload_n S.x S.b d_Mpg_height_450 rfl (lv_at hl 1 rfl) ?_
    refine px_iald S hT hw 0 13 (n := 2100) (f := (na 17)) rfl gp_17 (x := p0) (vp_in_iff.mpr (by first | exact oz_a7e05de1cd hrg.2.2 hrg.2.1 g1 g2 | (constructor <;> omega))) d_Mpg_height_451 ?_
    refine lv_topi (fun z85 ez85 => ?_)
    have lz85 := Int32.le_toInt z85
    have uz85 := Int32.toInt_lt z85
    have hec_z85 := EcV.k56 hec_p0 (by first | with_reducible rfl | with_reducible assumption | omega) ez85; have hrg_z85 := EcV.rng hec_z85
    have hvn_z85 : V z85.toNatClampNeg 0 := (by rw [ez85]; exact (LcE.k46 hlc (by first | with_reducible rfl | with_reducible assumption | omega)))
    refine px_calli (pr := []) (px_runV (As := [.int z85]) (rest := []) S (hLH ma0 ys ns nf lo p0.toInt V vl vh h r g tf ta pf na ma wa cf ca ef ea xf xa z85 (show 0 ≤ lo from by first | exact g0 | omega) (show p0.toInt ≤ (pf 13).toInt from by first | exact oz_6996e0781a g1 hrg.2.1 | omega) (show (pf 13).toInt ≤ 2100 from by first | exact g2 | omega) (show (tf 6).toInt ≤ 2049 from by first | exact g3 | omega) (show (cf 38).toInt = nf from by first | exact g4 | omega) (show 0 ≤ nf from by first | exact g5 | omega) htk (FnT.eq hft (by first | with_reducible rfl | with_reducible assumption | omega)) hfp han hts hec_z85 hvn_z85 _) hT (pr := []) (pcs := [wdP cs h r g tf ta pf na ma wa cf ca ef ea xf xa]) hw (oX_call (P := (fun A U H => (oP A g U H))) (pr := []) oG_P hw hA hP) (px_recv hT hw 0 0 rfl rfl rfl) m13_65 m13_62 m13_64 ms_13_13 m1_21 q_Mpg_height ⟨show (2 * d + 8) + 1 ≤ (2 * (d + 1) + 8) from by first | with_reducible rfl | with_reducible assumption | omega, show 8 + (12 + 11) + (100 * d + 260) ≤ (100 * (d + 1) + 260) from by first | with_reducible rfl | with_reducible assumption | omega⟩ hl.1 rfl (Nat.le_of_ble_eq_true rfl) d_Mpg_height_452 ⟨Nat.le_of_ble_eq_true rfl, Nat.le_of_ble_eq_true rfl⟩) hw hA (fun v87 p86 H locs hp86 hw => ?_)
    obtain ⟨rfl, e88, e89, e90⟩ := hp86
    replace e88 : 1 ≤ v87.toInt := e88
    replace e89 : v87.toInt ≤ 2 * (p0.toInt - lo) := e89
    replace e90 : HgB na ma0 ma (tkl na ma0 ca) d z85 v87.toInt := e90
    replace hw : pw D A s.heap H locs [wdP cs h r g tf ta pf na ma wa cf ca ef ea xf xa] := hw
    have lv87 := Int32.le_toInt v87
    have uv87 := Int32.toInt_lt v87
    exact px_iret (v := v87) S hr rfl hlk hAe hw (Nat.le_of_ble_eq_true rfl) (Nat.le_of_ble_eq_true rfl) (⟨rfl, (show 1 ≤ v87.toInt from by first | exact e88 | omega), (show v87.toInt ≤ 2 * (hi - lo) from by first | exact oz_b6e6ff28b8 hrg.2.1 e89 | omega), (show HgB na ma0 ma (tkl na ma0 ca) (d + 1) p0 v87.toInt from ⟨by first | with_reducible rfl | with_reducible assumption | omega, Or.inr (Or.inr (Or.inr (Or.inl (⟨by first | with_reducible rfl | with_reducible assumption | omega, by first | with_reducible rfl | with_reducible assumption | omega, by rw [← ez85]; exact (HgB.mono e90 (by first | with_reducible rfl | with_reducible assumption | omega))⟩))))⟩)⟩) d_Mpg_height_455
  · refine List.forall_mem_cons.mpr ⟨fun c91 => ?_, List.forall_mem_cons.mpr ⟨fun c91 => ?_, List.forall_mem_cons.mpr ⟨fun c91 => ?_, List.forall_mem_cons.mpr ⟨fun c91 => ?_, List.forall_mem_cons.mpr ⟨fun c91 => ?_, List.forall_mem_cons.mpr ⟨fun c91 => ?_, List.forall_mem_cons.mpr ⟨fun c91 => ?_, fun _ h => absurd h List.not_mem_nil⟩⟩⟩⟩⟩⟩⟩
    · simp only [List.mem_cons, List.not_mem_nil, or_false] at c91
      refine lv_iconst (v := 1) S.x S.b d_Mpg_height_56 (by decide) ?_
      exact px_iret (v := 1) S hr rfl hlk hAe hw (Nat.le_of_ble_eq_true rfl) (Nat.le_of_ble_eq_true rfl) (⟨rfl, (show 1 ≤ (1 : Int) from by first | decide | omega), (show (1 : Int) ≤ 2 * (hi - lo) from by first | exact oz_379898b557 hrg.1 hrg.2.1 | omega), (show HgB na ma0 ma (tkl na ma0 ca) (d + 1) p0 (1 : Int) from ⟨by first | with_reducible rfl | with_reducible assumption | omega, (show (na 14 p0.toNatClampNeg).toInt = 1 ∨ (na 14 p0.toNatClampNeg).toInt = 2 by omega).elim (fun r9 => Or.inl r9) (fun r9 => Or.inr (Or.inl r9))⟩)⟩) d_Mpg_height_57
    · simp only [List.mem_cons, List.not_mem_nil, or_false] at c91
      refine lv_iconst (v := 1) S.x S.b d_Mpg_height_58 (by decide) ?_
      refine lv_istore_n (lv' := [(2, .int 1), (0, .ref h), (1, .int p0)]) S.x S.b d_Mpg_height_59 rfl hl (by decide) rfl (fun ls hl => ?_)
      refine lv_iconst (v := 0) S.x S.b d_Mpg_height_60 (by decide) ?_
      refine lv_istore_n (lv' := [(3, .int 0), (2, .int 1), (0, .ref h), (1, .int p0)]) S.x S.b d_Mpg_height_61 rfl hl (by decide) rfl (fun ls hl => ?_)
      refine lv_aload_n S.x S.b d_Mpg_height_62 rfl (lv_at hl 2 rfl) ?_
      refine px_get S k_Mpg hT hw 0 0 18 (v := .ref (r 18)) rfl rfl rfl (by decide) m10_3 d_Mpg_height_63 ?_
      refine lv_iload_n S.x S.b d_Mpg_height_66 rfl (lv_at hl 3 rfl) ?_
      refine px_iald S hT hw 0 14 (n := 2100) (f := (ma 18)) rfl gp_18 (x := p0) (vp_in_iff.mpr (by first | exact oz_a7e05de1cd hrg.2.2 hrg.2.1 g1 g2 | (constructor <;> omega))) d_Mpg_height_67 ?_
      refine lv_topi (fun z92 ez92 => ?_)
      have lz92 := Int32.le_toInt z92
      have uz92 := Int32.toInt_lt z92
      have rz92 : z92.toInt = (ma 18 p0.toNatClampNeg).toInt := by rw [ez92]
      refine lv_bipush (v := 100) S.x S.b d_Mpg_height_68 (by decide) ?_
      refine lv_icmp_ge (tgt := 77) S.x S.b d_Mpg_height_70 (by decide) (fun c93 => ?_) (fun c93 => ?_)
      · have nc93 : (100 : Int) ≤ z92.toInt := (i_le (x := 100) (y := z92)).mp c93
        refine lv_iconst (v := 0) S.x S.b d_Mpg_height_77 (by decide) ?_
        refine lv_istore (lv' := [(4, .int 0), (3, .int 0), (2, .int 1), (0, .ref h), (1, .int p0)]) S.x S.b d_Mpg_height_78 hl (by decide) rfl (fun ls hl => ?_)
        refine lv_iconst (v := 0) S.x S.b d_Mpg_height_80 (by decide) ?_
        refine lv_istore (lv' := [(5, .int 0), (4, .int 0), (3, .int 0), (2, .int 1), (0, .ref h), (1, .int p0)]) S.x S.b d_Mpg_height_81 hl (by decide) rfl (fun ls hl => ?_)
        refine lv_aload_n S.x S.b d_Mpg_height_83 rfl (lv_at hl 4 rfl) ?_
        refine px_get S k_Mpg hT hw 0 0 17 (v := .ref (r 17)) rfl rfl rfl (by decide) m10_1 d_Mpg_height_84 ?_
        refine lv_iload_n S.x S.b d_Mpg_height_87 rfl (lv_at hl 5 rfl) ?_
        refine px_iald S hT hw 0 13 (n := 2100) (f := (na 17)) rfl gp_17 (x := p0) (vp_in_iff.mpr (by first | exact oz_a7e05de1cd hrg.2.2 hrg.2.1 g1 g2 | (constructor <;> omega))) d_Mpg_height_88 ?_
        refine lv_topi (fun z94 ez94 => ?_)
        have lz94 := Int32.le_toInt z94
        have uz94 := Int32.toInt_lt z94
        have hrr := EcV.k3 hec_p0 (by first | with_reducible rfl | with_reducible assumption | omega) ez94; have hce2 : AgV na V (tkl na ma0 ca (ma 18 p0.toNatClampNeg).toInt) 0 (na 17 p0.toNatClampNeg) := (LcE.k3 hlc (by first | with_reducible rfl | with_reducible assumption | omega)).2
        refine lv_istore (lv' := [(6, .int z94), (5, .int 0), (4, .int 0), (3, .int 0), (2, .int 1), (0, .ref h), (1, .int p0)]) S.x S.b d_Mpg_height_89 hl (by decide) rfl (fun ls hl => ?_)
        exact J91 ((hi - (p0.toInt + 1)).toNat + 1) (p0.toInt + 1) (1 : Int32) (0 : Int32) (0 : Int32) (0 : Int32) z94 _ _ ls (show 1 ≤ (1 : Int) from by first | decide | omega) (show (1 : Int) ≤ 2 * (hi - lo) from by first | exact oz_379898b557 hrg.1 hrg.2.1 | omega) (show 0 ≤ (0 : Int) from by first | decide | omega) (show (0 : Int) ≤ 2 * (0 : Int) from by first | decide | omega) (show 0 ≤ (0 : Int) from by first | decide | omega) (show (0 : Int) ≤ 1 from by first | decide | omega) (show (0 : Int) = 1 → (ma 18 p0.toNatClampNeg).toInt < 100 from by first | with_reducible rfl | with_reducible assumption | omega) (show (0 : Int) = 0 → 100 ≤ (ma 18 p0.toNatClampNeg).toInt from by first | with_reducible rfl | with_reducible assumption | omega) (show 0 ≤ (0 : Int) from by first | decide | omega) (show (0 : Int) + p0.toInt + 1 ≤ (p0.toInt + 1) from by first | exact oz_5323360a91 | omega) (show p0.toInt + 1 ≤ (p0.toInt + 1) from by first | exact oz_a1bc7e1f12 | omega) (show (p0.toInt + 1) ≤ hi from by first | exact oz_8cd8185cc8 hrg.2.1 | omega) (show (na 14 p0.toNatClampNeg).toInt = 3 from by first | with_reducible rfl | with_reducible assumption | omega) (show RcR ta (tf 6).toInt na ma0 d (p0.toInt + 1) hi z94 from hrr) (show AgV na V (tkl na ma0 ca (ma 18 p0.toNatClampNeg).toInt) (0 : Int) z94 from (by rw [ez94]; exact hce2)) (show HaS na ma0 ma ca d (ma 18 p0.toNatClampNeg).toInt (na 17 p0.toNatClampNeg) (0 : Int) (0 : Int) z94 (1 : Int) from (by rw [ez94]; exact has_0)) (show (0 : Int) ≤ (1 : Int) from by first | decide | omega) (show hi - (p0.toInt + 1) < ((((hi - (p0.toInt + 1)).toNat + 1 : Nat) : Int) : Int) from by first | exact oz_natlt | omega) hw (lv_sub hl [5, 6, 4, 3, 2, 1, 0] rfl)
      · have nc93 : ¬ (100 : Int) ≤ z92.toInt := mt (i_le (x := 100) (y := z92)).mpr c93
        refine lv_iconst (v := 1) S.x S.b d_Mpg_height_73 (by decide) ?_
        refine lv_goto (tgt := 78) S.x S.b d_Mpg_height_74 (by decide) ?_
        refine lv_istore (lv' := [(4, .int 1), (3, .int 0), (2, .int 1), (0, .ref h), (1, .int p0)]) S.x S.b d_Mpg_height_78 hl (by decide) rfl (fun ls hl => ?_)
        refine lv_iconst (v := 0) S.x S.b d_Mpg_height_80 (by decide) ?_
        refine lv_istore (lv' := [(5, .int 0), (4, .int 1), (3, .int 0), (2, .int 1), (0, .ref h), (1, .int p0)]) S.x S.b d_Mpg_height_81 hl (by decide) rfl (fun ls hl => ?_)
        refine lv_aload_n S.x S.b d_Mpg_height_83 rfl (lv_at hl 4 rfl) ?_
        refine px_get S k_Mpg hT hw 0 0 17 (v := .ref (r 17)) rfl rfl rfl (by decide) m10_1 d_Mpg_height_84 ?_
        refine lv_iload_n S.x S.b d_Mpg_height_87 rfl (lv_at hl 5 rfl) ?_
        refine px_iald S hT hw 0 13 (n := 2100) (f := (na 17)) rfl gp_17 (x := p0) (vp_in_iff.mpr (by first | exact oz_a7e05de1cd hrg.2.2 hrg.2.1 g1 g2 | (constructor <;> omega))) d_Mpg_height_88 ?_
        refine lv_topi (fun z95 ez95 => ?_)
        have lz95 := Int32.le_toInt z95
        have uz95 := Int32.toInt_lt z95
        have hrr := EcV.k3 hec_p0 (by first | with_reducible rfl | with_reducible assumption | omega) ez95; have hce2 : AgV na V (tkl na ma0 ca (ma 18 p0.toNatClampNeg).toInt) 0 (na 17 p0.toNatClampNeg) := (LcE.k3 hlc (by first | with_reducible rfl | with_reducible assumption | omega)).2
        refine lv_istore (lv' := [(6, .int z95), (5, .int 0), (4, .int 1), (3, .int 0), (2, .int 1), (0, .ref h), (1, .int p0)]) S.x S.b d_Mpg_height_89 hl (by decide) rfl (fun ls hl => ?_)
        exact J91 ((hi - (p0.toInt + 1)).toNat + 1) (p0.toInt + 1) (1 : Int32) (0 : Int32) (1 : Int32) (0 : Int32) z95 _ _ ls (show 1 ≤ (1 : Int) from by first | decide | omega) (show (1 : Int) ≤ 2 * (hi - lo) from by first | exact oz_379898b557 hrg.1 hrg.2.1 | omega) (show 0 ≤ (0 : Int) from by first | decide | omega) (show (0 : Int) ≤ 2 * (0 : Int) from by first | decide | omega) (show 0 ≤ (1 : Int) from by first | decide | omega) (show (1 : Int) ≤ 1 from by first | decide | omega) (show (1 : Int) = 1 → (ma 18 p0.toNatClampNeg).toInt < 100 from by first | with_reducible rfl | with_reducible assumption | omega) (show (1 : Int) = 0 → 100 ≤ (ma 18 p0.toNatClampNeg).toInt from by first | with_reducible rfl | with_reducible assumption | omega) (show 0 ≤ (0 : Int) from by first | decide | omega) (show (0 : Int) + p0.toInt + 1 ≤ (p0.toInt + 1) from by first | exact oz_5323360a91 | omega) (show p0.toInt + 1 ≤ (p0.toInt + 1) from by first | exact oz_a1bc7e1f12 | omega) (show (p0.toInt + 1) ≤ hi from by first | exact oz_8cd8185cc8 hrg.2.1 | omega) (show (na 14 p0.toNatClampNeg).toInt = 3 from by first | with_reducible rfl | with_reducible assumption | omega) (show RcR ta (tf 6).toInt na ma0 d (p0.toInt + 1) hi z95 from hrr) (show AgV na V (tkl na ma0 ca (ma 18 p0.toNatClampNeg).toInt) (0 : Int) z95 from (by rw [ez95]; exact hce2)) (show HaS na ma0 ma ca d (ma 18 p0.toNatClampNeg).toInt (na 17 p0.toNatClampNeg) (0 : Int) (0 : Int) z95 (1 : Int) from (by rw [ez95]; exact has_0)) (show (0 : Int) ≤ (1 : Int) from by first | decide | omega) (show hi - (p0.toInt + 1) < ((((hi - (p0.toInt + 1)).toNat + 1 : Nat) : Int) : Int) from by first | exact oz_natlt | omega) hw (lv_sub hl [5, 6, 4, 3, 2, 1, 0] rfl)
    · simp only [List.mem_cons, List.not_mem_nil, or_false] at c91
      refine lv_aload_n S.x S.b d_Mpg_height_229 rfl (lv_at hl 0 rfl) ?_
      refine lv_aload_n S.x S.b d_Mpg_height_230 rfl (lv_at hl 0 rfl) ?_
      refine px_get S k_Mpg hT hw 0 0 17 (v := .ref (r 17)) rfl rfl rfl (by decide) m10_1 d_Mpg_height_231 ?_
      refine lv_iload_n S.x S.b d_Mpg_height_234 rfl (lv_at hl 1 rfl) ?_
      refine px_iald S hT hw 0 13 (n := 2100) (f := (na 17)) rfl gp_17 (x := p0) (vp_in_iff.mpr (by first | exact oz_a7e05de1cd hrg.2.2 hrg.2.1 g1 g2 | (constructor <;> omega))) d_Mpg_height_235 ?_
      refine lv_topi (fun z96 ez96 => ?_)
      have lz96 := Int32.le_toInt z96
      have uz96 := Int32.toInt_lt z96
      have hec_z96 := EcV.k4 hec_p0 (by first | with_reducible rfl | with_reducible assumption | omega) ez96; have hrg_z96 := EcV.rng hec_z96
      have hvn_z96 : V z96.toNatClampNeg 0 := (by rw [ez96]; exact (LcE.k46 hlc (by first | with_reducible rfl | with_reducible assumption | omega)))
      refine px_calli (pr := []) (px_runV (As := [.int z96]) (rest := []) S (hLH ma0 ys ns nf (p0.toInt + 1) hi V vl vh h r g tf ta pf na ma wa cf ca ef ea xf xa z96 (show 0 ≤ (p0.toInt + 1) from by first | exact oz_c12c169b81 hrg.2.2 | omega) (show hi ≤ (pf 13).toInt from by first | exact g1 | omega) (show (pf 13).toInt ≤ 2100 from by first | exact g2 | omega) (show (tf 6).toInt ≤ 2049 from by first | exact g3 | omega) (show (cf 38).toInt = nf from by first | exact g4 | omega) (show 0 ≤ nf from by first | exact g5 | omega) htk (FnT.eq hft (by first | with_reducible rfl | with_reducible assumption | omega)) hfp han hts hec_z96 hvn_z96 _) hT (pr := []) (pcs := [wdP cs h r g tf ta pf na ma wa cf ca ef ea xf xa]) hw (oX_call (P := (fun A U H => (oP A g U H))) (pr := []) oG_P hw hA hP) (px_recv hT hw 0 0 rfl rfl rfl) m13_65 m13_62 m13_64 ms_13_13 m1_21 q_Mpg_height ⟨show (2 * d + 8) + 1 ≤ (2 * (d + 1) + 8) from by first | with_reducible rfl | with_reducible assumption | omega, show 8 + (12 + 11) + (100 * d + 260) ≤ (100 * (d + 1) + 260) from by first | with_reducible rfl | with_reducible assumption | omega⟩ hl.1 rfl (Nat.le_of_ble_eq_true rfl) d_Mpg_height_236 ⟨Nat.le_of_ble_eq_true rfl, Nat.le_of_ble_eq_true rfl⟩) hw hA (fun v98 p97 H locs hp97 hw => ?_)
      obtain ⟨rfl, e99, e100, e101⟩ := hp97
      replace e99 : 1 ≤ v98.toInt := e99
      replace e100 : v98.toInt ≤ 2 * (hi - (p0.toInt + 1)) := e100
      replace e101 : HgB na ma0 ma (tkl na ma0 ca) d z96 v98.toInt := e101
      replace hw : pw D A s.heap H locs [wdP cs h r g tf ta pf na ma wa cf ca ef ea xf xa] := hw
      have lv98 := Int32.le_toInt v98
      have uv98 := Int32.toInt_lt v98
      exact px_iret (v := v98) S hr rfl hlk hAe hw (Nat.le_of_ble_eq_true rfl) (Nat.le_of_ble_eq_true rfl) (⟨rfl, (show 1 ≤ v98.toInt from by first | exact e99 | omega), (show v98.toInt ≤ 2 * (hi - lo) from by first | exact oz_e5c01f361a hrg.1 e100 | omega), (show HgB na ma0 ma (tkl na ma0 ca) (d + 1) p0 v98.toInt from ⟨by first | with_reducible rfl | with_reducible assumption | omega, Or.inr (Or.inr (Or.inr (Or.inl (⟨by first | with_reducible rfl | with_reducible assumption | omega, by first | with_reducible rfl | with_reducible assumption | omega, by rw [← ez96]; exact (HgB.mono e101 (by first | with_reducible rfl | with_reducible assumption | omega))⟩))))⟩)⟩) d_Mpg_height_239
    · simp only [List.mem_cons, List.not_mem_nil, or_false] at c91
      refine lv_aload_n S.x S.b d_Mpg_height_445 rfl (lv_at hl 0 rfl) ?_
      refine lv_aload_n S.x S.b d_Mpg_height_446 rfl (lv_at hl 0 rfl) ?_
      refine px_get S k_Mpg hT hw 0 0 17 (v := .ref (r 17)) rfl rfl rfl (by decide) m10_1 d_Mpg_height_447 ?_
      refine lv_iload_n S.x S.b d_Mpg_height_450 rfl (lv_at hl 1 rfl) ?_
      refine px_iald S hT hw 0 13 (n := 2100) (f := (na 17)) rfl gp_17 (x := p0) (vp_in_iff.mpr (by first | exact oz_a7e05de1cd hrg.2.2 hrg.2.1 g1 g2 | (constructor <;> omega))) d_Mpg_height_451 ?_
      refine lv_topi (fun z102 ez102 => ?_)
      have lz102 := Int32.le_toInt z102
      have uz102 := Int32.toInt_lt z102
      have hec_z102 := EcV.k56 hec_p0 (by first | with_reducible rfl | with_reducible assumption | omega) ez102; have hrg_z102 := EcV.rng hec_z102
      have hvn_z102 : V z102.toNatClampNeg 0 := (by rw [ez102]; exact (LcE.k46 hlc (by first | with_reducible rfl | with_reducible assumption | omega)))
      refine px_calli (pr := []) (px_runV (As := [.int z102]) (rest := []) S (hLH ma0 ys ns nf lo p0.toInt V vl vh h r g tf ta pf na ma wa cf ca ef ea xf xa z102 (show 0 ≤ lo from by first | exact g0 | omega) (show p0.toInt ≤ (pf 13).toInt from by first | exact oz_6996e0781a g1 hrg.2.1 | omega) (show (pf 13).toInt ≤ 2100 from by first | exact g2 | omega) (show (tf 6).toInt ≤ 2049 from by first | exact g3 | omega) (show (cf 38).toInt = nf from by first | exact g4 | omega) (show 0 ≤ nf from by first | exact g5 | omega) htk (FnT.eq hft (by first | with_reducible rfl | with_reducible assumption | omega)) hfp han hts hec_z102 hvn_z102 _) hT (pr := []) (pcs := [wdP cs h r g tf ta pf na ma wa cf ca ef ea xf xa]) hw (oX_call (P := (fun A U H => (oP A g U H))) (pr := []) oG_P hw hA hP) (px_recv hT hw 0 0 rfl rfl rfl) m13_65 m13_62 m13_64 ms_13_13 m1_21 q_Mpg_height ⟨show (2 * d + 8) + 1 ≤ (2 * (d + 1) + 8) from by first | with_reducible rfl | with_reducible assumption | omega, show 8 + (12 + 11) + (100 * d + 260) ≤ (100 * (d + 1) + 260) from by first | with_reducible rfl | with_reducible assumption | omega⟩ hl.1 rfl (Nat.le_of_ble_eq_true rfl) d_Mpg_height_452 ⟨Nat.le_of_ble_eq_true rfl, Nat.le_of_ble_eq_true rfl⟩) hw hA (fun v104 p103 H locs hp103 hw => ?_)
      obtain ⟨rfl, e105, e106, e107⟩ := hp103
      replace e105 : 1 ≤ v104.toInt := e105
      replace e106 : v104.toInt ≤ 2 * (p0.toInt - lo) := e106
      replace e107 : HgB na ma0 ma (tkl na ma0 ca) d z102 v104.toInt := e107
      replace hw : pw D A s.heap H locs [wdP cs h r g tf ta pf na ma wa cf ca ef ea xf xa] := hw
      have lv104 := Int32.le_toInt v104
      have uv104 := Int32.toInt_lt v104
      exact px_iret (v := v104) S hr rfl hlk hAe hw (Nat.le_of_ble_eq_true rfl) (Nat.le_of_ble_eq_true rfl) (⟨rfl, (show 1 ≤ v104.toInt from by first | exact e105 | omega), (show v104.toInt ≤ 2 * (hi - lo) from by first | exact oz_b6e6ff28b8 hrg.2.1 e106 | omega), (show HgB na ma0 ma (tkl na ma0 ca) (d + 1) p0 v104.toInt from ⟨by first | with_reducible rfl | with_reducible assumption | omega, Or.inr (Or.inr (Or.inr (Or.inl (⟨by first | with_reducible rfl | with_reducible assumption | omega, by first | with_reducible rfl | with_reducible assumption | omega, by rw [← ez102]; exact (HgB.mono e107 (by first | with_reducible rfl | with_reducible assumption | omega))⟩))))⟩)⟩) d_Mpg_height_455
    · simp only [List.mem_cons, List.not_mem_nil, or_false] at c91
      refine lv_aload_n S.x S.b d_Mpg_height_240 rfl (lv_at hl 0 rfl) ?_
      refine lv_aload_n S.x S.b d_Mpg_height_241 rfl (lv_at hl 0 rfl) ?_
      refine px_get S k_Mpg hT hw 0 0 17 (v := .ref (r 17)) rfl rfl rfl (by decide) m10_1 d_Mpg_height_242 ?_
      refine lv_iload_n S.x S.b d_Mpg_height_245 rfl (lv_at hl 1 rfl) ?_
      refine px_iald S hT hw 0 13 (n := 2100) (f := (na 17)) rfl gp_17 (x := p0) (vp_in_iff.mpr (by first | exact oz_a7e05de1cd hrg.2.2 hrg.2.1 g1 g2 | (constructor <;> omega))) d_Mpg_height_246 ?_
      refine lv_topi (fun z108 ez108 => ?_)
      have lz108 := Int32.le_toInt z108
      have uz108 := Int32.toInt_lt z108
      obtain ⟨mc, hmc1, hmc2, hec_z108, hnc_z108, hrm⟩ := EcV.k7m hec_p0 (by first | with_reducible rfl | with_reducible assumption | omega) ez108; have hrg_z108 := EcV.rng hec_z108; have hrw : RwV0 na V 0 z108 := (by rw [ez108]; exact LcE.k7 hlc (by first | with_reducible rfl | with_reducible assumption | omega)); obtain ⟨hvn_z108, hrw2⟩ := RwV0.go hrw (by first | with_reducible rfl | with_reducible assumption | omega) rfl
      refine px_calli (pr := []) (px_runV (As := [.int z108]) (rest := []) S (hLH ma0 ys ns nf lo mc V vl vh h r g tf ta pf na ma wa cf ca ef ea xf xa z108 (show 0 ≤ lo from by first | exact g0 | omega) (show mc ≤ (pf 13).toInt from by first | exact oz_8d1dd37214 g1 hmc2 hrg.2.1 | omega) (show (pf 13).toInt ≤ 2100 from by first | exact g2 | omega) (show (tf 6).toInt ≤ 2049 from by first | exact g3 | omega) (show (cf 38).toInt = nf from by first | exact g4 | omega) (show 0 ≤ nf from by first | exact g5 | omega) htk (FnT.eq hft (by first | with_reducible rfl | with_reducible assumption | omega)) hfp han hts hec_z108 hvn_z108 _) hT (pr := []) (pcs := [wdP cs h r g tf ta pf na ma wa cf ca ef ea xf xa]) hw (oX_call (P := (fun A U H => (oP A g U H))) (pr := []) oG_P hw hA hP) (px_recv hT hw 0 0 rfl rfl rfl) m13_65 m13_62 m13_64 ms_13_13 m1_21 q_Mpg_height ⟨show (2 * d + 8) + 1 ≤ (2 * (d + 1) + 8) from by first | with_reducible rfl | with_reducible assumption | omega, show 8 + (12 + 11) + (100 * d + 260) ≤ (100 * (d + 1) + 260) from by first | with_reducible rfl | with_reducible assumption | omega⟩ hl.1 rfl (Nat.le_of_ble_eq_true rfl) d_Mpg_height_247 ⟨Nat.le_of_ble_eq_true rfl, Nat.le_of_ble_eq_true rfl⟩) hw hA (fun v110 p109 H locs hp109 hw => ?_)
      obtain ⟨rfl, e111, e112, e113⟩ := hp109
      replace e111 : 1 ≤ v110.toInt := e111
      replace e112 : v110.toInt ≤ 2 * (mc - lo) := e112
      replace e113 : HgB na ma0 ma (tkl na ma0 ca) d z108 v110.toInt := e113
      replace hw : pw D A s.heap H locs [wdP cs h r g tf ta pf na ma wa cf ca ef ea xf xa] := hw
      have lv110 := Int32.le_toInt v110
      have uv110 := Int32.toInt_lt v110
      refine lv_istore (lv' := [(6, .int v110), (0, .ref h), (1, .int p0)]) S.x S.b d_Mpg_height_250 hl (by decide) rfl (fun ls hl => ?_)
      refine lv_aload_n S.x S.b d_Mpg_height_252 rfl (lv_at hl 1 rfl) ?_
      refine px_get S k_Mpg hT hw 0 0 21 (v := .ref (r 21)) rfl rfl rfl (by decide) m10_7 d_Mpg_height_253 ?_
      refine lv_aload_n S.x S.b d_Mpg_height_256 rfl (lv_at hl 1 rfl) ?_
      refine px_get S k_Mpg hT hw 0 0 17 (v := .ref (r 17)) rfl rfl rfl (by decide) m10_1 d_Mpg_height_257 ?_
      refine lv_iload_n S.x S.b d_Mpg_height_260 rfl (lv_at hl 2 rfl) ?_
      refine px_iald S hT hw 0 13 (n := 2100) (f := (na 17)) rfl gp_17 (x := p0) (vp_in_iff.mpr (by first | exact oz_a7e05de1cd hrg.2.2 hrg.2.1 g1 g2 | (constructor <;> omega))) d_Mpg_height_261 ?_
      refine lv_topi (fun z114 ez114 => ?_)
      have lz114 := Int32.le_toInt z114
      have uz114 := Int32.toInt_lt z114
      have hsz114 : z108 = z114 := ez108.trans ez114.symm; subst hsz114
      refine px_iald S hT hw 0 17 (n := 2100) (f := (na 21)) rfl gp_21 (x := z108) (vp_in_iff.mpr (by first | exact oz_e7688a0eb5 hrg_z108.2.2 hrg_z108.2.1 hmc2 g1 hrg.2.1 g2 | (constructor <;> omega))) d_Mpg_height_262 ?_
      refine lv_topi (fun z115 ez115 => ?_)
      have lz115 := Int32.le_toInt z115
      have uz115 := Int32.toInt_lt z115
      refine lv_istore (lv' := [(7, .int z115), (6, .int v110), (0, .ref h), (1, .int p0)]) S.x S.b d_Mpg_height_263 hl (by decide) rfl (fun ls hl => ?_)
      exact J265 ((hi - mc).toNat + 1) mc v110 z115 _ _ ls (show 1 ≤ v110.toInt from by first | exact e111 | omega) (show v110.toInt ≤ 2 * (hi - lo) from by first | exact oz_70fae65cb7 hrg.2.1 e112 hmc2 | omega) (show lo < mc from by first | exact oz_5e4a203018 hrg_z108.1 hrg_z108.2.1 | omega) (show mc ≤ hi from by first | exact hmc1 | omega) (show (na 14 p0.toNatClampNeg).toInt = 7 from by first | with_reducible rfl | with_reducible assumption | omega) (show RcM ta (tf 6).toInt na ma0 d p0 mc hi z115 from (by rw [ez115]; exact hrm)) (show RwV0 na V 0 z115 from (by rw [ez115]; exact hrw2)) (show HgB na ma0 ma (tkl na ma0 ca) d (na 17 p0.toNatClampNeg) v110.toInt from (by rw [← ez108]; exact (HgB.mono e113 (by first | with_reducible rfl | with_reducible assumption | omega)))) (show HgS na ma0 ma ca d (na 21 (na 17 p0.toNatClampNeg).toNatClampNeg) z115 v110.toInt from ⟨0, by rw [ez115, ez108]; rfl⟩) (show hi - mc < ((((hi - mc).toNat + 1 : Nat) : Int) : Int) from by first | exact oz_natlt | omega) hw (lv_sub hl [2, 3, 1, 0] rfl)
    · simp only [List.mem_cons, List.not_mem_nil, or_false] at c91
      refine lv_aload_n S.x S.b d_Mpg_height_311 rfl (lv_at hl 0 rfl) ?_
      refine lv_aload_n S.x S.b d_Mpg_height_312 rfl (lv_at hl 0 rfl) ?_
      refine px_get S k_Mpg hT hw 0 0 17 (v := .ref (r 17)) rfl rfl rfl (by decide) m10_1 d_Mpg_height_313 ?_
      refine lv_iload_n S.x S.b d_Mpg_height_316 rfl (lv_at hl 1 rfl) ?_
      refine px_iald S hT hw 0 13 (n := 2100) (f := (na 17)) rfl gp_17 (x := p0) (vp_in_iff.mpr (by first | exact oz_a7e05de1cd hrg.2.2 hrg.2.1 g1 g2 | (constructor <;> omega))) d_Mpg_height_317 ?_
      refine lv_topi (fun z116 ez116 => ?_)
      have lz116 := Int32.le_toInt z116
      have uz116 := Int32.toInt_lt z116
      obtain ⟨m1, m2, hm1, hm2, hec_z116, hec_y8, hec_x8⟩ := EcV.k8 hec_p0 (by first | with_reducible rfl | with_reducible assumption | omega) ez116 rfl rfl; have hrg_z116 := EcV.rng hec_z116; have hrg_y8 := EcV.rng hec_y8; have hrg_x8 := EcV.rng hec_x8
      have hvn_z116 : V z116.toNatClampNeg 0 := (by rw [ez116]; exact (LcE.k8 hlc (by first | with_reducible rfl | with_reducible assumption | omega)).1)
      refine px_calli (pr := []) (px_runV (As := [.int z116]) (rest := []) S (hLH ma0 ys ns nf lo m1 V vl vh h r g tf ta pf na ma wa cf ca ef ea xf xa z116 (show 0 ≤ lo from by first | exact g0 | omega) (show m1 ≤ (pf 13).toInt from by first | exact oz_f3248735d7 g1 hrg_y8.1 hrg.2.1 hrg_y8.2.1 hrg_x8.1 hrg_x8.2.1 | omega) (show (pf 13).toInt ≤ 2100 from by first | exact g2 | omega) (show (tf 6).toInt ≤ 2049 from by first | exact g3 | omega) (show (cf 38).toInt = nf from by first | exact g4 | omega) (show 0 ≤ nf from by first | exact g5 | omega) htk (FnT.eq hft (by first | with_reducible rfl | with_reducible assumption | omega)) hfp han hts hec_z116 hvn_z116 _) hT (pr := []) (pcs := [wdP cs h r g tf ta pf na ma wa cf ca ef ea xf xa]) hw (oX_call (P := (fun A U H => (oP A g U H))) (pr := []) oG_P hw hA hP) (px_recv hT hw 0 0 rfl rfl rfl) m13_65 m13_62 m13_64 ms_13_13 m1_21 q_Mpg_height ⟨show (2 * d + 8) + 1 ≤ (2 * (d + 1) + 8) from by first | with_reducible rfl | with_reducible assumption | omega, show 8 + (12 + 11) + (100 * d + 260) ≤ (100 * (d + 1) + 260) from by first | with_reducible rfl | with_reducible assumption | omega⟩ hl.1 rfl (Nat.le_of_ble_eq_true rfl) d_Mpg_height_318 ⟨Nat.le_of_ble_eq_true rfl, Nat.le_of_ble_eq_true rfl⟩) hw hA (fun v118 p117 H locs hp117 hw => ?_)
      obtain ⟨rfl, e119, e120, e121⟩ := hp117
      replace e119 : 1 ≤ v118.toInt := e119
      replace e120 : v118.toInt ≤ 2 * (m1 - lo) := e120
      replace e121 : HgB na ma0 ma (tkl na ma0 ca) d z116 v118.toInt := e121
      replace hw : pw D A s.heap H locs [wdP cs h r g tf ta pf na ma wa cf ca ef ea xf xa] := hw
      have lv118 := Int32.le_toInt v118
      have uv118 := Int32.toInt_lt v118
      refine lv_istore (lv' := [(7, .int v118), (0, .ref h), (1, .int p0)]) S.x S.b d_Mpg_height_321 hl (by decide) rfl (fun ls hl => ?_)
      refine lv_aload_n S.x S.b d_Mpg_height_323 rfl (lv_at hl 1 rfl) ?_
      refine lv_aload_n S.x S.b d_Mpg_height_324 rfl (lv_at hl 1 rfl) ?_
      refine px_get S k_Mpg hT hw 0 0 18 (v := .ref (r 18)) rfl rfl rfl (by decide) m10_3 d_Mpg_height_325 ?_
      refine lv_iload_n S.x S.b d_Mpg_height_328 rfl (lv_at hl 2 rfl) ?_
      refine px_iald S hT hw 0 14 (n := 2100) (f := (ma 18)) rfl gp_18 (x := p0) (vp_in_iff.mpr (by first | exact oz_18f227bc52 hrg_x8.2.1 hrg_x8.2.2 hrg.2.1 g1 g2 | (constructor <;> omega))) d_Mpg_height_329 ?_
      refine lv_topi (fun z122 ez122 => ?_)
      have lz122 := Int32.le_toInt z122
      have uz122 := Int32.toInt_lt z122
      have rz122 : z122.toInt = (ma 18 p0.toNatClampNeg).toInt := by rw [ez122]
      have ha_z122 : z122 = ma0 18 p0.toNatClampNeg := ez122.trans (Ann.b18 han (by first | with_reducible rfl | with_reducible assumption | omega)); have hec_z122 : EcV ta (tf 6).toInt na ma0 d m1 m2 z122 := (by rw [ha_z122]; exact hec_y8)
      have hvn_z122 : V z122.toNatClampNeg 0 := (by rw [ez122]; exact (LcE.k8 hlc (by first | with_reducible rfl | with_reducible assumption | omega)).2.1)
      refine px_calli (pr := []) (px_runV (As := [.int z122]) (rest := []) S (hLH ma0 ys ns nf m1 m2 V vl vh h r g tf ta pf na ma wa cf ca ef ea xf xa z122 (show 0 ≤ m1 from by first | exact oz_0a7da9c4d6 hrg_z116.2.1 hrg_z116.2.2 | omega) (show m2 ≤ (pf 13).toInt from by first | exact oz_dc2da80b19 g1 hrg_x8.1 hrg.2.1 hrg_x8.2.1 | omega) (show (pf 13).toInt ≤ 2100 from by first | exact g2 | omega) (show (tf 6).toInt ≤ 2049 from by first | exact g3 | omega) (show (cf 38).toInt = nf from by first | exact g4 | omega) (show 0 ≤ nf from by first | exact g5 | omega) htk (FnT.eq hft (by first | with_reducible rfl | with_reducible assumption | omega)) hfp han hts hec_z122 hvn_z122 _) hT (pr := []) (pcs := [wdP cs h r g tf ta pf na ma wa cf ca ef ea xf xa]) hw (oX_call (P := (fun A U H => (oP A g U H))) (pr := []) oG_P hw hA hP) (px_recv hT hw 0 0 rfl rfl rfl) m13_65 m13_62 m13_64 ms_13_13 m1_21 q_Mpg_height ⟨show (2 * d + 8) + 1 ≤ (2 * (d + 1) + 8) from by first | with_reducible rfl | with_reducible assumption | omega, show 8 + (12 + 11) + (100 * d + 260) ≤ (100 * (d + 1) + 260) from by first | with_reducible rfl | with_reducible assumption | omega⟩ hl.1 rfl (Nat.le_of_ble_eq_true rfl) d_Mpg_height_330 ⟨Nat.le_of_ble_eq_true rfl, Nat.le_of_ble_eq_true rfl⟩) hw hA (fun v124 p123 H locs hp123 hw => ?_)
      obtain ⟨rfl, e125, e126, e127⟩ := hp123
      replace e125 : 1 ≤ v124.toInt := e125
      replace e126 : v124.toInt ≤ 2 * (m2 - m1) := e126
      replace e127 : HgB na ma0 ma (tkl na ma0 ca) d z122 v124.toInt := e127
      replace hw : pw D A s.heap H locs [wdP cs h r g tf ta pf na ma wa cf ca ef ea xf xa] := hw
      have lv124 := Int32.le_toInt v124
      have uv124 := Int32.toInt_lt v124
      refine lv_istore (lv' := [(8, .int v124), (7, .int v118), (0, .ref h), (1, .int p0)]) S.x S.b d_Mpg_height_333 hl (by decide) rfl (fun ls hl => ?_)
      refine lv_aload_n S.x S.b d_Mpg_height_335 rfl (lv_at hl 2 rfl) ?_
      refine lv_aload_n S.x S.b d_Mpg_height_336 rfl (lv_at hl 2 rfl) ?_
      refine px_get S k_Mpg hT hw 0 0 19 (v := .ref (r 19)) rfl rfl rfl (by decide) m10_5 d_Mpg_height_337 ?_
      refine lv_iload_n S.x S.b d_Mpg_height_340 rfl (lv_at hl 3 rfl) ?_
      refine px_iald S hT hw 0 15 (n := 2100) (f := (ma 19)) rfl gp_19 (x := p0) (vp_in_iff.mpr (by first | exact oz_18f227bc52 hrg_x8.2.1 hrg_x8.2.2 hrg.2.1 g1 g2 | (constructor <;> omega))) d_Mpg_height_341 ?_
      refine lv_topi (fun z128 ez128 => ?_)
      have lz128 := Int32.le_toInt z128
      have uz128 := Int32.toInt_lt z128
      have ha_z128 : z128 = ma0 19 p0.toNatClampNeg := ez128.trans (Ann.b19 han (by first | with_reducible rfl | with_reducible assumption | omega)); have hec_z128 : EcV ta (tf 6).toInt na ma0 d m2 p0.toInt z128 := (by rw [ha_z128]; exact hec_x8)
      have hvn_z128 : V z128.toNatClampNeg 0 := (by rw [ez128]; exact (LcE.k8 hlc (by first | with_reducible rfl | with_reducible assumption | omega)).2.2)
      refine px_calli (pr := []) (px_runV (As := [.int z128]) (rest := []) S (hLH ma0 ys ns nf m2 p0.toInt V vl vh h r g tf ta pf na ma wa cf ca ef ea xf xa z128 (show 0 ≤ m2 from by first | exact oz_0a7da9c4d6 hrg_y8.2.1 hrg_y8.2.2 | omega) (show p0.toInt ≤ (pf 13).toInt from by first | exact oz_6996e0781a g1 hrg.2.1 | omega) (show (pf 13).toInt ≤ 2100 from by first | exact g2 | omega) (show (tf 6).toInt ≤ 2049 from by first | exact g3 | omega) (show (cf 38).toInt = nf from by first | exact g4 | omega) (show 0 ≤ nf from by first | exact g5 | omega) htk (FnT.eq hft (by first | with_reducible rfl | with_reducible assumption | omega)) hfp han hts hec_z128 hvn_z128 _) hT (pr := []) (pcs := [wdP cs h r g tf ta pf na ma wa cf ca ef ea xf xa]) hw (oX_call (P := (fun A U H => (oP A g U H))) (pr := []) oG_P hw hA hP) (px_recv hT hw 0 0 rfl rfl rfl) m13_65 m13_62 m13_64 ms_13_13 m1_21 q_Mpg_height ⟨show (2 * d + 8) + 1 ≤ (2 * (d + 1) + 8) from by first | with_reducible rfl | with_reducible assumption | omega, show 8 + (12 + 11) + (100 * d + 260) ≤ (100 * (d + 1) + 260) from by first | with_reducible rfl | with_reducible assumption | omega⟩ hl.1 rfl (Nat.le_of_ble_eq_true rfl) d_Mpg_height_342 ⟨Nat.le_of_ble_eq_true rfl, Nat.le_of_ble_eq_true rfl⟩) hw hA (fun v130 p129 H locs hp129 hw => ?_)
      obtain ⟨rfl, e131, e132, e133⟩ := hp129
      replace e131 : 1 ≤ v130.toInt := e131
      replace e132 : v130.toInt ≤ 2 * (p0.toInt - m2) := e132
      replace e133 : HgB na ma0 ma (tkl na ma0 ca) d z128 v130.toInt := e133
      replace hw : pw D A s.heap H locs [wdP cs h r g tf ta pf na ma wa cf ca ef ea xf xa] := hw
      have lv130 := Int32.le_toInt v130
      have uv130 := Int32.toInt_lt v130
      refine lv_istore (lv' := [(9, .int v130), (8, .int v124), (7, .int v118), (0, .ref h), (1, .int p0)]) S.x S.b d_Mpg_height_345 hl (by decide) rfl (fun ls hl => ?_)
      refine lv_iload S.x S.b d_Mpg_height_347 (lv_at hl 1 rfl) ?_
      refine lv_iload S.x S.b d_Mpg_height_349 (lv_at hl 2 rfl) ?_
      refine lv_icmp_le (tgt := 359) S.x S.b d_Mpg_height_351 (by decide) (fun c134 => ?_) (fun c134 => ?_)
      · have nc134 : v124.toInt ≤ v118.toInt := (i_le (x := v124) (y := v118)).mp c134
        refine lv_iload S.x S.b d_Mpg_height_359 (lv_at hl 2 rfl) ?_
        refine lv_istore (lv' := [(7, .int v118), (9, .int v130), (8, .int v124), (0, .ref h), (1, .int p0)]) S.x S.b d_Mpg_height_361 hl (by decide) rfl (fun ls hl => ?_)
        refine lv_iload S.x S.b d_Mpg_height_363 (lv_at hl 1 rfl) ?_
        refine lv_iload S.x S.b d_Mpg_height_365 (lv_at hl 0 rfl) ?_
        refine lv_icmp_le (tgt := 375) S.x S.b d_Mpg_height_367 (by decide) (fun c135 => ?_) (fun c135 => ?_)
        · have nc135 : v130.toInt ≤ v118.toInt := (i_le (x := v130) (y := v118)).mp c135
          refine lv_iload S.x S.b d_Mpg_height_375 (lv_at hl 0 rfl) ?_
          exact px_iret (v := v118) S hr rfl hlk hAe hw (Nat.le_of_ble_eq_true rfl) (Nat.le_of_ble_eq_true rfl) (⟨rfl, (show 1 ≤ v118.toInt from by first | exact e119 | omega), (show v118.toInt ≤ 2 * (hi - lo) from by first | exact oz_fb2bb6e922 hrg.2.1 e120 e125 e126 e131 e132 | omega), (show HgB na ma0 ma (tkl na ma0 ca) (d + 1) p0 v118.toInt from ⟨by first | with_reducible rfl | with_reducible assumption | omega, Or.inr (Or.inr (Or.inr (Or.inr (Or.inr (Or.inl (⟨by first | with_reducible rfl | with_reducible assumption | omega, by rw [← ez116]; exact (HgB.mono e121 (by first | with_reducible rfl | with_reducible assumption | omega)), by rw [← ha_z122]; exact (HgB.mono e127 (by first | with_reducible rfl | with_reducible assumption | omega)), by rw [← ha_z128]; exact (HgB.mono e133 (by first | with_reducible rfl | with_reducible assumption | omega))⟩))))))⟩)⟩) d_Mpg_height_377
        · have nc135 : ¬ v130.toInt ≤ v118.toInt := mt (i_le (x := v130) (y := v118)).mpr c135
          refine lv_iload S.x S.b d_Mpg_height_370 (lv_at hl 1 rfl) ?_
          refine lv_goto (tgt := 377) S.x S.b d_Mpg_height_372 (by decide) ?_
          exact px_iret (v := v130) S hr rfl hlk hAe hw (Nat.le_of_ble_eq_true rfl) (Nat.le_of_ble_eq_true rfl) (⟨rfl, (show 1 ≤ v130.toInt from by first | exact e131 | omega), (show v130.toInt ≤ 2 * (hi - lo) from by first | exact oz_62956263f3 hrg.2.1 hrg_z116.1 e132 hrg_z116.2.1 hrg_y8.1 hrg_y8.2.1 | omega), (show HgB na ma0 ma (tkl na ma0 ca) (d + 1) p0 v130.toInt from ⟨by first | with_reducible rfl | with_reducible assumption | omega, Or.inr (Or.inr (Or.inr (Or.inr (Or.inr (Or.inl (⟨by first | with_reducible rfl | with_reducible assumption | omega, by rw [← ez116]; exact (HgB.mono e121 (by first | with_reducible rfl | with_reducible assumption | omega)), by rw [← ha_z122]; exact (HgB.mono e127 (by first | with_reducible rfl | with_reducible assumption | omega)), by rw [← ha_z128]; exact (HgB.mono e133 (by first | with_reducible rfl | with_reducible assumption | omega))⟩))))))⟩)⟩) d_Mpg_height_377
      · have nc134 : ¬ v124.toInt ≤ v118.toInt := mt (i_le (x := v124) (y := v118)).mpr c134
        refine lv_iload S.x S.b d_Mpg_height_354 (lv_at hl 1 rfl) ?_
        refine lv_goto (tgt := 361) S.x S.b d_Mpg_height_356 (by decide) ?_
        refine lv_istore (lv' := [(7, .int v124), (9, .int v130), (8, .int v124), (0, .ref h), (1, .int p0)]) S.x S.b d_Mpg_height_361 hl (by decide) rfl (fun ls hl => ?_)
        refine lv_iload S.x S.b d_Mpg_height_363 (lv_at hl 1 rfl) ?_
        refine lv_iload S.x S.b d_Mpg_height_365 (lv_at hl 0 rfl) ?_
        refine lv_icmp_le (tgt := 375) S.x S.b d_Mpg_height_367 (by decide) (fun c136 => ?_) (fun c136 => ?_)
        · have nc136 : v130.toInt ≤ v124.toInt := (i_le (x := v130) (y := v124)).mp c136
          refine lv_iload S.x S.b d_Mpg_height_375 (lv_at hl 0 rfl) ?_
          exact px_iret (v := v124) S hr rfl hlk hAe hw (Nat.le_of_ble_eq_true rfl) (Nat.le_of_ble_eq_true rfl) (⟨rfl, (show 1 ≤ v124.toInt from by first | exact e125 | omega), (show v124.toInt ≤ 2 * (hi - lo) from by first | exact oz_9f9208b9f4 hrg.2.1 hrg_z116.1 e126 hrg_z116.2.1 hrg_x8.1 hrg_x8.2.1 | omega), (show HgB na ma0 ma (tkl na ma0 ca) (d + 1) p0 v124.toInt from ⟨by first | with_reducible rfl | with_reducible assumption | omega, Or.inr (Or.inr (Or.inr (Or.inr (Or.inr (Or.inl (⟨by first | with_reducible rfl | with_reducible assumption | omega, by rw [← ez116]; exact (HgB.mono e121 (by first | with_reducible rfl | with_reducible assumption | omega)), by rw [← ha_z122]; exact (HgB.mono e127 (by first | with_reducible rfl | with_reducible assumption | omega)), by rw [← ha_z128]; exact (HgB.mono e133 (by first | with_reducible rfl | with_reducible assumption | omega))⟩))))))⟩)⟩) d_Mpg_height_377
        · have nc136 : ¬ v130.toInt ≤ v124.toInt := mt (i_le (x := v130) (y := v124)).mpr c136
          refine lv_iload S.x S.b d_Mpg_height_370 (lv_at hl 1 rfl) ?_
          refine lv_goto (tgt := 377) S.x S.b d_Mpg_height_372 (by decide) ?_
          exact px_iret (v := v130) S hr rfl hlk hAe hw (Nat.le_of_ble_eq_true rfl) (Nat.le_of_ble_eq_true rfl) (⟨rfl, (show 1 ≤ v130.toInt from by first | exact e131 | omega), (show v130.toInt ≤ 2 * (hi - lo) from by first | exact oz_62956263f3 hrg.2.1 hrg_z116.1 e132 hrg_z116.2.1 hrg_y8.1 hrg_y8.2.1 | omega), (show HgB na ma0 ma (tkl na ma0 ca) (d + 1) p0 v130.toInt from ⟨by first | with_reducible rfl | with_reducible assumption | omega, Or.inr (Or.inr (Or.inr (Or.inr (Or.inr (Or.inl (⟨by first | with_reducible rfl | with_reducible assumption | omega, by rw [← ez116]; exact (HgB.mono e121 (by first | with_reducible rfl | with_reducible assumption | omega)), by rw [← ha_z122]; exact (HgB.mono e127 (by first | with_reducible rfl | with_reducible assumption | omega)), by rw [← ha_z128]; exact (HgB.mono e133 (by first | with_reducible rfl | with_reducible assumption | omega))⟩))))))⟩)⟩) d_Mpg_height_377
    · simp only [List.mem_cons, List.not_mem_nil, or_false] at c91
      refine lv_aload_n S.x S.b d_Mpg_height_378 rfl (lv_at hl 0 rfl) ?_
      refine lv_aload_n S.x S.b d_Mpg_height_379 rfl (lv_at hl 0 rfl) ?_
      obtain ⟨m1, hm1, hec_a9, hec_y8⟩ := EcV.k9 hec_p0 (by first | with_reducible rfl | with_reducible assumption | omega) (z := na 17 p0.toNatClampNeg) rfl rfl; have hrg_a9 := EcV.rng hec_a9; obtain ⟨hpc9, hvy9⟩ := LcE.k9 hlc (by first | with_reducible rfl | with_reducible assumption | omega)
      refine px_get S k_Mpg hT hw 0 0 18 (v := .ref (r 18)) rfl rfl rfl (by decide) m10_3 d_Mpg_height_380 ?_
      refine lv_iload_n S.x S.b d_Mpg_height_383 rfl (lv_at hl 1 rfl) ?_
      refine px_iald S hT hw 0 14 (n := 2100) (f := (ma 18)) rfl gp_18 (x := p0) (vp_in_iff.mpr (by first | exact oz_a7e05de1cd hrg.2.2 hrg.2.1 g1 g2 | (constructor <;> omega))) d_Mpg_height_384 ?_
      refine lv_topi (fun z137 ez137 => ?_)
      have lz137 := Int32.le_toInt z137
      have uz137 := Int32.toInt_lt z137
      have rz137 : z137.toInt = (ma 18 p0.toNatClampNeg).toInt := by rw [ez137]
      have ha_z137 : z137 = ma0 18 p0.toNatClampNeg := ez137.trans (Ann.b18 han (by first | with_reducible rfl | with_reducible assumption | omega)); have hec_z137 : EcV ta (tf 6).toInt na ma0 d m1 p0.toInt z137 := (by rw [ha_z137]; exact hec_y8); have hrg_z137 := EcV.rng hec_z137; have hvn_z137 : V z137.toNatClampNeg 0 := (by rw [ez137]; exact hvy9)
      refine px_calli (pr := []) (px_runV (As := [.int z137]) (rest := []) S (hLH ma0 ys ns nf m1 p0.toInt V vl vh h r g tf ta pf na ma wa cf ca ef ea xf xa z137 (show 0 ≤ m1 from by first | exact oz_0a7da9c4d6 hrg_a9.2.1 hrg_a9.2.2 | omega) (show p0.toInt ≤ (pf 13).toInt from by first | exact oz_6996e0781a g1 hrg.2.1 | omega) (show (pf 13).toInt ≤ 2100 from by first | exact g2 | omega) (show (tf 6).toInt ≤ 2049 from by first | exact g3 | omega) (show (cf 38).toInt = nf from by first | exact g4 | omega) (show 0 ≤ nf from by first | exact g5 | omega) htk (FnT.eq hft (by first | with_reducible rfl | with_reducible assumption | omega)) hfp han hts hec_z137 hvn_z137 _) hT (pr := []) (pcs := [wdP cs h r g tf ta pf na ma wa cf ca ef ea xf xa]) hw (oX_call (P := (fun A U H => (oP A g U H))) (pr := []) oG_P hw hA hP) (px_recv hT hw 0 0 rfl rfl rfl) m13_65 m13_62 m13_64 ms_13_13 m1_21 q_Mpg_height ⟨show (2 * d + 8) + 1 ≤ (2 * (d + 1) + 8) from by first | with_reducible rfl | with_reducible assumption | omega, show 8 + (12 + 11) + (100 * d + 260) ≤ (100 * (d + 1) + 260) from by first | with_reducible rfl | with_reducible assumption | omega⟩ hl.1 rfl (Nat.le_of_ble_eq_true rfl) d_Mpg_height_385 ⟨Nat.le_of_ble_eq_true rfl, Nat.le_of_ble_eq_true rfl⟩) hw hA (fun v139 p138 H locs hp138 hw => ?_)
      obtain ⟨rfl, e140, e141, e142⟩ := hp138
      replace e140 : 1 ≤ v139.toInt := e140
      replace e141 : v139.toInt ≤ 2 * (p0.toInt - m1) := e141
      replace e142 : HgB na ma0 ma (tkl na ma0 ca) d z137 v139.toInt := e142
      replace hw : pw D A s.heap H locs [wdP cs h r g tf ta pf na ma wa cf ca ef ea xf xa] := hw
      have lv139 := Int32.le_toInt v139
      have uv139 := Int32.toInt_lt v139
      refine lv_istore (lv' := [(10, .int v139), (0, .ref h), (1, .int p0)]) S.x S.b d_Mpg_height_388 hl (by decide) rfl (fun ls hl => ?_)
      refine lv_aload_n S.x S.b d_Mpg_height_390 rfl (lv_at hl 1 rfl) ?_
      refine px_get S k_Mpg hT hw 0 0 14 (v := .ref (r 14)) rfl rfl rfl (by decide) m9_238 d_Mpg_height_391 ?_
      refine lv_aload_n S.x S.b d_Mpg_height_394 rfl (lv_at hl 1 rfl) ?_
      refine px_get S k_Mpg hT hw 0 0 17 (v := .ref (r 17)) rfl rfl rfl (by decide) m10_1 d_Mpg_height_395 ?_
      refine lv_iload_n S.x S.b d_Mpg_height_398 rfl (lv_at hl 2 rfl) ?_
      refine px_iald S hT hw 0 13 (n := 2100) (f := (na 17)) rfl gp_17 (x := p0) (vp_in_iff.mpr (by first | exact oz_18f227bc52 hrg_z137.2.1 hrg_z137.2.2 hrg.2.1 g1 g2 | (constructor <;> omega))) d_Mpg_height_399 ?_
      refine lv_topi (fun z143 ez143 => ?_)
      have lz143 := Int32.le_toInt z143
      have uz143 := Int32.toInt_lt z143
      have hec_z143 : EcV ta (tf 6).toInt na ma0 d lo m1 z143 := (by rw [ez143]; exact hec_a9); have hrg_z143 := EcV.rng hec_z143
      refine px_bald S hT hw 0 10 (n := 2100) (f := (na 14)) rfl gp_14 (x := z143) (vp_in_iff.mpr (by first | exact oz_952fdbc7e0 hrg_z143.2.2 hrg_z143.2.1 hrg_z137.1 hrg.2.1 hrg_z137.2.1 g1 g2 | (constructor <;> omega))) d_Mpg_height_400 ?_
      refine lv_topi (fun z144 ez144 => ?_)
      have lz144 := Int32.le_toInt z144
      have uz144 := Int32.toInt_lt z144
      have rz144 := EcV.kd hec_z143 ez144
      refine lv_iconst (v := 4) S.x S.b d_Mpg_height_401 (by decide) ?_
      refine lv_icmp_ne (tgt := 442) S.x S.b d_Mpg_height_402 (by decide) (fun c145 => ?_) (fun c145 => ?_)
      · have nc145 : ¬ z144.toInt = (4 : Int) := mt (i_eq (x := z144) (y := 4)).mpr c145
        refine lv_iload S.x S.b d_Mpg_height_442 (lv_at hl 0 rfl) ?_
        exact px_iret (v := v139) S hr rfl hlk hAe hw (Nat.le_of_ble_eq_true rfl) (Nat.le_of_ble_eq_true rfl) (⟨rfl, (show 1 ≤ v139.toInt from by first | exact e140 | omega), (show v139.toInt ≤ 2 * (hi - lo) from by first | exact oz_a23c3dad80 hrg.2.1 hrg_a9.1 e141 hrg_a9.2.1 | omega), (show HgB na ma0 ma (tkl na ma0 ca) (d + 1) p0 v139.toInt from ⟨by first | with_reducible rfl | with_reducible assumption | omega, Or.inr (Or.inr (Or.inr (Or.inr (Or.inr (Or.inr (Or.inl (⟨by first | with_reducible rfl | with_reducible assumption | omega, by rw [← ez143]; omega, by rw [← ha_z137]; exact (HgB.mono e142 (by first | with_reducible rfl | with_reducible assumption | omega))⟩)))))))⟩)⟩) d_Mpg_height_444
      · have nc145 : z144.toInt = (4 : Int) := (i_eq (x := z144) (y := 4)).mp c145
        refine lv_aload_n S.x S.b d_Mpg_height_405 rfl (lv_at hl 1 rfl) ?_
        refine lv_aload_n S.x S.b d_Mpg_height_406 rfl (lv_at hl 1 rfl) ?_
        refine px_get S k_Mpg hT hw 0 0 17 (v := .ref (r 17)) rfl rfl rfl (by decide) m10_1 d_Mpg_height_407 ?_
        refine lv_aload_n S.x S.b d_Mpg_height_410 rfl (lv_at hl 1 rfl) ?_
        refine px_get S k_Mpg hT hw 0 0 17 (v := .ref (r 17)) rfl rfl rfl (by decide) m10_1 d_Mpg_height_411 ?_
        refine lv_iload_n S.x S.b d_Mpg_height_414 rfl (lv_at hl 2 rfl) ?_
        refine px_iald S hT hw 0 13 (n := 2100) (f := (na 17)) rfl gp_17 (x := p0) (vp_in_iff.mpr (by first | exact oz_18f227bc52 hrg_z137.2.1 hrg_z137.2.2 hrg.2.1 g1 g2 | (constructor <;> omega))) d_Mpg_height_415 ?_
        refine lv_topi (fun z146 ez146 => ?_)
        have lz146 := Int32.le_toInt z146
        have uz146 := Int32.toInt_lt z146
        have hsz146 : z143 = z146 := ez143.trans ez146.symm; subst hsz146
        refine px_iald S hT hw 0 13 (n := 2100) (f := (na 17)) rfl gp_17 (x := z143) (vp_in_iff.mpr (by first | exact oz_952fdbc7e0 hrg_z143.2.2 hrg_z143.2.1 hrg_z137.1 hrg.2.1 hrg_z137.2.1 g1 g2 | (constructor <;> omega))) d_Mpg_height_416 ?_
        refine lv_topi (fun z147 ez147 => ?_)
        have lz147 := Int32.le_toInt z147
        have uz147 := Int32.toInt_lt z147
        have hec_z147 := EcV.k4d hec_z143 (by first | with_reducible rfl | with_reducible assumption | omega) ez147; have hrg_z147 := EcV.rng hec_z147; have hvn_z147 : V z147.toNatClampNeg 0 := (by have q9 := LcE.k46 (Ts.e hts hpc9.1) (by rw [← ez143]; omega); rw [ez147, ez143]; exact q9)
        refine px_calli (pr := []) (px_runV (As := [.int z147]) (rest := []) S (hLH ma0 ys ns nf (z143.toInt + 1) m1 V vl vh h r g tf ta pf na ma wa cf ca ef ea xf xa z147 (show 0 ≤ (z143.toInt + 1) from by first | exact oz_c12c169b81 hrg_z143.2.2 | omega) (show m1 ≤ (pf 13).toInt from by first | exact oz_dc2da80b19 g1 hrg_z137.1 hrg.2.1 hrg_z137.2.1 | omega) (show (pf 13).toInt ≤ 2100 from by first | exact g2 | omega) (show (tf 6).toInt ≤ 2049 from by first | exact g3 | omega) (show (cf 38).toInt = nf from by first | exact g4 | omega) (show 0 ≤ nf from by first | exact g5 | omega) htk (FnT.eq hft (by first | with_reducible rfl | with_reducible assumption | omega)) hfp han hts hec_z147 hvn_z147 _) hT (pr := []) (pcs := [wdP cs h r g tf ta pf na ma wa cf ca ef ea xf xa]) hw (oX_call (P := (fun A U H => (oP A g U H))) (pr := []) oG_P hw hA hP) (px_recv hT hw 0 0 rfl rfl rfl) m13_65 m13_62 m13_64 ms_13_13 m1_21 q_Mpg_height ⟨show (2 * d + 8) + 1 ≤ (2 * (d + 1) + 8) from by first | with_reducible rfl | with_reducible assumption | omega, show 8 + (12 + 11) + (100 * d + 260) ≤ (100 * (d + 1) + 260) from by first | with_reducible rfl | with_reducible assumption | omega⟩ hl.1 rfl (Nat.le_of_ble_eq_true rfl) d_Mpg_height_417 ⟨Nat.le_of_ble_eq_true rfl, Nat.le_of_ble_eq_true rfl⟩) hw hA (fun v149 p148 H locs hp148 hw => ?_)
        obtain ⟨rfl, e150, e151, e152⟩ := hp148
        replace e150 : 1 ≤ v149.toInt := e150
        replace e151 : v149.toInt ≤ 2 * (m1 - (z143.toInt + 1)) := e151
        replace e152 : HgB na ma0 ma (tkl na ma0 ca) d z147 v149.toInt := e152
        replace hw : pw D A s.heap H locs [wdP cs h r g tf ta pf na ma wa cf ca ef ea xf xa] := hw
        have lv149 := Int32.le_toInt v149
        have uv149 := Int32.toInt_lt v149
        refine lv_istore (lv' := [(11, .int v149), (10, .int v139), (0, .ref h), (1, .int p0)]) S.x S.b d_Mpg_height_420 hl (by decide) rfl (fun ls hl => ?_)
        refine lv_iload S.x S.b d_Mpg_height_422 (lv_at hl 0 rfl) ?_
        refine lv_iload S.x S.b d_Mpg_height_424 (lv_at hl 1 rfl) ?_
        refine lv_iconst (v := 1) S.x S.b d_Mpg_height_426 (by decide) ?_
        refine lv_iadd S.x S.b d_Mpg_height_427 ?_
        refine lv_topi (fun z153 ez153 => ?_)
        have tz153 : z153.toInt = (v139.toInt + (1 : Int) + 2147483648) % 4294967296 - 2147483648 := by rw [ez153]; exact i_add v139 1
        have lz153 := Int32.le_toInt z153
        have uz153 := Int32.toInt_lt z153
        try replace tz153 : z153.toInt = v139.toInt + (1 : Int) := by omega
        refine lv_icmp_le (tgt := 436) S.x S.b d_Mpg_height_428 (by decide) (fun c154 => ?_) (fun c154 => ?_)
        · have nc154 : v149.toInt ≤ z153.toInt := (i_le (x := v149) (y := z153)).mp c154
          refine lv_iload S.x S.b d_Mpg_height_436 (lv_at hl 1 rfl) ?_
          refine lv_iconst (v := 1) S.x S.b d_Mpg_height_438 (by decide) ?_
          refine lv_iadd S.x S.b d_Mpg_height_439 ?_
          refine lv_topi (fun z155 ez155 => ?_)
          have tz155 : z155.toInt = (v139.toInt + (1 : Int) + 2147483648) % 4294967296 - 2147483648 := by rw [ez155]; exact i_add v139 1
          have lz155 := Int32.le_toInt z155
          have uz155 := Int32.toInt_lt z155
          try replace tz155 : z155.toInt = v139.toInt + (1 : Int) := by omega
          refine lv_istore (lv' := [(10, .int z155), (11, .int v149), (0, .ref h), (1, .int p0)]) S.x S.b d_Mpg_height_440 hl (by decide) rfl (fun ls hl => ?_)
          refine lv_iload S.x S.b d_Mpg_height_442 (lv_at hl 0 rfl) ?_
          exact px_iret (v := z155) S hr rfl hlk hAe hw (Nat.le_of_ble_eq_true rfl) (Nat.le_of_ble_eq_true rfl) (⟨rfl, (show 1 ≤ z155.toInt from by first | exact oz_af6d0efbcf tz155 e140 | omega), (show z155.toInt ≤ 2 * (hi - lo) from by first | exact oz_48783c20bd hrg.2.1 hrg_z143.1 tz155 e141 hrg_z143.2.1 | omega), (show HgB na ma0 ma (tkl na ma0 ca) (d + 1) p0 z155.toInt from ⟨by first | with_reducible rfl | with_reducible assumption | omega, Or.inr (Or.inr (Or.inr (Or.inr (Or.inr (Or.inr (Or.inr (⟨by first | with_reducible rfl | with_reducible assumption | omega, by rw [← ez143]; omega, by rw [← ha_z137]; exact (HgB.mono e142 (by first | with_reducible rfl | with_reducible assumption | omega)), by rw [← ez143, ← ez147]; exact (HgB.mono e152 (by first | with_reducible rfl | with_reducible assumption | omega))⟩)))))))⟩)⟩) d_Mpg_height_444
        · have nc154 : ¬ v149.toInt ≤ z153.toInt := mt (i_le (x := v149) (y := z153)).mpr c154
          refine lv_iload S.x S.b d_Mpg_height_431 (lv_at hl 0 rfl) ?_
          refine lv_goto (tgt := 440) S.x S.b d_Mpg_height_433 (by decide) ?_
          refine lv_istore (lv' := [(10, .int v149), (11, .int v149), (0, .ref h), (1, .int p0)]) S.x S.b d_Mpg_height_440 hl (by decide) rfl (fun ls hl => ?_)
          refine lv_iload S.x S.b d_Mpg_height_442 (lv_at hl 0 rfl) ?_
          exact px_iret (v := v149) S hr rfl hlk hAe hw (Nat.le_of_ble_eq_true rfl) (Nat.le_of_ble_eq_true rfl) (⟨rfl, (show 1 ≤ v149.toInt from by first | exact e150 | omega), (show v149.toInt ≤ 2 * (hi - lo) from by first | exact oz_10f5cc4f8d hrg.2.1 hrg_z143.1 e151 hrg_z137.1 hrg_z137.2.1 | omega), (show HgB na ma0 ma (tkl na ma0 ca) (d + 1) p0 v149.toInt from ⟨by first | with_reducible rfl | with_reducible assumption | omega, Or.inr (Or.inr (Or.inr (Or.inr (Or.inr (Or.inr (Or.inr (⟨by first | with_reducible rfl | with_reducible assumption | omega, by rw [← ez143]; omega, by rw [← ha_z137]; exact (HgB.mono e142 (by first | with_reducible rfl | with_reducible assumption | omega)), by rw [← ez143, ← ez147]; exact (HgB.mono e152 (by first | with_reducible rfl | with_reducible assumption | omega))⟩)))))))⟩)⟩) d_Mpg_height_444
theorem htc_all (l : Launch) (D : va_G) (cs : Nat → ClassId) : ∀ d : Nat, HtC l D cs d := by
  intro d
  induction d with
  | zero => intro ma0 ys ns nf lo hi V vl vh h r g tf ta pf na ma wa cf ca ef ea xf xa p0 g0 g1 g2 g3 g4 g5 htk hft hfp han hts hec hvn; exact (ec_0 hec).elim
  | succ d ih => intro ma0 ys ns nf lo hi V vl vh h r g tf ta pf na ma wa cf ca ef ea xf xa p0 g0 g1 g2 g3 g4 g5 htk hft hfp han hts hec hvn; exact c_mp_height l D cs ma0 ys ns nf d lo hi V vl vh h r g tf ta pf na ma wa cf ca ef ea xf xa p0 g0 g1 g2 g3 g4 g5 htk hft hfp han hts hec hvn ih
set_option maxHeartbeats 4000000 in
set_option maxRecDepth 100000 in
theorem c_S_height (l : Launch) (D : va_G) (cs : Nat → ClassId) (ma0 : Nat → Nat → Int32) (ys : Int) (ns : Int) (nf : Int) (d : Nat) (lo : Int) (hi : Int) (V : Nat → Nat → Prop) (vl : Int) (vh : Int) (h : Nat) (r : Nat → Nat) (g : Nat → Nat → Option Nat) (tf : Nat → Int32) (ta : Nat → Nat → Int32) (pf : Nat → Int32) (na : Nat → Nat → Int32) (ma : Nat → Nat → Int32) (wa : Nat → Nat → Int32) (cf : Nat → Int32) (ca : Nat → Nat → Int32) (ef : Nat → Int32) (ea : Nat → Nat → Int32) (xf : Nat → Int32) (xa : Nat → Nat → Int32) (p0 : Int32)  (g0 : 0 ≤ lo) (g1 : hi ≤ (pf 13).toInt) (g2 : (pf 13).toInt ≤ 2100) (g3 : (tf 6).toInt ≤ 2049) (g4 : (cf 38).toInt = nf) (g5 : 0 ≤ nf) (htk : TkI tf ta) (hft : FnT (tf 6).toInt na ca (cf 38).toInt) (hfp : FnP na ca nf) (han : Ann na ma0 ma) (hts : Ts (Gk ta ca na ma0 ns ys nf) na ma vl vh V) (hec : EcV ta (tf 6).toInt na ma0 d lo hi p0) (hvn : V p0.toNatClampNeg 0) : MetI l y_Mpg_height b_Mpg_height 12 (.int) D cs (2 * d + 8) (100 * d + 260) (0) (0) [.ref h, .int p0] [wdP cs h r g tf ta pf na ma wa cf ca ef ea xf xa] (oX (fun A U H => (oP A g U H)) [wdP cs h r g tf ta pf na ma wa cf ca ef ea xf xa]) (fun v ps => (ps = [wdP cs h r g tf ta pf na ma wa cf ca ef ea xf xa]) ∧ (1 ≤ v.toInt) ∧ (v.toInt ≤ 2 * (hi - lo)) ∧ (HgB na ma0 ma (tkl na ma0 ca) d p0 v.toInt)) := by
  exact htc_all l D cs d ma0 ys ns nf lo hi V vl vh h r g tf ta pf na ma wa cf ca ef ea xf xa p0 g0 g1 g2 g3 g4 g5 htk hft hfp han hts hec hvn
