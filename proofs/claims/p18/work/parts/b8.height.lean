theorem oz_cb73ed35de {a0 a1 a2 a3 : Int} (h0 : a0 = a1 - (100 : Int)) (h1 : a1 = a2) (h2 : a3 = (0 : Int)) (h3 : 0 ≤ a3) (h4 : a3 = 0 → 100 ≤ a2) : -1 ≤ a0 := by omega
theorem oz_4348681efe {n0 : Nat}  : 4 + 1 ≤ (2 * (n0 + 1) + 8) := by omega
theorem oz_c7f1ce075b {n0 : Nat}  : 8 + (6 + 11) + 140 ≤ (100 * (n0 + 1) + 260) := by omega
theorem oz_07fbb325ca {n0 : Nat}  : (2 * n0 + 8) + 1 ≤ (2 * (n0 + 1) + 8) := by omega
theorem oz_22f1a200d8 {n0 : Nat}  : 8 + (12 + 11) + (100 * n0 + 260) ≤ (100 * (n0 + 1) + 260) := by omega
theorem oz_f2f12181a2 {a0 a1 a2 a3 a4 a5 : Int} (h0 : a3 + a1 + 1 ≤ a4) (h1 : a5 ≤ 2 * (a2 - a4)) (h2 : a0 = a3 + 1) (h3 : 1 ≤ a5) : a0 + a1 + 1 ≤ a2 := by omega
theorem oz_03606900a4 {a0 a1 a2 a3 : Int} (h0 : a0 + 1 ≤ a2) (h1 : a3 ≤ 2 * (a1 - a2)) (h2 : 1 ≤ a3) : a0 + 1 ≤ a1 := by omega
theorem oz_d06cdef794 {a0 a1 a2 a3 a4 : Int} (h0 : a2 ≤ a1) (h1 : a0 = a3 + (1 : Int)) (h2 : a2 = a3 + a4) (h3 : 1 ≤ a4) : a0 ≤ a1 := by omega
theorem oz_9009d237ba {a0 a1 a3 a4 : Int} {n2 : Nat} (h0 : a0 - a3 < ((n2 + 1 : Nat) : Int)) (h1 : a4 ≤ 2 * (a1 - a3)) (h2 : 1 ≤ a4) : a0 - a1 < (n2 : Int) := by omega
theorem oz_58d7b95763 {a0 a1 : Int} (h0 : ¬ a0 ≤ a1) (h1 : 1 ≤ a1) : 1 ≤ a0 := by omega
theorem oz_07d5c453ac {a0 a1 a2 a3 a4 a5 a6 a7 a8 : Int} (h0 : a2 ≤ a3) (h1 : a4 ≤ a1) (h2 : a0 = a5 + a6) (h3 : a5 ≤ 2 * a7) (h4 : a7 + a3 + 1 ≤ a8) (h5 : a6 ≤ 2 * (a4 - a8)) : a0 ≤ 2 * (a1 - a2) := by omega
theorem oz_b2658c9b4e {a0 a1 a2 a3 : Int} (h0 : a1 = a2 + a3) (h1 : a0 = a2 + (1 : Int)) (h2 : 1 ≤ a3) : a0 ≤ a1 := by omega
theorem oz_7e90d38d08 {a0 a1 a2 a3 : Int} (h0 : a2 ≤ a1) (h1 : a0 = a3 + (2 : Int)) (h2 : a2 = a3 + (2 : Int)) : a0 ≤ a1 := by omega
theorem oz_a158216c70 {a0 a1 a2 a3 a4 a5 a6 : Int} (h0 : a2 ≤ a3) (h1 : a4 ≤ a1) (h2 : a0 = a5 + (2 : Int)) (h3 : a5 ≤ 2 * a6) (h4 : a6 + a3 + 1 ≤ a4) : a0 ≤ 2 * (a1 - a2) := by omega
theorem oz_eb1698c6c8 {a0 a1 a2 : Int} (h0 : a1 = a2 + (2 : Int)) (h1 : a0 = a2 + (2 : Int)) : a0 ≤ a1 := by omega
theorem oz_7f6cba95dd {a0 a1 : Int} (h0 : a0 = a1) (h1 : 0 ≤ a1) : (-1 : Int) < a0 := by omega
theorem oz_3f400c68fe {a0 a1 a2 a3 : Int} (h0 : a0 < a2) (h1 : a3 ≤ 2 * (a1 - a2)) (h2 : 1 ≤ a3) : a0 < a1 := by omega
theorem oz_41a80e4c03 {a0 a1 a2 a3 a4 a5 : Int} (h0 : a2 < a3) (h1 : a4 ≤ a1) (h2 : a0 = (1 : Int) + a5) (h3 : a5 ≤ 2 * (a4 - a3)) : a0 ≤ 2 * (a1 - a2) := by omega
theorem oz_b6e6ff28b8 {a0 a1 a2 a3 : Int} (h0 : a3 < a1) (h1 : a0 ≤ 2 * (a3 - a2)) : a0 ≤ 2 * (a1 - a2) := by omega
theorem oz_379898b557 {a0 a1 a2 : Int} (h0 : a1 ≤ a2) (h1 : a2 < a0) : (1 : Int) ≤ 2 * (a0 - a1) := by omega
theorem oz_d5c2854ea2  : (0 : Int) ≤ (1 : Int) := by omega
theorem oz_e5c01f361a {a0 a1 a2 a3 : Int} (h0 : a2 ≤ a3) (h1 : a0 ≤ 2 * (a1 - (a3 + 1))) : a0 ≤ 2 * (a1 - a2) := by omega
theorem oz_70fae65cb7 {a0 a1 a2 a3 a4 : Int} (h0 : a3 < a1) (h1 : a0 ≤ 2 * (a4 - a2)) (h2 : a4 ≤ a3) : a0 ≤ 2 * (a1 - a2) := by omega
theorem oz_5e4a203018 {a0 a1 a2 : Int} (h0 : a0 ≤ a2) (h1 : a2 < a1) : a0 < a1 := by omega
theorem oz_fb2bb6e922 {a0 a1 a2 a3 a4 a5 a6 a7 : Int} (h0 : a3 < a1) (h1 : a0 ≤ 2 * (a4 - a2)) (h2 : 1 ≤ a5) (h3 : a5 ≤ 2 * (a6 - a4)) (h4 : 1 ≤ a7) (h5 : a7 ≤ 2 * (a3 - a6)) : a0 ≤ 2 * (a1 - a2) := by omega
theorem oz_62956263f3 {a0 a1 a2 a3 a4 a5 a6 a7 : Int} (h0 : a3 < a1) (h1 : a2 ≤ a4) (h2 : a0 ≤ 2 * (a3 - a5)) (h3 : a4 < a6) (h4 : a6 ≤ a7) (h5 : a7 < a5) : a0 ≤ 2 * (a1 - a2) := by omega
theorem oz_9f9208b9f4 {a0 a1 a2 a3 a4 a5 a6 a7 : Int} (h0 : a3 < a1) (h1 : a2 ≤ a4) (h2 : a0 ≤ 2 * (a5 - a6)) (h3 : a4 < a6) (h4 : a5 ≤ a7) (h5 : a7 < (a3)) : a0 ≤ 2 * (a1 - a2) := by omega
theorem oz_952fdbc7e0 {a0 a1 a2 a3 a4 a5 : Int} (h0 : 0 ≤ a0) (h1 : a0 < a1) (h2 : a1 ≤ a2) (h3 : a3 < a4) (h4 : a2 < (a3)) (h5 : a4 ≤ a5) (h6 : a5 ≤ 2100) : 0 ≤ a0 ∧ a0 < ((2100 : Nat) : Int) := by omega
theorem oz_a23c3dad80 {a0 a1 a2 a3 a4 a5 : Int} (h0 : a3 < a1) (h1 : a2 ≤ a4) (h2 : a0 ≤ 2 * (a3 - a5)) (h3 : a4 < a5) : a0 ≤ 2 * (a1 - a2) := by omega
theorem oz_af6d0efbcf {a0 a1 : Int} (h0 : a0 = a1 + (1 : Int)) (h1 : 1 ≤ a1) : 1 ≤ a0 := by omega
theorem oz_48783c20bd {a0 a1 a2 a3 a4 a5 a6 : Int} (h0 : a3 < a1) (h1 : a2 ≤ a4) (h2 : a0 = a5 + (1 : Int)) (h3 : a5 ≤ 2 * (a3 - a6)) (h4 : a4 < a6) : a0 ≤ 2 * (a1 - a2) := by omega
theorem oz_10f5cc4f8d {a0 a1 a2 a3 a4 a5 a6 : Int} (h0 : a3 < a1) (h1 : a2 ≤ a4) (h2 : a0 ≤ 2 * (a5 - (a4 + 1))) (h3 : a5 ≤ a6) (h4 : a6 < (a3)) : a0 ≤ 2 * (a1 - a2) := by omega
theorem m13_62 : Cond.methodLink "HomeSystemModel$Program" 679 ⟨"HomeSystemModel$Program", "height", "(I)I"⟩ ∈ AL := AL_13 (List.mem_of_getElem? (i := 62) rfl) rfl
theorem m13_65 : Cond.code ⟨"HomeSystemModel$Program", "height", "(I)I"⟩ prog_16_method_98_code 12 (Option.some FieldType.int) ∈ AL := AL_13 (List.mem_of_getElem? (i := 65) rfl) rfl
theorem ms_13_13 : Cond.selects "HomeSystemModel$Program" ⟨"HomeSystemModel$Program", "height", "(I)I"⟩ ⟨"HomeSystemModel$Program", "height", "(I)I"⟩ ∈ AL := AL_p (q := (⟨"HomeSystemModel$Program", "height", "(I)I"⟩, 69)) (by unfold lw_privs; exact List.mem_append_right _ (List.mem_append_right _ (List.mem_append_right _ (List.mem_append_right _ (List.mem_append_right _ (List.mem_append_right _ (List.mem_append_right _ (List.mem_append_right _ (List.mem_append_right _ (List.mem_append_right _ (List.mem_append_right _ (List.mem_append_right _ (List.mem_append_left _ (List.mem_of_getElem? (i := 13) rfl))))))))))))))
theorem m13_64 : Cond.instanceMethod ⟨"HomeSystemModel$Program", "height", "(I)I"⟩ ∈ AL := AL_13 (List.mem_of_getElem? (i := 64) rfl) rfl
abbrev b_Mpg_height : ByteArray := prog_16_method_98_code
def y_Mpg_height : MethodName := ⟨"HomeSystemModel$Program", "height", "(I)I"⟩
theorem d_Mpg_height_0 : decode b_Mpg_height 0 = .ok (.aload_n 0, 1) := by decide +kernel
theorem d_Mpg_height_1 : decode b_Mpg_height 1 = .ok (.getfield 207, 3) := by decide +kernel
theorem d_Mpg_height_4 : decode b_Mpg_height 4 = .ok (.iload_n 1, 1) := by decide +kernel
theorem d_Mpg_height_5 : decode b_Mpg_height 5 = .ok (.baload, 1) := by decide +kernel
theorem d_Mpg_height_6 : decode b_Mpg_height 6 = .ok (.tableswitch 439 1 9 #[50, 50, 52, 223, 439, 439, 234, 305, 372], 50) := by decide +kernel
theorem d_Mpg_height_56 : decode b_Mpg_height 56 = .ok (.iconst 1, 1) := by decide +kernel
theorem d_Mpg_height_57 : decode b_Mpg_height 57 = .ok (.ireturn, 1) := by decide +kernel
theorem d_Mpg_height_58 : decode b_Mpg_height 58 = .ok (.iconst 1, 1) := by decide +kernel
theorem d_Mpg_height_59 : decode b_Mpg_height 59 = .ok (.istore_n 2, 1) := by decide +kernel
theorem d_Mpg_height_60 : decode b_Mpg_height 60 = .ok (.iconst 0, 1) := by decide +kernel
theorem d_Mpg_height_61 : decode b_Mpg_height 61 = .ok (.istore_n 3, 1) := by decide +kernel
theorem d_Mpg_height_62 : decode b_Mpg_height 62 = .ok (.aload_n 0, 1) := by decide +kernel
theorem d_Mpg_height_63 : decode b_Mpg_height 63 = .ok (.getfield 219, 3) := by decide +kernel
theorem d_Mpg_height_66 : decode b_Mpg_height 66 = .ok (.iload_n 1, 1) := by decide +kernel
theorem d_Mpg_height_67 : decode b_Mpg_height 67 = .ok (.iaload, 1) := by decide +kernel
theorem d_Mpg_height_68 : decode b_Mpg_height 68 = .ok (.bipush 100, 2) := by decide +kernel
theorem d_Mpg_height_70 : decode b_Mpg_height 70 = .ok (.if_icmp .ge 7, 3) := by decide +kernel
theorem d_Mpg_height_73 : decode b_Mpg_height 73 = .ok (.iconst 1, 1) := by decide +kernel
theorem d_Mpg_height_74 : decode b_Mpg_height 74 = .ok (.goto 4, 3) := by decide +kernel
theorem d_Mpg_height_77 : decode b_Mpg_height 77 = .ok (.iconst 0, 1) := by decide +kernel
theorem d_Mpg_height_78 : decode b_Mpg_height 78 = .ok (.istore 4, 2) := by decide +kernel
theorem d_Mpg_height_80 : decode b_Mpg_height 80 = .ok (.iconst 0, 1) := by decide +kernel
theorem d_Mpg_height_81 : decode b_Mpg_height 81 = .ok (.istore 5, 2) := by decide +kernel
theorem d_Mpg_height_83 : decode b_Mpg_height 83 = .ok (.aload_n 0, 1) := by decide +kernel
theorem d_Mpg_height_84 : decode b_Mpg_height 84 = .ok (.getfield 216, 3) := by decide +kernel
theorem d_Mpg_height_87 : decode b_Mpg_height 87 = .ok (.iload_n 1, 1) := by decide +kernel
theorem d_Mpg_height_88 : decode b_Mpg_height 88 = .ok (.iaload, 1) := by decide +kernel
theorem d_Mpg_height_89 : decode b_Mpg_height 89 = .ok (.istore 6, 2) := by decide +kernel
theorem d_Mpg_height_91 : decode b_Mpg_height 91 = .ok (.iload 6, 2) := by decide +kernel
theorem d_Mpg_height_93 : decode b_Mpg_height 93 = .ok (.ifCond .lt 134, 3) := by decide +kernel
theorem d_Mpg_height_96 : decode b_Mpg_height 96 = .ok (.iload 4, 2) := by decide +kernel
theorem d_Mpg_height_98 : decode b_Mpg_height 98 = .ok (.ifCond .eq 19, 3) := by decide +kernel
theorem d_Mpg_height_101 : decode b_Mpg_height 101 = .ok (.aload_n 0, 1) := by decide +kernel
theorem d_Mpg_height_102 : decode b_Mpg_height 102 = .ok (.iconst (-1), 1) := by decide +kernel
theorem d_Mpg_height_103 : decode b_Mpg_height 103 = .ok (.aload_n 0, 1) := by decide +kernel
theorem d_Mpg_height_104 : decode b_Mpg_height 104 = .ok (.getfield 219, 3) := by decide +kernel
theorem d_Mpg_height_107 : decode b_Mpg_height 107 = .ok (.iload_n 1, 1) := by decide +kernel
theorem d_Mpg_height_108 : decode b_Mpg_height 108 = .ok (.iaload, 1) := by decide +kernel
theorem d_Mpg_height_109 : decode b_Mpg_height 109 = .ok (.iload 5, 2) := by decide +kernel
theorem d_Mpg_height_111 : decode b_Mpg_height 111 = .ok (.invokevirtual 587, 3) := by decide +kernel
theorem d_Mpg_height_114 : decode b_Mpg_height 114 = .ok (.goto 19, 3) := by decide +kernel
theorem d_Mpg_height_117 : decode b_Mpg_height 117 = .ok (.aload_n 0, 1) := by decide +kernel
theorem d_Mpg_height_118 : decode b_Mpg_height 118 = .ok (.aload_n 0, 1) := by decide +kernel
theorem d_Mpg_height_119 : decode b_Mpg_height 119 = .ok (.getfield 219, 3) := by decide +kernel
theorem d_Mpg_height_122 : decode b_Mpg_height 122 = .ok (.iload_n 1, 1) := by decide +kernel
theorem d_Mpg_height_123 : decode b_Mpg_height 123 = .ok (.iaload, 1) := by decide +kernel
theorem d_Mpg_height_124 : decode b_Mpg_height 124 = .ok (.bipush 100, 2) := by decide +kernel
theorem d_Mpg_height_126 : decode b_Mpg_height 126 = .ok (.isub, 1) := by decide +kernel
theorem d_Mpg_height_127 : decode b_Mpg_height 127 = .ok (.iconst (-1), 1) := by decide +kernel
theorem d_Mpg_height_128 : decode b_Mpg_height 128 = .ok (.iload 5, 2) := by decide +kernel
theorem d_Mpg_height_130 : decode b_Mpg_height 130 = .ok (.invokevirtual 587, 3) := by decide +kernel
theorem d_Mpg_height_133 : decode b_Mpg_height 133 = .ok (.istore 7, 2) := by decide +kernel
theorem d_Mpg_height_135 : decode b_Mpg_height 135 = .ok (.iload 7, 2) := by decide +kernel
theorem d_Mpg_height_137 : decode b_Mpg_height 137 = .ok (.bipush 105, 2) := by decide +kernel
theorem d_Mpg_height_139 : decode b_Mpg_height 139 = .ok (.if_icmp .eq 14, 3) := by decide +kernel
theorem d_Mpg_height_142 : decode b_Mpg_height 142 = .ok (.iload 7, 2) := by decide +kernel
theorem d_Mpg_height_144 : decode b_Mpg_height 144 = .ok (.bipush 107, 2) := by decide +kernel
theorem d_Mpg_height_146 : decode b_Mpg_height 146 = .ok (.if_icmp .eq 7, 3) := by decide +kernel
theorem d_Mpg_height_149 : decode b_Mpg_height 149 = .ok (.iconst 1, 1) := by decide +kernel
theorem d_Mpg_height_150 : decode b_Mpg_height 150 = .ok (.goto 4, 3) := by decide +kernel
theorem d_Mpg_height_153 : decode b_Mpg_height 153 = .ok (.iconst 0, 1) := by decide +kernel
theorem d_Mpg_height_154 : decode b_Mpg_height 154 = .ok (.istore 8, 2) := by decide +kernel
theorem d_Mpg_height_156 : decode b_Mpg_height 156 = .ok (.iload_n 3, 1) := by decide +kernel
theorem d_Mpg_height_157 : decode b_Mpg_height 157 = .ok (.iload 8, 2) := by decide +kernel
theorem d_Mpg_height_159 : decode b_Mpg_height 159 = .ok (.ifCond .eq 7, 3) := by decide +kernel
theorem d_Mpg_height_162 : decode b_Mpg_height 162 = .ok (.iconst 2, 1) := by decide +kernel
theorem d_Mpg_height_163 : decode b_Mpg_height 163 = .ok (.goto 20, 3) := by decide +kernel
theorem d_Mpg_height_166 : decode b_Mpg_height 166 = .ok (.iload 7, 2) := by decide +kernel
theorem d_Mpg_height_168 : decode b_Mpg_height 168 = .ok (.bipush 107, 2) := by decide +kernel
theorem d_Mpg_height_170 : decode b_Mpg_height 170 = .ok (.if_icmp .ne 7, 3) := by decide +kernel
theorem d_Mpg_height_173 : decode b_Mpg_height 173 = .ok (.iconst 1, 1) := by decide +kernel
theorem d_Mpg_height_174 : decode b_Mpg_height 174 = .ok (.goto 9, 3) := by decide +kernel
theorem d_Mpg_height_177 : decode b_Mpg_height 177 = .ok (.aload_n 0, 1) := by decide +kernel
theorem d_Mpg_height_178 : decode b_Mpg_height 178 = .ok (.iload 6, 2) := by decide +kernel
theorem d_Mpg_height_180 : decode b_Mpg_height 180 = .ok (.invokevirtual 679, 3) := by decide +kernel
theorem d_Mpg_height_183 : decode b_Mpg_height 183 = .ok (.iadd, 1) := by decide +kernel
theorem d_Mpg_height_184 : decode b_Mpg_height 184 = .ok (.istore 9, 2) := by decide +kernel
theorem d_Mpg_height_186 : decode b_Mpg_height 186 = .ok (.iload 9, 2) := by decide +kernel
theorem d_Mpg_height_188 : decode b_Mpg_height 188 = .ok (.iload_n 2, 1) := by decide +kernel
theorem d_Mpg_height_189 : decode b_Mpg_height 189 = .ok (.if_icmp .le 8, 3) := by decide +kernel
theorem d_Mpg_height_192 : decode b_Mpg_height 192 = .ok (.iload 9, 2) := by decide +kernel
theorem d_Mpg_height_194 : decode b_Mpg_height 194 = .ok (.goto 4, 3) := by decide +kernel
theorem d_Mpg_height_197 : decode b_Mpg_height 197 = .ok (.iload_n 2, 1) := by decide +kernel
theorem d_Mpg_height_198 : decode b_Mpg_height 198 = .ok (.istore_n 2, 1) := by decide +kernel
theorem d_Mpg_height_199 : decode b_Mpg_height 199 = .ok (.iload_n 3, 1) := by decide +kernel
theorem d_Mpg_height_200 : decode b_Mpg_height 200 = .ok (.iload 8, 2) := by decide +kernel
theorem d_Mpg_height_202 : decode b_Mpg_height 202 = .ok (.ifCond .eq 7, 3) := by decide +kernel
theorem d_Mpg_height_205 : decode b_Mpg_height 205 = .ok (.iconst 2, 1) := by decide +kernel
theorem d_Mpg_height_206 : decode b_Mpg_height 206 = .ok (.goto 4, 3) := by decide +kernel
theorem d_Mpg_height_209 : decode b_Mpg_height 209 = .ok (.iconst 1, 1) := by decide +kernel
theorem d_Mpg_height_210 : decode b_Mpg_height 210 = .ok (.iadd, 1) := by decide +kernel
theorem d_Mpg_height_211 : decode b_Mpg_height 211 = .ok (.istore_n 3, 1) := by decide +kernel
theorem d_Mpg_height_212 : decode b_Mpg_height 212 = .ok (.iinc 5 1, 3) := by decide +kernel
theorem d_Mpg_height_215 : decode b_Mpg_height 215 = .ok (.aload_n 0, 1) := by decide +kernel
theorem d_Mpg_height_216 : decode b_Mpg_height 216 = .ok (.getfield 228, 3) := by decide +kernel
theorem d_Mpg_height_219 : decode b_Mpg_height 219 = .ok (.iload 6, 2) := by decide +kernel
theorem d_Mpg_height_221 : decode b_Mpg_height 221 = .ok (.iaload, 1) := by decide +kernel
theorem d_Mpg_height_222 : decode b_Mpg_height 222 = .ok (.istore 6, 2) := by decide +kernel
theorem d_Mpg_height_224 : decode b_Mpg_height 224 = .ok (.goto (-133), 3) := by decide +kernel
theorem d_Mpg_height_227 : decode b_Mpg_height 227 = .ok (.iload_n 2, 1) := by decide +kernel
theorem d_Mpg_height_228 : decode b_Mpg_height 228 = .ok (.ireturn, 1) := by decide +kernel
theorem d_Mpg_height_229 : decode b_Mpg_height 229 = .ok (.aload_n 0, 1) := by decide +kernel
theorem d_Mpg_height_230 : decode b_Mpg_height 230 = .ok (.aload_n 0, 1) := by decide +kernel
theorem d_Mpg_height_231 : decode b_Mpg_height 231 = .ok (.getfield 216, 3) := by decide +kernel
theorem d_Mpg_height_234 : decode b_Mpg_height 234 = .ok (.iload_n 1, 1) := by decide +kernel
theorem d_Mpg_height_235 : decode b_Mpg_height 235 = .ok (.iaload, 1) := by decide +kernel
theorem d_Mpg_height_236 : decode b_Mpg_height 236 = .ok (.invokevirtual 679, 3) := by decide +kernel
theorem d_Mpg_height_239 : decode b_Mpg_height 239 = .ok (.ireturn, 1) := by decide +kernel
theorem d_Mpg_height_240 : decode b_Mpg_height 240 = .ok (.aload_n 0, 1) := by decide +kernel
theorem d_Mpg_height_241 : decode b_Mpg_height 241 = .ok (.aload_n 0, 1) := by decide +kernel
theorem d_Mpg_height_242 : decode b_Mpg_height 242 = .ok (.getfield 216, 3) := by decide +kernel
theorem d_Mpg_height_245 : decode b_Mpg_height 245 = .ok (.iload_n 1, 1) := by decide +kernel
theorem d_Mpg_height_246 : decode b_Mpg_height 246 = .ok (.iaload, 1) := by decide +kernel
theorem d_Mpg_height_247 : decode b_Mpg_height 247 = .ok (.invokevirtual 679, 3) := by decide +kernel
theorem d_Mpg_height_250 : decode b_Mpg_height 250 = .ok (.istore 6, 2) := by decide +kernel
theorem d_Mpg_height_252 : decode b_Mpg_height 252 = .ok (.aload_n 0, 1) := by decide +kernel
theorem d_Mpg_height_253 : decode b_Mpg_height 253 = .ok (.getfield 228, 3) := by decide +kernel
theorem d_Mpg_height_256 : decode b_Mpg_height 256 = .ok (.aload_n 0, 1) := by decide +kernel
theorem d_Mpg_height_257 : decode b_Mpg_height 257 = .ok (.getfield 216, 3) := by decide +kernel
theorem d_Mpg_height_260 : decode b_Mpg_height 260 = .ok (.iload_n 1, 1) := by decide +kernel
theorem d_Mpg_height_261 : decode b_Mpg_height 261 = .ok (.iaload, 1) := by decide +kernel
theorem d_Mpg_height_262 : decode b_Mpg_height 262 = .ok (.iaload, 1) := by decide +kernel
theorem d_Mpg_height_263 : decode b_Mpg_height 263 = .ok (.istore 7, 2) := by decide +kernel
theorem d_Mpg_height_265 : decode b_Mpg_height 265 = .ok (.iload 7, 2) := by decide +kernel
theorem d_Mpg_height_267 : decode b_Mpg_height 267 = .ok (.ifCond .lt 41, 3) := by decide +kernel
theorem d_Mpg_height_270 : decode b_Mpg_height 270 = .ok (.iconst 1, 1) := by decide +kernel
theorem d_Mpg_height_271 : decode b_Mpg_height 271 = .ok (.aload_n 0, 1) := by decide +kernel
theorem d_Mpg_height_272 : decode b_Mpg_height 272 = .ok (.iload 7, 2) := by decide +kernel
theorem d_Mpg_height_274 : decode b_Mpg_height 274 = .ok (.invokevirtual 679, 3) := by decide +kernel
theorem d_Mpg_height_277 : decode b_Mpg_height 277 = .ok (.iadd, 1) := by decide +kernel
theorem d_Mpg_height_278 : decode b_Mpg_height 278 = .ok (.istore 8, 2) := by decide +kernel
theorem d_Mpg_height_280 : decode b_Mpg_height 280 = .ok (.iload 8, 2) := by decide +kernel
theorem d_Mpg_height_282 : decode b_Mpg_height 282 = .ok (.iload 6, 2) := by decide +kernel
theorem d_Mpg_height_284 : decode b_Mpg_height 284 = .ok (.if_icmp .le 8, 3) := by decide +kernel
theorem d_Mpg_height_287 : decode b_Mpg_height 287 = .ok (.iload 8, 2) := by decide +kernel
theorem d_Mpg_height_289 : decode b_Mpg_height 289 = .ok (.goto 5, 3) := by decide +kernel
theorem d_Mpg_height_292 : decode b_Mpg_height 292 = .ok (.iload 6, 2) := by decide +kernel
theorem d_Mpg_height_294 : decode b_Mpg_height 294 = .ok (.istore 6, 2) := by decide +kernel
theorem d_Mpg_height_296 : decode b_Mpg_height 296 = .ok (.aload_n 0, 1) := by decide +kernel
theorem d_Mpg_height_297 : decode b_Mpg_height 297 = .ok (.getfield 228, 3) := by decide +kernel
theorem d_Mpg_height_300 : decode b_Mpg_height 300 = .ok (.iload 7, 2) := by decide +kernel
theorem d_Mpg_height_302 : decode b_Mpg_height 302 = .ok (.iaload, 1) := by decide +kernel
theorem d_Mpg_height_303 : decode b_Mpg_height 303 = .ok (.istore 7, 2) := by decide +kernel
theorem d_Mpg_height_305 : decode b_Mpg_height 305 = .ok (.goto (-40), 3) := by decide +kernel
theorem d_Mpg_height_308 : decode b_Mpg_height 308 = .ok (.iload 6, 2) := by decide +kernel
theorem d_Mpg_height_310 : decode b_Mpg_height 310 = .ok (.ireturn, 1) := by decide +kernel
theorem d_Mpg_height_311 : decode b_Mpg_height 311 = .ok (.aload_n 0, 1) := by decide +kernel
theorem d_Mpg_height_312 : decode b_Mpg_height 312 = .ok (.aload_n 0, 1) := by decide +kernel
theorem d_Mpg_height_313 : decode b_Mpg_height 313 = .ok (.getfield 216, 3) := by decide +kernel
theorem d_Mpg_height_316 : decode b_Mpg_height 316 = .ok (.iload_n 1, 1) := by decide +kernel
theorem d_Mpg_height_317 : decode b_Mpg_height 317 = .ok (.iaload, 1) := by decide +kernel
theorem d_Mpg_height_318 : decode b_Mpg_height 318 = .ok (.invokevirtual 679, 3) := by decide +kernel
theorem d_Mpg_height_321 : decode b_Mpg_height 321 = .ok (.istore 7, 2) := by decide +kernel
theorem d_Mpg_height_323 : decode b_Mpg_height 323 = .ok (.aload_n 0, 1) := by decide +kernel
theorem d_Mpg_height_324 : decode b_Mpg_height 324 = .ok (.aload_n 0, 1) := by decide +kernel
theorem d_Mpg_height_325 : decode b_Mpg_height 325 = .ok (.getfield 219, 3) := by decide +kernel
theorem d_Mpg_height_328 : decode b_Mpg_height 328 = .ok (.iload_n 1, 1) := by decide +kernel
theorem d_Mpg_height_329 : decode b_Mpg_height 329 = .ok (.iaload, 1) := by decide +kernel
theorem d_Mpg_height_330 : decode b_Mpg_height 330 = .ok (.invokevirtual 679, 3) := by decide +kernel
theorem d_Mpg_height_333 : decode b_Mpg_height 333 = .ok (.istore 8, 2) := by decide +kernel
theorem d_Mpg_height_335 : decode b_Mpg_height 335 = .ok (.aload_n 0, 1) := by decide +kernel
theorem d_Mpg_height_336 : decode b_Mpg_height 336 = .ok (.aload_n 0, 1) := by decide +kernel
theorem d_Mpg_height_337 : decode b_Mpg_height 337 = .ok (.getfield 222, 3) := by decide +kernel
theorem d_Mpg_height_340 : decode b_Mpg_height 340 = .ok (.iload_n 1, 1) := by decide +kernel
theorem d_Mpg_height_341 : decode b_Mpg_height 341 = .ok (.iaload, 1) := by decide +kernel
theorem d_Mpg_height_342 : decode b_Mpg_height 342 = .ok (.invokevirtual 679, 3) := by decide +kernel
theorem d_Mpg_height_345 : decode b_Mpg_height 345 = .ok (.istore 9, 2) := by decide +kernel
theorem d_Mpg_height_347 : decode b_Mpg_height 347 = .ok (.iload 8, 2) := by decide +kernel
theorem d_Mpg_height_349 : decode b_Mpg_height 349 = .ok (.iload 7, 2) := by decide +kernel
theorem d_Mpg_height_351 : decode b_Mpg_height 351 = .ok (.if_icmp .le 8, 3) := by decide +kernel
theorem d_Mpg_height_354 : decode b_Mpg_height 354 = .ok (.iload 8, 2) := by decide +kernel
theorem d_Mpg_height_356 : decode b_Mpg_height 356 = .ok (.goto 5, 3) := by decide +kernel
theorem d_Mpg_height_359 : decode b_Mpg_height 359 = .ok (.iload 7, 2) := by decide +kernel
theorem d_Mpg_height_361 : decode b_Mpg_height 361 = .ok (.istore 7, 2) := by decide +kernel
theorem d_Mpg_height_363 : decode b_Mpg_height 363 = .ok (.iload 9, 2) := by decide +kernel
theorem d_Mpg_height_365 : decode b_Mpg_height 365 = .ok (.iload 7, 2) := by decide +kernel
theorem d_Mpg_height_367 : decode b_Mpg_height 367 = .ok (.if_icmp .le 8, 3) := by decide +kernel
theorem d_Mpg_height_370 : decode b_Mpg_height 370 = .ok (.iload 9, 2) := by decide +kernel
theorem d_Mpg_height_372 : decode b_Mpg_height 372 = .ok (.goto 5, 3) := by decide +kernel
theorem d_Mpg_height_375 : decode b_Mpg_height 375 = .ok (.iload 7, 2) := by decide +kernel
theorem d_Mpg_height_377 : decode b_Mpg_height 377 = .ok (.ireturn, 1) := by decide +kernel
theorem d_Mpg_height_378 : decode b_Mpg_height 378 = .ok (.aload_n 0, 1) := by decide +kernel
theorem d_Mpg_height_379 : decode b_Mpg_height 379 = .ok (.aload_n 0, 1) := by decide +kernel
theorem d_Mpg_height_380 : decode b_Mpg_height 380 = .ok (.getfield 219, 3) := by decide +kernel
theorem d_Mpg_height_383 : decode b_Mpg_height 383 = .ok (.iload_n 1, 1) := by decide +kernel
theorem d_Mpg_height_384 : decode b_Mpg_height 384 = .ok (.iaload, 1) := by decide +kernel
theorem d_Mpg_height_385 : decode b_Mpg_height 385 = .ok (.invokevirtual 679, 3) := by decide +kernel
theorem d_Mpg_height_388 : decode b_Mpg_height 388 = .ok (.istore 10, 2) := by decide +kernel
theorem d_Mpg_height_390 : decode b_Mpg_height 390 = .ok (.aload_n 0, 1) := by decide +kernel
theorem d_Mpg_height_391 : decode b_Mpg_height 391 = .ok (.getfield 207, 3) := by decide +kernel
theorem d_Mpg_height_394 : decode b_Mpg_height 394 = .ok (.aload_n 0, 1) := by decide +kernel
theorem d_Mpg_height_395 : decode b_Mpg_height 395 = .ok (.getfield 216, 3) := by decide +kernel
theorem d_Mpg_height_398 : decode b_Mpg_height 398 = .ok (.iload_n 1, 1) := by decide +kernel
theorem d_Mpg_height_399 : decode b_Mpg_height 399 = .ok (.iaload, 1) := by decide +kernel
theorem d_Mpg_height_400 : decode b_Mpg_height 400 = .ok (.baload, 1) := by decide +kernel
theorem d_Mpg_height_401 : decode b_Mpg_height 401 = .ok (.iconst 4, 1) := by decide +kernel
theorem d_Mpg_height_402 : decode b_Mpg_height 402 = .ok (.if_icmp .ne 40, 3) := by decide +kernel
theorem d_Mpg_height_405 : decode b_Mpg_height 405 = .ok (.aload_n 0, 1) := by decide +kernel
theorem d_Mpg_height_406 : decode b_Mpg_height 406 = .ok (.aload_n 0, 1) := by decide +kernel
theorem d_Mpg_height_407 : decode b_Mpg_height 407 = .ok (.getfield 216, 3) := by decide +kernel
theorem d_Mpg_height_410 : decode b_Mpg_height 410 = .ok (.aload_n 0, 1) := by decide +kernel
theorem d_Mpg_height_411 : decode b_Mpg_height 411 = .ok (.getfield 216, 3) := by decide +kernel
theorem d_Mpg_height_414 : decode b_Mpg_height 414 = .ok (.iload_n 1, 1) := by decide +kernel
theorem d_Mpg_height_415 : decode b_Mpg_height 415 = .ok (.iaload, 1) := by decide +kernel
theorem d_Mpg_height_416 : decode b_Mpg_height 416 = .ok (.iaload, 1) := by decide +kernel
theorem d_Mpg_height_417 : decode b_Mpg_height 417 = .ok (.invokevirtual 679, 3) := by decide +kernel
theorem d_Mpg_height_420 : decode b_Mpg_height 420 = .ok (.istore 11, 2) := by decide +kernel
theorem d_Mpg_height_422 : decode b_Mpg_height 422 = .ok (.iload 11, 2) := by decide +kernel
theorem d_Mpg_height_424 : decode b_Mpg_height 424 = .ok (.iload 10, 2) := by decide +kernel
theorem d_Mpg_height_426 : decode b_Mpg_height 426 = .ok (.iconst 1, 1) := by decide +kernel
theorem d_Mpg_height_427 : decode b_Mpg_height 427 = .ok (.iadd, 1) := by decide +kernel
theorem d_Mpg_height_428 : decode b_Mpg_height 428 = .ok (.if_icmp .le 8, 3) := by decide +kernel
theorem d_Mpg_height_431 : decode b_Mpg_height 431 = .ok (.iload 11, 2) := by decide +kernel
theorem d_Mpg_height_433 : decode b_Mpg_height 433 = .ok (.goto 7, 3) := by decide +kernel
theorem d_Mpg_height_436 : decode b_Mpg_height 436 = .ok (.iload 10, 2) := by decide +kernel
theorem d_Mpg_height_438 : decode b_Mpg_height 438 = .ok (.iconst 1, 1) := by decide +kernel
theorem d_Mpg_height_439 : decode b_Mpg_height 439 = .ok (.iadd, 1) := by decide +kernel
theorem d_Mpg_height_440 : decode b_Mpg_height 440 = .ok (.istore 10, 2) := by decide +kernel
theorem d_Mpg_height_442 : decode b_Mpg_height 442 = .ok (.iload 10, 2) := by decide +kernel
theorem d_Mpg_height_444 : decode b_Mpg_height 444 = .ok (.ireturn, 1) := by decide +kernel
theorem d_Mpg_height_445 : decode b_Mpg_height 445 = .ok (.aload_n 0, 1) := by decide +kernel
theorem d_Mpg_height_446 : decode b_Mpg_height 446 = .ok (.aload_n 0, 1) := by decide +kernel
theorem d_Mpg_height_447 : decode b_Mpg_height 447 = .ok (.getfield 216, 3) := by decide +kernel
theorem d_Mpg_height_450 : decode b_Mpg_height 450 = .ok (.iload_n 1, 1) := by decide +kernel
theorem d_Mpg_height_451 : decode b_Mpg_height 451 = .ok (.iaload, 1) := by decide +kernel
theorem d_Mpg_height_452 : decode b_Mpg_height 452 = .ok (.invokevirtual 679, 3) := by decide +kernel
theorem d_Mpg_height_455 : decode b_Mpg_height 455 = .ok (.ireturn, 1) := by decide +kernel
theorem q_Mpg_height : px_y y_Mpg_height 1 := by unfold px_y; decide +kernel
def HtC (l : Launch) (D : va_G) (cs : Nat → ClassId) (d : Nat) : Prop := ∀ (ma0 : Nat → Nat → Int32) (ys : Int) (ns : Int) (nf : Int) (lo : Int) (hi : Int) (V : Nat → Nat → Prop) (vl : Int) (vh : Int) (h : Nat) (r : Nat → Nat) (g : Nat → Nat → Option Nat) (tf : Nat → Int32) (ta : Nat → Nat → Int32) (pf : Nat → Int32) (na : Nat → Nat → Int32) (ma : Nat → Nat → Int32) (wa : Nat → Nat → Int32) (cf : Nat → Int32) (ca : Nat → Nat → Int32) (ef : Nat → Int32) (ea : Nat → Nat → Int32) (xf : Nat → Int32) (xa : Nat → Nat → Int32) (p0 : Int32)  (g0 : 0 ≤ lo) (g1 : hi ≤ (pf 13).toInt) (g2 : (pf 13).toInt ≤ 2100) (g3 : (tf 6).toInt ≤ 2049) (g4 : (cf 38).toInt = nf) (g5 : 0 ≤ nf) (htk : TkI tf ta) (hft : FnT (tf 6).toInt na ca (cf 38).toInt) (hfp : FnP na ca nf) (han : Ann na ma0 ma) (hts : Ts (Gk ta ca na ma0 ns ys nf) na ma vl vh V) (hec : EcV ta (tf 6).toInt na ma0 d lo hi p0) (hvn : V p0.toNatClampNeg 0), MetI l y_Mpg_height b_Mpg_height 12 (.int) D cs (2 * d + 8) (100 * d + 260) (0) (0) [.ref h, .int p0] [wdP cs h r g tf ta pf na ma wa cf ca ef ea xf xa] (oX (fun A U H => (oP A g U H)) [wdP cs h r g tf ta pf na ma wa cf ca ef ea xf xa]) (fun v ps => (ps = [wdP cs h r g tf ta pf na ma wa cf ca ef ea xf xa]) ∧ (1 ≤ v.toInt) ∧ (v.toInt ≤ 2 * (hi - lo)) ∧ (HgB na ma0 ma (tkl na ma0 ca) d p0 v.toInt) ∧ (RL_mp_height d na ma ca p0 v))
set_option maxHeartbeats 4000000 in
set_option maxRecDepth 100000 in
theorem c_mp_height (l : Launch) (D : va_G) (cs : Nat → ClassId) (ma0 : Nat → Nat → Int32) (ys : Int) (ns : Int) (nf : Int) (d : Nat) (lo : Int) (hi : Int) (V : Nat → Nat → Prop) (vl : Int) (vh : Int) (h : Nat) (r : Nat → Nat) (g : Nat → Nat → Option Nat) (tf : Nat → Int32) (ta : Nat → Nat → Int32) (pf : Nat → Int32) (na : Nat → Nat → Int32) (ma : Nat → Nat → Int32) (wa : Nat → Nat → Int32) (cf : Nat → Int32) (ca : Nat → Nat → Int32) (ef : Nat → Int32) (ea : Nat → Nat → Int32) (xf : Nat → Int32) (xa : Nat → Nat → Int32) (p0 : Int32)  (g0 : 0 ≤ lo) (g1 : hi ≤ (pf 13).toInt) (g2 : (pf 13).toInt ≤ 2100) (g3 : (tf 6).toInt ≤ 2049) (g4 : (cf 38).toInt = nf) (g5 : 0 ≤ nf) (htk : TkI tf ta) (hft : FnT (tf 6).toInt na ca (cf 38).toInt) (hfp : FnP na ca nf) (han : Ann na ma0 ma) (hts : Ts (Gk ta ca na ma0 ns ys nf) na ma vl vh V) (hec : EcV ta (tf 6).toInt na ma0 (d + 1) lo hi p0) (hvn : V p0.toNatClampNeg 0) (hLH : HtC l D cs d) : MetI l y_Mpg_height b_Mpg_height 12 (.int) D cs (2 * (d + 1) + 8) (100 * (d + 1) + 260) (0) (0) [.ref h, .int p0] [wdP cs h r g tf ta pf na ma wa cf ca ef ea xf xa] (oX (fun A U H => (oP A g U H)) [wdP cs h r g tf ta pf na ma wa cf ca ef ea xf xa]) (fun v ps => (ps = [wdP cs h r g tf ta pf na ma wa cf ca ef ea xf xa]) ∧ (1 ≤ v.toInt) ∧ (v.toInt ≤ 2 * (hi - lo)) ∧ (HgB na ma0 ma (tkl na ma0 ca) (d + 1) p0 v.toInt) ∧ (R_mp_height (RL_mp_height d) na ma ca p0 v)) := by
  refine px_enter (by decide) (Nat.le_of_ble_eq_true rfl) ?_
  intro p e s m below meth c A ls hAe S hr hlk hnm hA hT hX hw hl
  have hl : lv_has ls 12 [(0, .ref h), (1, .int p0)] := hl
  have lp0 := Int32.le_toInt p0
  have up0 := Int32.toInt_lt p0
  have cstm1 : ((-1) : Int32).toInt = (-1) := rfl
  have cst0 : (0 : Int32).toInt = 0 := rfl
  have cst1 : (1 : Int32).toInt = 1 := rfl
  have cst2 : (2 : Int32).toInt = 2 := rfl
  have cst4 : (4 : Int32).toInt = 4 := rfl
  have cst100 : (100 : Int32).toInt = 100 := rfl
  have cst105 : (105 : Int32).toInt = 105 := rfl
  have cst107 : (107 : Int32).toInt = 107 := rfl
  have hX : (fun A U H => (oP A g U H)) A s s.heap := by rw [hAe]; exact hX
  have hP := hX
  have hZ := hP.1
  have hF0 := hP.2.1
  have hf11 := hft.1
  have hec_p0 := hec
  have hrg := EcV.rng hec
  have hlc := Ts.e hts hvn
  have hvn_p0 := hvn
  have hce0 : (na 14 p0.toNatClampNeg).toInt = 3 → CeN nf (ma 18 p0.toNatClampNeg).toInt := fun q => (LcE.k3 hlc q).1
  have J91 : ∀ (n_91 : Nat)  (mid_91 : Int) (x91_2 x91_3 x91_4 x91_5 x91_6 : Int32) (H : Heap) (locs : List Loc) (ls : Array Slot), (1 ≤ x91_2.toInt) → (x91_2.toInt ≤ 2 * (hi - lo)) → (0 ≤ x91_3.toInt) → (x91_3.toInt ≤ 2 * x91_5.toInt) → (0 ≤ x91_4.toInt) → (x91_4.toInt ≤ 1) → (x91_4.toInt = 1 → (ma 18 p0.toNatClampNeg).toInt < 100) → (x91_4.toInt = 0 → 100 ≤ (ma 18 p0.toNatClampNeg).toInt) → (0 ≤ x91_5.toInt) → (x91_5.toInt + p0.toInt + 1 ≤ mid_91) → (p0.toInt + 1 ≤ mid_91) → (mid_91 ≤ hi) → ((na 14 p0.toNatClampNeg).toInt = 3) → (RcR ta (tf 6).toInt na ma0 d mid_91 hi x91_6) → (AgV na V (tkl na ma0 ca (ma 18 p0.toNatClampNeg).toInt) x91_5.toInt x91_6) → (HaS na ma0 ma ca d (ma 18 p0.toNatClampNeg).toInt (na 17 p0.toNatClampNeg) x91_5.toInt x91_3.toInt x91_6 x91_2.toInt) → (x91_3.toInt ≤ x91_2.toInt) → (K_mp_height_91 (RL_mp_height d) na ma ca p0 x91_2 x91_3 x91_4 x91_5 x91_6) → hi - mid_91 < (n_91 : Int) → pw D A s.heap H locs [wdP cs h r g tf ta pf na ma wa cf ca ef ea xf xa] → lv_has ls 12 [(0, .ref h), (1, .int p0), (2, .int x91_2), (3, .int x91_3), (4, .int x91_4), (5, .int x91_5), (6, .int x91_6)] → W p l e { frames := (2 * (d + 1) + 8), cells := 0, slots := 0, locals := (100 * (d + 1) + 260) } s m [.ref h, .int p0].toArray below meth c H locs 0 0 (MQ below (va_Qi (fun v ps => (ps = [wdP cs h r g tf ta pf na ma wa cf ca ef ea xf xa]) ∧ (1 ≤ v.toInt) ∧ (v.toInt ≤ 2 * (hi - lo)) ∧ (HgB na ma0 ma (tkl na ma0 ca) (d + 1) p0 v.toInt) ∧ (R_mp_height (RL_mp_height d) na ma ca p0 v)) (pc_B D (va_A ([wdP cs h r g tf ta pf na ma wa cf ca ef ea xf xa] : List va_W).flatten s.heap.size)) (va_A ([wdP cs h r g tf ta pf na ma wa cf ca ef ea xf xa] : List va_W).flatten s.heap.size)) [.ref h, .int p0].toArray s 0 0 A) (F0 m 91 ls []) := by
    intro  n_91
    induction n_91 with
    | zero =>
      intro mid_91 x91_2 x91_3 x91_4 x91_5 x91_6 H locs ls k91_0 k91_1 k91_2 k91_3 k91_4 k91_5 k91_6 k91_7 k91_8 k91_9 k91_10 k91_11 k91_12 k91_13 k91_14 k91_15 k91_16 k91_17 hm hw hl
      have lx91_2 := Int32.le_toInt x91_2
      have ux91_2 := Int32.toInt_lt x91_2
      have lx91_3 := Int32.le_toInt x91_3
      have ux91_3 := Int32.toInt_lt x91_3
      have lx91_4 := Int32.le_toInt x91_4
      have ux91_4 := Int32.toInt_lt x91_4
      have lx91_5 := Int32.le_toInt x91_5
      have ux91_5 := Int32.toInt_lt x91_5
      have lx91_6 := Int32.le_toInt x91_6
      have ux91_6 := Int32.toInt_lt x91_6
      have hrr := k91_13
      have hag := k91_14
      have has := k91_15
      exact absurd hm (by omega)
    | succ n_91 ih91 =>
      intro mid_91 x91_2 x91_3 x91_4 x91_5 x91_6 H locs ls k91_0 k91_1 k91_2 k91_3 k91_4 k91_5 k91_6 k91_7 k91_8 k91_9 k91_10 k91_11 k91_12 k91_13 k91_14 k91_15 k91_16 k91_17 hm hw hl
      have lx91_2 := Int32.le_toInt x91_2
      have ux91_2 := Int32.toInt_lt x91_2
      have lx91_3 := Int32.le_toInt x91_3
      have ux91_3 := Int32.toInt_lt x91_3
      have lx91_4 := Int32.le_toInt x91_4
      have ux91_4 := Int32.toInt_lt x91_4
      have lx91_5 := Int32.le_toInt x91_5
      have ux91_5 := Int32.toInt_lt x91_5
      have lx91_6 := Int32.le_toInt x91_6
      have ux91_6 := Int32.toInt_lt x91_6
      have hrr := k91_13
      have hag := k91_14
      have has := k91_15
      refine lv_iload S.x S.b d_Mpg_height_91 (lv_at hl 6 rfl) ?_
      refine lv_if_lt (tgt := 227) S.x S.b d_Mpg_height_93 (by decide) (fun c1 => ?_) (fun c1 => ?_)
      · have nc1 : x91_6.toInt < (0 : Int) := (i_lt (x := x91_6) (y := 0)).mp c1
        refine lv_iload_n S.x S.b d_Mpg_height_227 rfl (lv_at hl 2 rfl) ?_
        first | exact px_iret (v := x91_2) S hr rfl hlk hAe hw (Nat.le_of_ble_eq_true rfl) (Nat.le_of_ble_eq_true rfl) (⟨rfl, (show 1 ≤ x91_2.toInt from k91_0), (show x91_2.toInt ≤ 2 * (hi - lo) from k91_1), (show HgB na ma0 ma (tkl na ma0 ca) (d + 1) p0 x91_2.toInt from (has.elim fun m9 g9 => ⟨by omega, Or.inr (Or.inr (Or.inl (⟨by omega, m9, g9.fin (by omega) (by omega)⟩)))⟩)), (show R_mp_height (RL_mp_height d) na ma ca p0 x91_2 from (k91_17 _ 1 (Or.inr (Or.inl ⟨rfl, x91_2, x91_3, x91_4, x91_5, x91_6, rfl, rfl, rfl, rfl, rfl, Or.inl ⟨nc1, rfl⟩⟩))))⟩) d_Mpg_height_228 | (exact px_iret (v := x91_2) S hr rfl hlk hAe hw (Nat.le_of_ble_eq_true rfl) (Nat.le_of_ble_eq_true rfl) (⟨rfl, (show 1 ≤ x91_2.toInt from by first | exact k91_0 | omega), (show x91_2.toInt ≤ 2 * (hi - lo) from by first | exact k91_1 | omega), (show HgB na ma0 ma (tkl na ma0 ca) (d + 1) p0 x91_2.toInt from (has.elim fun m9 g9 => ⟨by omega, Or.inr (Or.inr (Or.inl (⟨by omega, m9, g9.fin (by omega) (by omega)⟩)))⟩)), (show R_mp_height (RL_mp_height d) na ma ca p0 x91_2 from (k91_17 _ 1 (Or.inr (Or.inl ⟨rfl, x91_2, x91_3, x91_4, x91_5, x91_6, rfl, rfl, rfl, rfl, rfl, Or.inl ⟨nc1, rfl⟩⟩))))⟩) d_Mpg_height_228)
      · have nc1 : ¬ x91_6.toInt < (0 : Int) := mt (i_lt (x := x91_6) (y := 0)).mpr c1
        refine lv_iload S.x S.b d_Mpg_height_96 (lv_at hl 4 rfl) ?_
        have hce := hce0 (by omega); have hce1 := hce; unfold CeN at hce1
        obtain ⟨md3, hm1_md3, hm2_md3, hec_x91_6, hx3_md3, hrr2⟩ := RcE.step hrr (by omega); obtain ⟨hag1, hag2, hag3⟩ := AgV.go hag (by omega) (by omega) (k' := x91_5.toInt + 1) rfl rfl
        refine lv_if_eq (tgt := 117) S.x S.b d_Mpg_height_98 (by decide) (fun c4 => ?_) (fun c4 => ?_)
        · have nc4 : x91_4.toInt = (0 : Int) := (i_eq (x := x91_4) (y := 0)).mp c4
          refine lv_aload_n S.x S.b d_Mpg_height_117 rfl (lv_at hl 0 rfl) ?_
          refine lv_aload_n S.x S.b d_Mpg_height_118 rfl (lv_at hl 0 rfl) ?_
          refine gP_18 S hT hw 0 rfl m10_3 d_Mpg_height_119 ?_
          refine lv_iload_n S.x S.b d_Mpg_height_122 rfl (lv_at hl 1 rfl) ?_
          refine px_iald S hT hw 0 14 (n := 2100) (f := (ma 18)) rfl gp_18 (x := p0) (vp_in_iff.mpr (by first | exact oz_a7e05de1cd hrg.2.2 hrg.2.1 g1 g2 | (constructor <;> omega))) d_Mpg_height_123 ?_
          refine lv_topi (fun z6 ez6 => ?_)
          have lz6 := Int32.le_toInt z6
          have uz6 := Int32.toInt_lt z6
          have rz6 : z6.toInt = (ma 18 p0.toNatClampNeg).toInt := by rw [ez6]
          refine lv_bipush (v := 100) S.x S.b d_Mpg_height_124 (by decide) ?_
          refine lv_isub S.x S.b d_Mpg_height_126 ?_
          refine lv_topi (fun z7 ez7 => ?_)
          have tz7 : z7.toInt = (z6.toInt - (100 : Int) + 2147483648) % 4294967296 - 2147483648 := by rw [ez7]; exact i_sub z6 100
          have lz7 := Int32.le_toInt z7
          have uz7 := Int32.toInt_lt z7
          try replace tz7 : z7.toInt = z6.toInt - (100 : Int) := by omega
          refine lv_iconst (v := (-1)) S.x S.b d_Mpg_height_127 (by decide) ?_
          refine lv_iload S.x S.b d_Mpg_height_128 (lv_at hl 5 rfl) ?_
          first | refine px_calli (pr := []) (px_runV (As := [.int z7, .int (-1), .int x91_5]) (rest := []) S (c_mp_taken l D cs h r g tf ta pf na ma wa cf ca ef ea xf xa z7 (-1) x91_5  (show -1 ≤ z7.toInt from (oz_cb73ed35de tz7 rz6 nc4 k91_4 k91_7)) (show z7.toInt < (cf 38).toInt from by omega) (show z7.toInt < 0 → 0 ≤ (-1 : Int) ∧ (-1 : Int) < 10 from by omega) (show 0 ≤ x91_5.toInt from k91_8) (show x91_5.toInt ≤ 4000 from (oz_2634073f30 k91_9 hrg.2.2 k91_11 g1 g2)) (show 0 ≤ (cf 38).toInt from (oz_f3ebed1ad0 g4 g5)) htk (FnT.eq hft (by omega)) (FnP.eq hfp (by omega)) _) hT (pr := []) (pcs := [wdP cs h r g tf ta pf na ma wa cf ca ef ea xf xa]) hw (oX_call (P := (fun A U H => (oP A g U H))) (pr := []) oG_P hw hA hP) (px_recv hT hw 0 0 rfl rfl rfl) m12_229 m12_226 m12_228 ms_12_10 m1_21 q_Mpg_taken ⟨show 4 + 1 ≤ (2 * (d + 1) + 8) from (oz_4348681efe), show 8 + (6 + 11) + 140 ≤ (100 * (d + 1) + 260) from (oz_c7f1ce075b)⟩ hl.1 rfl (Nat.le_of_ble_eq_true rfl) d_Mpg_height_130 ⟨Nat.le_of_ble_eq_true rfl, Nat.le_of_ble_eq_true rfl⟩) hw hA (fun v9 p8 H locs hp8 hw => ?_) | (refine px_calli (pr := []) (px_runV (As := [.int z7, .int (-1), .int x91_5]) (rest := []) S (c_mp_taken l D cs h r g tf ta pf na ma wa cf ca ef ea xf xa z7 (-1) x91_5  (show -1 ≤ z7.toInt from by first | exact oz_cb73ed35de tz7 rz6 nc4 k91_4 k91_7 | omega) (show z7.toInt < (cf 38).toInt from by omega) (show z7.toInt < 0 → 0 ≤ (-1 : Int) ∧ (-1 : Int) < 10 from by omega) (show 0 ≤ x91_5.toInt from by first | exact k91_8 | omega) (show x91_5.toInt ≤ 4000 from by first | exact oz_2634073f30 k91_9 hrg.2.2 k91_11 g1 g2 | omega) (show 0 ≤ (cf 38).toInt from by first | exact oz_f3ebed1ad0 g4 g5 | omega) htk (FnT.eq hft (by omega)) (FnP.eq hfp (by omega)) _) hT (pr := []) (pcs := [wdP cs h r g tf ta pf na ma wa cf ca ef ea xf xa]) hw (oX_call (P := (fun A U H => (oP A g U H))) (pr := []) oG_P hw hA hP) (px_recv hT hw 0 0 rfl rfl rfl) m12_229 m12_226 m12_228 ms_12_10 m1_21 q_Mpg_taken ⟨show 4 + 1 ≤ (2 * (d + 1) + 8) from (by first | exact oz_4348681efe | omega), show 8 + (6 + 11) + 140 ≤ (100 * (d + 1) + 260) from (by first | exact oz_c7f1ce075b | omega)⟩ hl.1 rfl (Nat.le_of_ble_eq_true rfl) d_Mpg_height_130 ⟨Nat.le_of_ble_eq_true rfl, Nat.le_of_ble_eq_true rfl⟩) hw hA (fun v9 p8 H locs hp8 hw => ?_))
          obtain ⟨rfl, e10, e11⟩ := hp8
          have e10 : TkV na ma ca z7.toInt (-1 : Int) x91_5.toInt v9.toInt := e10
          have e11 : R_mp_taken na ma ca z7 (-1 : Int32) x91_5 v9 := e11
          have lv9 := Int32.le_toInt v9
          have uv9 := Int32.toInt_lt v9
          have hcd_130 : cod z7.toInt (-1 : Int) = (ma 18 p0.toNatClampNeg).toInt := (by unfold cod; first | (rw [if_pos (by omega)]; omega) | (rw [if_neg (by omega)]; omega)); have hcn_130 : CeN nf (cod z7.toInt (-1 : Int)) := (by rw [hcd_130]; exact hce); have htv_130 := tkv_at (ta := ta) (ns := ns) (ys := ys) e10 han hfp hcn_130; have htg_130 := tkv_rng e10 hcn_130; rw [hcd_130] at htv_130
          refine lv_istore (lv' := [(7, .int v9), (0, .ref h), (1, .int p0), (2, .int x91_2), (3, .int x91_3), (4, .int x91_4), (5, .int x91_5), (6, .int x91_6)]) S.x S.b d_Mpg_height_133 hl (by decide) rfl (fun ls hl => ?_)
          refine lv_iload S.x S.b d_Mpg_height_135 (lv_at hl 0 rfl) ?_
          refine lv_bipush (v := 105) S.x S.b d_Mpg_height_137 (by decide) ?_
          refine lv_icmp_eq (tgt := 153) S.x S.b d_Mpg_height_139 (by decide) (fun c12 => ?_) (fun c12 => ?_)
          · have nc12 : v9.toInt = (105 : Int) := (i_eq (x := v9) (y := 105)).mp c12
            refine lv_iconst (v := 0) S.x S.b d_Mpg_height_153 (by decide) ?_
            refine lv_istore (lv' := [(8, .int 0), (7, .int v9), (0, .ref h), (1, .int p0), (2, .int x91_2), (3, .int x91_3), (4, .int x91_4), (5, .int x91_5), (6, .int x91_6)]) S.x S.b d_Mpg_height_154 hl (by decide) rfl (fun ls hl => ?_)
            refine lv_iload_n S.x S.b d_Mpg_height_156 rfl (lv_at hl 5 rfl) ?_
            refine lv_iload S.x S.b d_Mpg_height_157 (lv_at hl 0 rfl) ?_
            refine lv_if_eq (tgt := 166) S.x S.b d_Mpg_height_159 (by decide) (fun c14 => ?_) (fun c14 => ?_)
            ·
              refine lv_iload S.x S.b d_Mpg_height_166 (lv_at hl 1 rfl) ?_
              refine lv_bipush (v := 107) S.x S.b d_Mpg_height_168 (by decide) ?_
              refine lv_icmp_ne (tgt := 177) S.x S.b d_Mpg_height_170 (by decide) (fun c15 => ?_) (fun c15 => ?_)
              · have nc15 : ¬ v9.toInt = (107 : Int) := mt (i_eq (x := v9) (y := 107)).mpr c15
                refine lv_aload_n S.x S.b d_Mpg_height_177 rfl (lv_at hl 2 rfl) ?_
                refine lv_iload S.x S.b d_Mpg_height_178 (lv_at hl 8 rfl) ?_
                have hvn_x91_6 : V x91_6.toNatClampNeg 0 := AgV.v0 hag2 (htv_130.symm.trans (by omega))
                first | refine px_calli (pr := []) (px_runV (As := [.int x91_6]) (rest := [.int x91_3]) S (hLH ma0 ys ns nf mid_91 md3 V vl vh h r g tf ta pf na ma wa cf ca ef ea xf xa x91_6 (show 0 ≤ mid_91 from (oz_06d7f15a5c k91_10 hrg.2.2)) (show md3 ≤ (pf 13).toInt from (oz_bbb5b20c1a g1 hm2_md3)) (show (pf 13).toInt ≤ 2100 from g2) (show (tf 6).toInt ≤ 2049 from g3) (show (cf 38).toInt = nf from g4) (show 0 ≤ nf from g5) htk (FnT.eq hft (by omega)) hfp han hts hec_x91_6 hvn_x91_6 _) hT (pr := []) (pcs := [wdP cs h r g tf ta pf na ma wa cf ca ef ea xf xa]) hw (oX_call (P := (fun A U H => (oP A g U H))) (pr := []) oG_P hw hA hP) (px_recv hT hw 0 0 rfl rfl rfl) m13_65 m13_62 m13_64 ms_13_13 m1_21 q_Mpg_height ⟨show (2 * d + 8) + 1 ≤ (2 * (d + 1) + 8) from (oz_07fbb325ca), show 8 + (12 + 11) + (100 * d + 260) ≤ (100 * (d + 1) + 260) from (oz_22f1a200d8)⟩ hl.1 rfl (Nat.le_of_ble_eq_true rfl) d_Mpg_height_180 ⟨Nat.le_of_ble_eq_true rfl, Nat.le_of_ble_eq_true rfl⟩) hw hA (fun v18 p17 H locs hp17 hw => ?_) | (refine px_calli (pr := []) (px_runV (As := [.int x91_6]) (rest := [.int x91_3]) S (hLH ma0 ys ns nf mid_91 md3 V vl vh h r g tf ta pf na ma wa cf ca ef ea xf xa x91_6 (show 0 ≤ mid_91 from by first | exact oz_06d7f15a5c k91_10 hrg.2.2 | omega) (show md3 ≤ (pf 13).toInt from by first | exact oz_bbb5b20c1a g1 hm2_md3 | omega) (show (pf 13).toInt ≤ 2100 from by first | exact g2 | omega) (show (tf 6).toInt ≤ 2049 from by first | exact g3 | omega) (show (cf 38).toInt = nf from by first | exact g4 | omega) (show 0 ≤ nf from by first | exact g5 | omega) htk (FnT.eq hft (by omega)) hfp han hts hec_x91_6 hvn_x91_6 _) hT (pr := []) (pcs := [wdP cs h r g tf ta pf na ma wa cf ca ef ea xf xa]) hw (oX_call (P := (fun A U H => (oP A g U H))) (pr := []) oG_P hw hA hP) (px_recv hT hw 0 0 rfl rfl rfl) m13_65 m13_62 m13_64 ms_13_13 m1_21 q_Mpg_height ⟨show (2 * d + 8) + 1 ≤ (2 * (d + 1) + 8) from (by first | exact oz_07fbb325ca | omega), show 8 + (12 + 11) + (100 * d + 260) ≤ (100 * (d + 1) + 260) from (by first | exact oz_22f1a200d8 | omega)⟩ hl.1 rfl (Nat.le_of_ble_eq_true rfl) d_Mpg_height_180 ⟨Nat.le_of_ble_eq_true rfl, Nat.le_of_ble_eq_true rfl⟩) hw hA (fun v18 p17 H locs hp17 hw => ?_))
                obtain ⟨rfl, e19, e20, e21, e22⟩ := hp17
                have e19 : 1 ≤ v18.toInt := e19
                have e20 : v18.toInt ≤ 2 * (md3 - mid_91) := e20
                have e21 : HgB na ma0 ma (tkl na ma0 ca) d x91_6 v18.toInt := e21
                have e22 : RL_mp_height d na ma ca x91_6 v18 := e22
                have lv18 := Int32.le_toInt v18
                have uv18 := Int32.toInt_lt v18
                refine lv_iadd S.x S.b d_Mpg_height_183 ?_
                refine lv_topi (fun z23 ez23 => ?_)
                have tz23 : z23.toInt = (x91_3.toInt + v18.toInt + 2147483648) % 4294967296 - 2147483648 := by rw [ez23]; exact i_add x91_3 v18
                have lz23 := Int32.le_toInt z23
                have uz23 := Int32.toInt_lt z23
                try replace tz23 : z23.toInt = x91_3.toInt + v18.toInt := by omega
                refine lv_istore (lv' := [(9, .int z23), (8, .int 0), (7, .int v9), (0, .ref h), (1, .int p0), (2, .int x91_2), (3, .int x91_3), (4, .int x91_4), (5, .int x91_5), (6, .int x91_6)]) S.x S.b d_Mpg_height_184 hl (by decide) rfl (fun ls hl => ?_)
                refine lv_iload S.x S.b d_Mpg_height_186 (lv_at hl 0 rfl) ?_
                refine lv_iload_n S.x S.b d_Mpg_height_188 rfl (lv_at hl 5 rfl) ?_
                refine lv_icmp_le (tgt := 197) S.x S.b d_Mpg_height_189 (by decide) (fun c24 => ?_) (fun c24 => ?_)
                · have nc24 : z23.toInt ≤ x91_2.toInt := (i_le (x := z23) (y := x91_2)).mp c24
                  refine lv_iload_n S.x S.b d_Mpg_height_197 rfl (lv_at hl 5 rfl) ?_
                  refine lv_istore_n (lv' := [(2, .int x91_2), (9, .int z23), (8, .int 0), (7, .int v9), (0, .ref h), (1, .int p0), (3, .int x91_3), (4, .int x91_4), (5, .int x91_5), (6, .int x91_6)]) S.x S.b d_Mpg_height_198 rfl hl (by decide) rfl (fun ls hl => ?_)
                  refine lv_iload_n S.x S.b d_Mpg_height_199 rfl (lv_at hl 6 rfl) ?_
                  refine lv_iload S.x S.b d_Mpg_height_200 (lv_at hl 2 rfl) ?_
                  refine lv_if_eq (tgt := 209) S.x S.b d_Mpg_height_202 (by decide) (fun c26 => ?_) (fun c26 => ?_)
                  ·
                    refine lv_iconst (v := 1) S.x S.b d_Mpg_height_209 (by decide) ?_
                    refine lv_iadd S.x S.b d_Mpg_height_210 ?_
                    refine lv_topi (fun z27 ez27 => ?_)
                    have tz27 : z27.toInt = (x91_3.toInt + (1 : Int) + 2147483648) % 4294967296 - 2147483648 := by rw [ez27]; exact i_add x91_3 1
                    have lz27 := Int32.le_toInt z27
                    have uz27 := Int32.toInt_lt z27
                    try replace tz27 : z27.toInt = x91_3.toInt + (1 : Int) := by omega
                    refine lv_istore_n (lv' := [(3, .int z27), (2, .int x91_2), (9, .int z23), (8, .int 0), (7, .int v9), (0, .ref h), (1, .int p0), (4, .int x91_4), (5, .int x91_5), (6, .int x91_6)]) S.x S.b d_Mpg_height_211 rfl hl (by decide) rfl (fun ls hl => ?_)
                    obtain ⟨z28, ez28⟩ : ∃ y : Int32, y = x91_5 + 1 := ⟨_, rfl⟩
                    have tz28 : z28.toInt = (x91_5.toInt + 1 + 2147483648) % 4294967296 - 2147483648 := by rw [ez28]; exact i_add x91_5 1
                    have lz28 := Int32.le_toInt z28
                    have uz28 := Int32.toInt_lt z28
                    try replace tz28 : z28.toInt = x91_5.toInt + 1 := by omega
                    refine lv_iinc (v := z28) (lv' := [(5, .int z28), (3, .int z27), (2, .int x91_2), (9, .int z23), (8, .int 0), (7, .int v9), (0, .ref h), (1, .int p0), (4, .int x91_4), (6, .int x91_6)]) S.x S.b d_Mpg_height_212 hl (k := 8) rfl (by rw [ez28]; rfl) (by decide) rfl (fun ls hl => ?_)
                    refine lv_aload_n S.x S.b d_Mpg_height_215 rfl (lv_at hl 6 rfl) ?_
                    refine gP_21 S hT hw 0 rfl m10_7 d_Mpg_height_216 ?_
                    refine lv_iload S.x S.b d_Mpg_height_219 (lv_at hl 9 rfl) ?_
                    refine px_iald S hT hw 0 17 (n := 2100) (f := (na 21)) rfl gp_21 (x := x91_6) (vp_in_iff.mpr (by constructor <;> omega)) d_Mpg_height_221 ?_
                    refine lv_topi (fun z29 ez29 => ?_)
                    have lz29 := Int32.le_toInt z29
                    have uz29 := Int32.toInt_lt z29
                    refine lv_istore (lv' := [(6, .int z29), (5, .int z28), (3, .int z27), (2, .int x91_2), (9, .int z23), (8, .int 0), (7, .int v9), (0, .ref h), (1, .int p0), (4, .int x91_4)]) S.x S.b d_Mpg_height_222 hl (by decide) rfl (fun ls hl => ?_)
                    refine lv_goto (tgt := 91) S.x S.b d_Mpg_height_224 (by decide) ?_
                    first | exact ih91 md3 x91_2 z27 x91_4 z28 z29 _ _ ls (show 1 ≤ x91_2.toInt from k91_0) (show x91_2.toInt ≤ 2 * (hi - lo) from k91_1) (show 0 ≤ z27.toInt from (oz_b3b25f0e49 tz27 k91_2)) (show z27.toInt ≤ 2 * z28.toInt from (oz_82982fc7e4 tz27 tz28 k91_3)) (show 0 ≤ x91_4.toInt from k91_4) (show x91_4.toInt ≤ 1 from k91_5) (show x91_4.toInt = 1 → (ma 18 p0.toNatClampNeg).toInt < 100 from k91_6) (show x91_4.toInt = 0 → 100 ≤ (ma 18 p0.toNatClampNeg).toInt from k91_7) (show 0 ≤ z28.toInt from (oz_ae613611c0 tz28 k91_8)) (show z28.toInt + p0.toInt + 1 ≤ md3 from (oz_f2f12181a2 k91_9 e20 tz28 e19)) (show p0.toInt + 1 ≤ md3 from (oz_03606900a4 k91_10 e20 e19)) (show md3 ≤ hi from hm2_md3) (show (na 14 p0.toNatClampNeg).toInt = 3 from k91_12) (show RcR ta (tf 6).toInt na ma0 d md3 hi z29 from (by rw [ez29]; exact hrr2)) (show AgV na V (tkl na ma0 ca (ma 18 p0.toNatClampNeg).toInt) z28.toInt z29 from (by rw [ez29, show z28.toInt = x91_5.toInt + 1 by omega]; exact hag3)) (show HaS na ma0 ma ca d (ma 18 p0.toNatClampNeg).toInt (na 17 p0.toNatClampNeg) z28.toInt z27.toInt z29 x91_2.toInt from (HaS.nx (v := v18.toInt) has (by omega) (by omega) (by omega) (by omega) htv_130 (fun q => ⟨e21, by omega, by omega⟩) (fun q => ⟨by omega, by omega⟩) ez29)) (show z27.toInt ≤ x91_2.toInt from (oz_d06cdef794 nc24 tz27 tz23 e19)) (show K_mp_height_91 (RL_mp_height d) na ma ca p0 x91_2 z27 x91_4 z28 z29 from (fun y_v k hE => k91_17 y_v (k + 1) (Or.inr (Or.inl ⟨rfl, x91_2, x91_3, x91_4, x91_5, x91_6, rfl, rfl, rfl, rfl, rfl, Or.inr ⟨nc1, Or.inl ⟨nc4, z6, ez6, z7, ez7, v9, e11, Or.inl ⟨nc12, nc15, v18, e22, z23, ez23, Or.inl ⟨nc24, z27, ez27, z28, ez28, z29, ez29, hE⟩⟩⟩⟩⟩)))) (show hi - md3 < (n_91 : Int) from (oz_9009d237ba hm e20 e19)) hw (lv_sub hl [7, 8, 3, 2, 9, 1, 0] rfl) | (exact ih91 md3 x91_2 z27 x91_4 z28 z29 _ _ ls (show 1 ≤ x91_2.toInt from by first | exact k91_0 | omega) (show x91_2.toInt ≤ 2 * (hi - lo) from by first | exact k91_1 | omega) (show 0 ≤ z27.toInt from by first | exact oz_b3b25f0e49 tz27 k91_2 | omega) (show z27.toInt ≤ 2 * z28.toInt from by first | exact oz_82982fc7e4 tz27 tz28 k91_3 | omega) (show 0 ≤ x91_4.toInt from by first | exact k91_4 | omega) (show x91_4.toInt ≤ 1 from by first | exact k91_5 | omega) (show x91_4.toInt = 1 → (ma 18 p0.toNatClampNeg).toInt < 100 from by first | exact k91_6 | omega) (show x91_4.toInt = 0 → 100 ≤ (ma 18 p0.toNatClampNeg).toInt from by first | exact k91_7 | omega) (show 0 ≤ z28.toInt from by first | exact oz_ae613611c0 tz28 k91_8 | omega) (show z28.toInt + p0.toInt + 1 ≤ md3 from by first | exact oz_f2f12181a2 k91_9 e20 tz28 e19 | omega) (show p0.toInt + 1 ≤ md3 from by first | exact oz_03606900a4 k91_10 e20 e19 | omega) (show md3 ≤ hi from by first | exact hm2_md3 | omega) (show (na 14 p0.toNatClampNeg).toInt = 3 from by first | exact k91_12 | omega) (show RcR ta (tf 6).toInt na ma0 d md3 hi z29 from (by rw [ez29]; exact hrr2)) (show AgV na V (tkl na ma0 ca (ma 18 p0.toNatClampNeg).toInt) z28.toInt z29 from (by rw [ez29, show z28.toInt = x91_5.toInt + 1 by omega]; exact hag3)) (show HaS na ma0 ma ca d (ma 18 p0.toNatClampNeg).toInt (na 17 p0.toNatClampNeg) z28.toInt z27.toInt z29 x91_2.toInt from (HaS.nx (v := v18.toInt) has (by omega) (by omega) (by omega) (by omega) htv_130 (fun q => ⟨e21, by omega, by omega⟩) (fun q => ⟨by omega, by omega⟩) ez29)) (show z27.toInt ≤ x91_2.toInt from by first | exact oz_d06cdef794 nc24 tz27 tz23 e19 | omega) (show K_mp_height_91 (RL_mp_height d) na ma ca p0 x91_2 z27 x91_4 z28 z29 from (fun y_v k hE => k91_17 y_v (k + 1) (Or.inr (Or.inl ⟨rfl, x91_2, x91_3, x91_4, x91_5, x91_6, rfl, rfl, rfl, rfl, rfl, Or.inr ⟨nc1, Or.inl ⟨nc4, z6, ez6, z7, ez7, v9, e11, Or.inl ⟨nc12, nc15, v18, e22, z23, ez23, Or.inl ⟨nc24, z27, ez27, z28, ez28, z29, ez29, hE⟩⟩⟩⟩⟩)))) (show hi - md3 < (n_91 : Int) from by first | exact oz_9009d237ba hm e20 e19 | omega) hw (lv_sub hl [7, 8, 3, 2, 9, 1, 0] rfl))
                  · exact absurd c26 (by decide)
                · have nc24 : ¬ z23.toInt ≤ x91_2.toInt := mt (i_le (x := z23) (y := x91_2)).mpr c24
                  refine lv_iload S.x S.b d_Mpg_height_192 (lv_at hl 0 rfl) ?_
                  refine lv_goto (tgt := 198) S.x S.b d_Mpg_height_194 (by decide) ?_
                  refine lv_istore_n (lv' := [(2, .int z23), (9, .int z23), (8, .int 0), (7, .int v9), (0, .ref h), (1, .int p0), (3, .int x91_3), (4, .int x91_4), (5, .int x91_5), (6, .int x91_6)]) S.x S.b d_Mpg_height_198 rfl hl (by decide) rfl (fun ls hl => ?_)
                  refine lv_iload_n S.x S.b d_Mpg_height_199 rfl (lv_at hl 6 rfl) ?_
                  refine lv_iload S.x S.b d_Mpg_height_200 (lv_at hl 2 rfl) ?_
                  refine lv_if_eq (tgt := 209) S.x S.b d_Mpg_height_202 (by decide) (fun c30 => ?_) (fun c30 => ?_)
                  ·
                    refine lv_iconst (v := 1) S.x S.b d_Mpg_height_209 (by decide) ?_
                    refine lv_iadd S.x S.b d_Mpg_height_210 ?_
                    refine lv_topi (fun z31 ez31 => ?_)
                    have tz31 : z31.toInt = (x91_3.toInt + (1 : Int) + 2147483648) % 4294967296 - 2147483648 := by rw [ez31]; exact i_add x91_3 1
                    have lz31 := Int32.le_toInt z31
                    have uz31 := Int32.toInt_lt z31
                    try replace tz31 : z31.toInt = x91_3.toInt + (1 : Int) := by omega
                    refine lv_istore_n (lv' := [(3, .int z31), (2, .int z23), (9, .int z23), (8, .int 0), (7, .int v9), (0, .ref h), (1, .int p0), (4, .int x91_4), (5, .int x91_5), (6, .int x91_6)]) S.x S.b d_Mpg_height_211 rfl hl (by decide) rfl (fun ls hl => ?_)
                    obtain ⟨z32, ez32⟩ : ∃ y : Int32, y = x91_5 + 1 := ⟨_, rfl⟩
                    have tz32 : z32.toInt = (x91_5.toInt + 1 + 2147483648) % 4294967296 - 2147483648 := by rw [ez32]; exact i_add x91_5 1
                    have lz32 := Int32.le_toInt z32
                    have uz32 := Int32.toInt_lt z32
                    try replace tz32 : z32.toInt = x91_5.toInt + 1 := by omega
                    refine lv_iinc (v := z32) (lv' := [(5, .int z32), (3, .int z31), (2, .int z23), (9, .int z23), (8, .int 0), (7, .int v9), (0, .ref h), (1, .int p0), (4, .int x91_4), (6, .int x91_6)]) S.x S.b d_Mpg_height_212 hl (k := 8) rfl (by rw [ez32]; rfl) (by decide) rfl (fun ls hl => ?_)
                    refine lv_aload_n S.x S.b d_Mpg_height_215 rfl (lv_at hl 6 rfl) ?_
                    refine gP_21 S hT hw 0 rfl m10_7 d_Mpg_height_216 ?_
                    refine lv_iload S.x S.b d_Mpg_height_219 (lv_at hl 9 rfl) ?_
                    refine px_iald S hT hw 0 17 (n := 2100) (f := (na 21)) rfl gp_21 (x := x91_6) (vp_in_iff.mpr (by constructor <;> omega)) d_Mpg_height_221 ?_
                    refine lv_topi (fun z33 ez33 => ?_)
                    have lz33 := Int32.le_toInt z33
                    have uz33 := Int32.toInt_lt z33
                    refine lv_istore (lv' := [(6, .int z33), (5, .int z32), (3, .int z31), (2, .int z23), (9, .int z23), (8, .int 0), (7, .int v9), (0, .ref h), (1, .int p0), (4, .int x91_4)]) S.x S.b d_Mpg_height_222 hl (by decide) rfl (fun ls hl => ?_)
                    refine lv_goto (tgt := 91) S.x S.b d_Mpg_height_224 (by decide) ?_
                    first | exact ih91 md3 z23 z31 x91_4 z32 z33 _ _ ls (show 1 ≤ z23.toInt from (oz_58d7b95763 nc24 k91_0)) (show z23.toInt ≤ 2 * (hi - lo) from (oz_07d5c453ac hrg.1 hm2_md3 tz23 k91_3 k91_9 e20)) (show 0 ≤ z31.toInt from (oz_b3b25f0e49 tz31 k91_2)) (show z31.toInt ≤ 2 * z32.toInt from (oz_82982fc7e4 tz31 tz32 k91_3)) (show 0 ≤ x91_4.toInt from k91_4) (show x91_4.toInt ≤ 1 from k91_5) (show x91_4.toInt = 1 → (ma 18 p0.toNatClampNeg).toInt < 100 from k91_6) (show x91_4.toInt = 0 → 100 ≤ (ma 18 p0.toNatClampNeg).toInt from k91_7) (show 0 ≤ z32.toInt from (oz_ae613611c0 tz32 k91_8)) (show z32.toInt + p0.toInt + 1 ≤ md3 from (oz_f2f12181a2 k91_9 e20 tz32 e19)) (show p0.toInt + 1 ≤ md3 from (oz_03606900a4 k91_10 e20 e19)) (show md3 ≤ hi from hm2_md3) (show (na 14 p0.toNatClampNeg).toInt = 3 from k91_12) (show RcR ta (tf 6).toInt na ma0 d md3 hi z33 from (by rw [ez33]; exact hrr2)) (show AgV na V (tkl na ma0 ca (ma 18 p0.toNatClampNeg).toInt) z32.toInt z33 from (by rw [ez33, show z32.toInt = x91_5.toInt + 1 by omega]; exact hag3)) (show HaS na ma0 ma ca d (ma 18 p0.toNatClampNeg).toInt (na 17 p0.toNatClampNeg) z32.toInt z31.toInt z33 z23.toInt from (HaS.nx (v := v18.toInt) has (by omega) (by omega) (by omega) (by omega) htv_130 (fun q => ⟨e21, by omega, by omega⟩) (fun q => ⟨by omega, by omega⟩) ez33)) (show z31.toInt ≤ z23.toInt from (oz_b2658c9b4e tz23 tz31 e19)) (show K_mp_height_91 (RL_mp_height d) na ma ca p0 z23 z31 x91_4 z32 z33 from (fun y_v k hE => k91_17 y_v (k + 1) (Or.inr (Or.inl ⟨rfl, x91_2, x91_3, x91_4, x91_5, x91_6, rfl, rfl, rfl, rfl, rfl, Or.inr ⟨nc1, Or.inl ⟨nc4, z6, ez6, z7, ez7, v9, e11, Or.inl ⟨nc12, nc15, v18, e22, z23, ez23, Or.inr ⟨nc24, z31, ez31, z32, ez32, z33, ez33, hE⟩⟩⟩⟩⟩)))) (show hi - md3 < (n_91 : Int) from (oz_9009d237ba hm e20 e19)) hw (lv_sub hl [7, 8, 3, 2, 9, 1, 0] rfl) | (exact ih91 md3 z23 z31 x91_4 z32 z33 _ _ ls (show 1 ≤ z23.toInt from by first | exact oz_58d7b95763 nc24 k91_0 | omega) (show z23.toInt ≤ 2 * (hi - lo) from by first | exact oz_07d5c453ac hrg.1 hm2_md3 tz23 k91_3 k91_9 e20 | omega) (show 0 ≤ z31.toInt from by first | exact oz_b3b25f0e49 tz31 k91_2 | omega) (show z31.toInt ≤ 2 * z32.toInt from by first | exact oz_82982fc7e4 tz31 tz32 k91_3 | omega) (show 0 ≤ x91_4.toInt from by first | exact k91_4 | omega) (show x91_4.toInt ≤ 1 from by first | exact k91_5 | omega) (show x91_4.toInt = 1 → (ma 18 p0.toNatClampNeg).toInt < 100 from by first | exact k91_6 | omega) (show x91_4.toInt = 0 → 100 ≤ (ma 18 p0.toNatClampNeg).toInt from by first | exact k91_7 | omega) (show 0 ≤ z32.toInt from by first | exact oz_ae613611c0 tz32 k91_8 | omega) (show z32.toInt + p0.toInt + 1 ≤ md3 from by first | exact oz_f2f12181a2 k91_9 e20 tz32 e19 | omega) (show p0.toInt + 1 ≤ md3 from by first | exact oz_03606900a4 k91_10 e20 e19 | omega) (show md3 ≤ hi from by first | exact hm2_md3 | omega) (show (na 14 p0.toNatClampNeg).toInt = 3 from by first | exact k91_12 | omega) (show RcR ta (tf 6).toInt na ma0 d md3 hi z33 from (by rw [ez33]; exact hrr2)) (show AgV na V (tkl na ma0 ca (ma 18 p0.toNatClampNeg).toInt) z32.toInt z33 from (by rw [ez33, show z32.toInt = x91_5.toInt + 1 by omega]; exact hag3)) (show HaS na ma0 ma ca d (ma 18 p0.toNatClampNeg).toInt (na 17 p0.toNatClampNeg) z32.toInt z31.toInt z33 z23.toInt from (HaS.nx (v := v18.toInt) has (by omega) (by omega) (by omega) (by omega) htv_130 (fun q => ⟨e21, by omega, by omega⟩) (fun q => ⟨by omega, by omega⟩) ez33)) (show z31.toInt ≤ z23.toInt from by first | exact oz_b2658c9b4e tz23 tz31 e19 | omega) (show K_mp_height_91 (RL_mp_height d) na ma ca p0 z23 z31 x91_4 z32 z33 from (fun y_v k hE => k91_17 y_v (k + 1) (Or.inr (Or.inl ⟨rfl, x91_2, x91_3, x91_4, x91_5, x91_6, rfl, rfl, rfl, rfl, rfl, Or.inr ⟨nc1, Or.inl ⟨nc4, z6, ez6, z7, ez7, v9, e11, Or.inl ⟨nc12, nc15, v18, e22, z23, ez23, Or.inr ⟨nc24, z31, ez31, z32, ez32, z33, ez33, hE⟩⟩⟩⟩⟩)))) (show hi - md3 < (n_91 : Int) from by first | exact oz_9009d237ba hm e20 e19 | omega) hw (lv_sub hl [7, 8, 3, 2, 9, 1, 0] rfl))
                  · exact absurd c30 (by decide)
              · have nc15 : v9.toInt = (107 : Int) := (i_eq (x := v9) (y := 107)).mp c15
                exfalso
                omega
            · exact absurd c14 (by decide)
          · have nc12 : ¬ v9.toInt = (105 : Int) := mt (i_eq (x := v9) (y := 105)).mpr c12
            refine lv_iload S.x S.b d_Mpg_height_142 (lv_at hl 0 rfl) ?_
            refine lv_bipush (v := 107) S.x S.b d_Mpg_height_144 (by decide) ?_
            refine lv_icmp_eq (tgt := 153) S.x S.b d_Mpg_height_146 (by decide) (fun c34 => ?_) (fun c34 => ?_)
            · have nc34 : v9.toInt = (107 : Int) := (i_eq (x := v9) (y := 107)).mp c34
              exfalso
              omega
            · have nc34 : ¬ v9.toInt = (107 : Int) := mt (i_eq (x := v9) (y := 107)).mpr c34
              refine lv_iconst (v := 1) S.x S.b d_Mpg_height_149 (by decide) ?_
              refine lv_goto (tgt := 154) S.x S.b d_Mpg_height_150 (by decide) ?_
              refine lv_istore (lv' := [(8, .int 1), (7, .int v9), (0, .ref h), (1, .int p0), (2, .int x91_2), (3, .int x91_3), (4, .int x91_4), (5, .int x91_5), (6, .int x91_6)]) S.x S.b d_Mpg_height_154 hl (by decide) rfl (fun ls hl => ?_)
              refine lv_iload_n S.x S.b d_Mpg_height_156 rfl (lv_at hl 5 rfl) ?_
              refine lv_iload S.x S.b d_Mpg_height_157 (lv_at hl 0 rfl) ?_
              refine lv_if_eq (tgt := 166) S.x S.b d_Mpg_height_159 (by decide) (fun c36 => ?_) (fun c36 => ?_)
              · exact absurd c36 (by decide)
              ·
                refine lv_iconst (v := 2) S.x S.b d_Mpg_height_162 (by decide) ?_
                refine lv_goto (tgt := 183) S.x S.b d_Mpg_height_163 (by decide) ?_
                refine lv_iadd S.x S.b d_Mpg_height_183 ?_
                refine lv_topi (fun z37 ez37 => ?_)
                have tz37 : z37.toInt = (x91_3.toInt + (2 : Int) + 2147483648) % 4294967296 - 2147483648 := by rw [ez37]; exact i_add x91_3 2
                have lz37 := Int32.le_toInt z37
                have uz37 := Int32.toInt_lt z37
                try replace tz37 : z37.toInt = x91_3.toInt + (2 : Int) := by omega
                refine lv_istore (lv' := [(9, .int z37), (8, .int 1), (7, .int v9), (0, .ref h), (1, .int p0), (2, .int x91_2), (3, .int x91_3), (4, .int x91_4), (5, .int x91_5), (6, .int x91_6)]) S.x S.b d_Mpg_height_184 hl (by decide) rfl (fun ls hl => ?_)
                refine lv_iload S.x S.b d_Mpg_height_186 (lv_at hl 0 rfl) ?_
                refine lv_iload_n S.x S.b d_Mpg_height_188 rfl (lv_at hl 5 rfl) ?_
                refine lv_icmp_le (tgt := 197) S.x S.b d_Mpg_height_189 (by decide) (fun c38 => ?_) (fun c38 => ?_)
                · have nc38 : z37.toInt ≤ x91_2.toInt := (i_le (x := z37) (y := x91_2)).mp c38
                  refine lv_iload_n S.x S.b d_Mpg_height_197 rfl (lv_at hl 5 rfl) ?_
                  refine lv_istore_n (lv' := [(2, .int x91_2), (9, .int z37), (8, .int 1), (7, .int v9), (0, .ref h), (1, .int p0), (3, .int x91_3), (4, .int x91_4), (5, .int x91_5), (6, .int x91_6)]) S.x S.b d_Mpg_height_198 rfl hl (by decide) rfl (fun ls hl => ?_)
                  refine lv_iload_n S.x S.b d_Mpg_height_199 rfl (lv_at hl 6 rfl) ?_
                  refine lv_iload S.x S.b d_Mpg_height_200 (lv_at hl 2 rfl) ?_
                  refine lv_if_eq (tgt := 209) S.x S.b d_Mpg_height_202 (by decide) (fun c40 => ?_) (fun c40 => ?_)
                  · exact absurd c40 (by decide)
                  ·
                    refine lv_iconst (v := 2) S.x S.b d_Mpg_height_205 (by decide) ?_
                    refine lv_goto (tgt := 210) S.x S.b d_Mpg_height_206 (by decide) ?_
                    refine lv_iadd S.x S.b d_Mpg_height_210 ?_
                    refine lv_topi (fun z41 ez41 => ?_)
                    have tz41 : z41.toInt = (x91_3.toInt + (2 : Int) + 2147483648) % 4294967296 - 2147483648 := by rw [ez41]; exact i_add x91_3 2
                    have lz41 := Int32.le_toInt z41
                    have uz41 := Int32.toInt_lt z41
                    try replace tz41 : z41.toInt = x91_3.toInt + (2 : Int) := by omega
                    refine lv_istore_n (lv' := [(3, .int z41), (2, .int x91_2), (9, .int z37), (8, .int 1), (7, .int v9), (0, .ref h), (1, .int p0), (4, .int x91_4), (5, .int x91_5), (6, .int x91_6)]) S.x S.b d_Mpg_height_211 rfl hl (by decide) rfl (fun ls hl => ?_)
                    obtain ⟨z42, ez42⟩ : ∃ y : Int32, y = x91_5 + 1 := ⟨_, rfl⟩
                    have tz42 : z42.toInt = (x91_5.toInt + 1 + 2147483648) % 4294967296 - 2147483648 := by rw [ez42]; exact i_add x91_5 1
                    have lz42 := Int32.le_toInt z42
                    have uz42 := Int32.toInt_lt z42
                    try replace tz42 : z42.toInt = x91_5.toInt + 1 := by omega
                    refine lv_iinc (v := z42) (lv' := [(5, .int z42), (3, .int z41), (2, .int x91_2), (9, .int z37), (8, .int 1), (7, .int v9), (0, .ref h), (1, .int p0), (4, .int x91_4), (6, .int x91_6)]) S.x S.b d_Mpg_height_212 hl (k := 8) rfl (by rw [ez42]; rfl) (by decide) rfl (fun ls hl => ?_)
                    refine lv_aload_n S.x S.b d_Mpg_height_215 rfl (lv_at hl 6 rfl) ?_
                    refine gP_21 S hT hw 0 rfl m10_7 d_Mpg_height_216 ?_
                    refine lv_iload S.x S.b d_Mpg_height_219 (lv_at hl 9 rfl) ?_
                    refine px_iald S hT hw 0 17 (n := 2100) (f := (na 21)) rfl gp_21 (x := x91_6) (vp_in_iff.mpr (by constructor <;> omega)) d_Mpg_height_221 ?_
                    refine lv_topi (fun z43 ez43 => ?_)
                    have lz43 := Int32.le_toInt z43
                    have uz43 := Int32.toInt_lt z43
                    refine lv_istore (lv' := [(6, .int z43), (5, .int z42), (3, .int z41), (2, .int x91_2), (9, .int z37), (8, .int 1), (7, .int v9), (0, .ref h), (1, .int p0), (4, .int x91_4)]) S.x S.b d_Mpg_height_222 hl (by decide) rfl (fun ls hl => ?_)
                    refine lv_goto (tgt := 91) S.x S.b d_Mpg_height_224 (by decide) ?_
                    first | exact ih91 md3 x91_2 z41 x91_4 z42 z43 _ _ ls (show 1 ≤ x91_2.toInt from k91_0) (show x91_2.toInt ≤ 2 * (hi - lo) from k91_1) (show 0 ≤ z41.toInt from (oz_6c4a1e09c3 tz41 k91_2)) (show z41.toInt ≤ 2 * z42.toInt from (oz_0b0b8c8fbd tz41 tz42 k91_3)) (show 0 ≤ x91_4.toInt from k91_4) (show x91_4.toInt ≤ 1 from k91_5) (show x91_4.toInt = 1 → (ma 18 p0.toNatClampNeg).toInt < 100 from k91_6) (show x91_4.toInt = 0 → 100 ≤ (ma 18 p0.toNatClampNeg).toInt from k91_7) (show 0 ≤ z42.toInt from (oz_ae613611c0 tz42 k91_8)) (show z42.toInt + p0.toInt + 1 ≤ md3 from by omega) (show p0.toInt + 1 ≤ md3 from by omega) (show md3 ≤ hi from hm2_md3) (show (na 14 p0.toNatClampNeg).toInt = 3 from k91_12) (show RcR ta (tf 6).toInt na ma0 d md3 hi z43 from (by rw [ez43]; exact hrr2)) (show AgV na V (tkl na ma0 ca (ma 18 p0.toNatClampNeg).toInt) z42.toInt z43 from (by rw [ez43, show z42.toInt = x91_5.toInt + 1 by omega]; exact hag3)) (show HaS na ma0 ma ca d (ma 18 p0.toNatClampNeg).toInt (na 17 p0.toNatClampNeg) z42.toInt z41.toInt z43 x91_2.toInt from (HaS.nx (v := 0) has (by omega) (by omega) (by omega) (by omega) htv_130 (fun q => absurd q (by omega)) (fun q => ⟨by omega, by omega⟩) ez43)) (show z41.toInt ≤ x91_2.toInt from (oz_7e90d38d08 nc38 tz41 tz37)) (show K_mp_height_91 (RL_mp_height d) na ma ca p0 x91_2 z41 x91_4 z42 z43 from (fun y_v k hE => k91_17 y_v (k + 1) (Or.inr (Or.inl ⟨rfl, x91_2, x91_3, x91_4, x91_5, x91_6, rfl, rfl, rfl, rfl, rfl, Or.inr ⟨nc1, Or.inl ⟨nc4, z6, ez6, z7, ez7, v9, e11, Or.inr ⟨nc12, nc34, z37, ez37, Or.inl ⟨nc38, z41, ez41, z42, ez42, z43, ez43, hE⟩⟩⟩⟩⟩)))) (show hi - md3 < (n_91 : Int) from by omega) hw (lv_sub hl [7, 8, 3, 2, 9, 1, 0] rfl) | (exact ih91 md3 x91_2 z41 x91_4 z42 z43 _ _ ls (show 1 ≤ x91_2.toInt from by first | exact k91_0 | omega) (show x91_2.toInt ≤ 2 * (hi - lo) from by first | exact k91_1 | omega) (show 0 ≤ z41.toInt from by first | exact oz_6c4a1e09c3 tz41 k91_2 | omega) (show z41.toInt ≤ 2 * z42.toInt from by first | exact oz_0b0b8c8fbd tz41 tz42 k91_3 | omega) (show 0 ≤ x91_4.toInt from by first | exact k91_4 | omega) (show x91_4.toInt ≤ 1 from by first | exact k91_5 | omega) (show x91_4.toInt = 1 → (ma 18 p0.toNatClampNeg).toInt < 100 from by first | exact k91_6 | omega) (show x91_4.toInt = 0 → 100 ≤ (ma 18 p0.toNatClampNeg).toInt from by first | exact k91_7 | omega) (show 0 ≤ z42.toInt from by first | exact oz_ae613611c0 tz42 k91_8 | omega) (show z42.toInt + p0.toInt + 1 ≤ md3 from by omega) (show p0.toInt + 1 ≤ md3 from by omega) (show md3 ≤ hi from by first | exact hm2_md3 | omega) (show (na 14 p0.toNatClampNeg).toInt = 3 from by first | exact k91_12 | omega) (show RcR ta (tf 6).toInt na ma0 d md3 hi z43 from (by rw [ez43]; exact hrr2)) (show AgV na V (tkl na ma0 ca (ma 18 p0.toNatClampNeg).toInt) z42.toInt z43 from (by rw [ez43, show z42.toInt = x91_5.toInt + 1 by omega]; exact hag3)) (show HaS na ma0 ma ca d (ma 18 p0.toNatClampNeg).toInt (na 17 p0.toNatClampNeg) z42.toInt z41.toInt z43 x91_2.toInt from (HaS.nx (v := 0) has (by omega) (by omega) (by omega) (by omega) htv_130 (fun q => absurd q (by omega)) (fun q => ⟨by omega, by omega⟩) ez43)) (show z41.toInt ≤ x91_2.toInt from by first | exact oz_7e90d38d08 nc38 tz41 tz37 | omega) (show K_mp_height_91 (RL_mp_height d) na ma ca p0 x91_2 z41 x91_4 z42 z43 from (fun y_v k hE => k91_17 y_v (k + 1) (Or.inr (Or.inl ⟨rfl, x91_2, x91_3, x91_4, x91_5, x91_6, rfl, rfl, rfl, rfl, rfl, Or.inr ⟨nc1, Or.inl ⟨nc4, z6, ez6, z7, ez7, v9, e11, Or.inr ⟨nc12, nc34, z37, ez37, Or.inl ⟨nc38, z41, ez41, z42, ez42, z43, ez43, hE⟩⟩⟩⟩⟩)))) (show hi - md3 < (n_91 : Int) from by omega) hw (lv_sub hl [7, 8, 3, 2, 9, 1, 0] rfl))
                · have nc38 : ¬ z37.toInt ≤ x91_2.toInt := mt (i_le (x := z37) (y := x91_2)).mpr c38
                  refine lv_iload S.x S.b d_Mpg_height_192 (lv_at hl 0 rfl) ?_
                  refine lv_goto (tgt := 198) S.x S.b d_Mpg_height_194 (by decide) ?_
                  refine lv_istore_n (lv' := [(2, .int z37), (9, .int z37), (8, .int 1), (7, .int v9), (0, .ref h), (1, .int p0), (3, .int x91_3), (4, .int x91_4), (5, .int x91_5), (6, .int x91_6)]) S.x S.b d_Mpg_height_198 rfl hl (by decide) rfl (fun ls hl => ?_)
                  refine lv_iload_n S.x S.b d_Mpg_height_199 rfl (lv_at hl 6 rfl) ?_
                  refine lv_iload S.x S.b d_Mpg_height_200 (lv_at hl 2 rfl) ?_
                  refine lv_if_eq (tgt := 209) S.x S.b d_Mpg_height_202 (by decide) (fun c44 => ?_) (fun c44 => ?_)
                  · exact absurd c44 (by decide)
                  ·
                    refine lv_iconst (v := 2) S.x S.b d_Mpg_height_205 (by decide) ?_
                    refine lv_goto (tgt := 210) S.x S.b d_Mpg_height_206 (by decide) ?_
                    refine lv_iadd S.x S.b d_Mpg_height_210 ?_
                    refine lv_topi (fun z45 ez45 => ?_)
                    have tz45 : z45.toInt = (x91_3.toInt + (2 : Int) + 2147483648) % 4294967296 - 2147483648 := by rw [ez45]; exact i_add x91_3 2
                    have lz45 := Int32.le_toInt z45
                    have uz45 := Int32.toInt_lt z45
                    try replace tz45 : z45.toInt = x91_3.toInt + (2 : Int) := by omega
                    refine lv_istore_n (lv' := [(3, .int z45), (2, .int z37), (9, .int z37), (8, .int 1), (7, .int v9), (0, .ref h), (1, .int p0), (4, .int x91_4), (5, .int x91_5), (6, .int x91_6)]) S.x S.b d_Mpg_height_211 rfl hl (by decide) rfl (fun ls hl => ?_)
                    obtain ⟨z46, ez46⟩ : ∃ y : Int32, y = x91_5 + 1 := ⟨_, rfl⟩
                    have tz46 : z46.toInt = (x91_5.toInt + 1 + 2147483648) % 4294967296 - 2147483648 := by rw [ez46]; exact i_add x91_5 1
                    have lz46 := Int32.le_toInt z46
                    have uz46 := Int32.toInt_lt z46
                    try replace tz46 : z46.toInt = x91_5.toInt + 1 := by omega
                    refine lv_iinc (v := z46) (lv' := [(5, .int z46), (3, .int z45), (2, .int z37), (9, .int z37), (8, .int 1), (7, .int v9), (0, .ref h), (1, .int p0), (4, .int x91_4), (6, .int x91_6)]) S.x S.b d_Mpg_height_212 hl (k := 8) rfl (by rw [ez46]; rfl) (by decide) rfl (fun ls hl => ?_)
                    refine lv_aload_n S.x S.b d_Mpg_height_215 rfl (lv_at hl 6 rfl) ?_
                    refine gP_21 S hT hw 0 rfl m10_7 d_Mpg_height_216 ?_
                    refine lv_iload S.x S.b d_Mpg_height_219 (lv_at hl 9 rfl) ?_
                    refine px_iald S hT hw 0 17 (n := 2100) (f := (na 21)) rfl gp_21 (x := x91_6) (vp_in_iff.mpr (by constructor <;> omega)) d_Mpg_height_221 ?_
                    refine lv_topi (fun z47 ez47 => ?_)
                    have lz47 := Int32.le_toInt z47
                    have uz47 := Int32.toInt_lt z47
                    refine lv_istore (lv' := [(6, .int z47), (5, .int z46), (3, .int z45), (2, .int z37), (9, .int z37), (8, .int 1), (7, .int v9), (0, .ref h), (1, .int p0), (4, .int x91_4)]) S.x S.b d_Mpg_height_222 hl (by decide) rfl (fun ls hl => ?_)
                    refine lv_goto (tgt := 91) S.x S.b d_Mpg_height_224 (by decide) ?_
                    first | exact ih91 md3 z37 z45 x91_4 z46 z47 _ _ ls (show 1 ≤ z37.toInt from (oz_58d7b95763 nc38 k91_0)) (show z37.toInt ≤ 2 * (hi - lo) from (oz_a158216c70 hrg.1 k91_11 tz37 k91_3 k91_9)) (show 0 ≤ z45.toInt from (oz_6c4a1e09c3 tz45 k91_2)) (show z45.toInt ≤ 2 * z46.toInt from (oz_0b0b8c8fbd tz45 tz46 k91_3)) (show 0 ≤ x91_4.toInt from k91_4) (show x91_4.toInt ≤ 1 from k91_5) (show x91_4.toInt = 1 → (ma 18 p0.toNatClampNeg).toInt < 100 from k91_6) (show x91_4.toInt = 0 → 100 ≤ (ma 18 p0.toNatClampNeg).toInt from k91_7) (show 0 ≤ z46.toInt from (oz_ae613611c0 tz46 k91_8)) (show z46.toInt + p0.toInt + 1 ≤ md3 from by omega) (show p0.toInt + 1 ≤ md3 from by omega) (show md3 ≤ hi from hm2_md3) (show (na 14 p0.toNatClampNeg).toInt = 3 from k91_12) (show RcR ta (tf 6).toInt na ma0 d md3 hi z47 from (by rw [ez47]; exact hrr2)) (show AgV na V (tkl na ma0 ca (ma 18 p0.toNatClampNeg).toInt) z46.toInt z47 from (by rw [ez47, show z46.toInt = x91_5.toInt + 1 by omega]; exact hag3)) (show HaS na ma0 ma ca d (ma 18 p0.toNatClampNeg).toInt (na 17 p0.toNatClampNeg) z46.toInt z45.toInt z47 z37.toInt from (HaS.nx (v := 0) has (by omega) (by omega) (by omega) (by omega) htv_130 (fun q => absurd q (by omega)) (fun q => ⟨by omega, by omega⟩) ez47)) (show z45.toInt ≤ z37.toInt from (oz_eb1698c6c8 tz37 tz45)) (show K_mp_height_91 (RL_mp_height d) na ma ca p0 z37 z45 x91_4 z46 z47 from (fun y_v k hE => k91_17 y_v (k + 1) (Or.inr (Or.inl ⟨rfl, x91_2, x91_3, x91_4, x91_5, x91_6, rfl, rfl, rfl, rfl, rfl, Or.inr ⟨nc1, Or.inl ⟨nc4, z6, ez6, z7, ez7, v9, e11, Or.inr ⟨nc12, nc34, z37, ez37, Or.inr ⟨nc38, z45, ez45, z46, ez46, z47, ez47, hE⟩⟩⟩⟩⟩)))) (show hi - md3 < (n_91 : Int) from by omega) hw (lv_sub hl [7, 8, 3, 2, 9, 1, 0] rfl) | (exact ih91 md3 z37 z45 x91_4 z46 z47 _ _ ls (show 1 ≤ z37.toInt from by first | exact oz_58d7b95763 nc38 k91_0 | omega) (show z37.toInt ≤ 2 * (hi - lo) from by first | exact oz_a158216c70 hrg.1 k91_11 tz37 k91_3 k91_9 | omega) (show 0 ≤ z45.toInt from by first | exact oz_6c4a1e09c3 tz45 k91_2 | omega) (show z45.toInt ≤ 2 * z46.toInt from by first | exact oz_0b0b8c8fbd tz45 tz46 k91_3 | omega) (show 0 ≤ x91_4.toInt from by first | exact k91_4 | omega) (show x91_4.toInt ≤ 1 from by first | exact k91_5 | omega) (show x91_4.toInt = 1 → (ma 18 p0.toNatClampNeg).toInt < 100 from by first | exact k91_6 | omega) (show x91_4.toInt = 0 → 100 ≤ (ma 18 p0.toNatClampNeg).toInt from by first | exact k91_7 | omega) (show 0 ≤ z46.toInt from by first | exact oz_ae613611c0 tz46 k91_8 | omega) (show z46.toInt + p0.toInt + 1 ≤ md3 from by omega) (show p0.toInt + 1 ≤ md3 from by omega) (show md3 ≤ hi from by first | exact hm2_md3 | omega) (show (na 14 p0.toNatClampNeg).toInt = 3 from by first | exact k91_12 | omega) (show RcR ta (tf 6).toInt na ma0 d md3 hi z47 from (by rw [ez47]; exact hrr2)) (show AgV na V (tkl na ma0 ca (ma 18 p0.toNatClampNeg).toInt) z46.toInt z47 from (by rw [ez47, show z46.toInt = x91_5.toInt + 1 by omega]; exact hag3)) (show HaS na ma0 ma ca d (ma 18 p0.toNatClampNeg).toInt (na 17 p0.toNatClampNeg) z46.toInt z45.toInt z47 z37.toInt from (HaS.nx (v := 0) has (by omega) (by omega) (by omega) (by omega) htv_130 (fun q => absurd q (by omega)) (fun q => ⟨by omega, by omega⟩) ez47)) (show z45.toInt ≤ z37.toInt from by first | exact oz_eb1698c6c8 tz37 tz45 | omega) (show K_mp_height_91 (RL_mp_height d) na ma ca p0 z37 z45 x91_4 z46 z47 from (fun y_v k hE => k91_17 y_v (k + 1) (Or.inr (Or.inl ⟨rfl, x91_2, x91_3, x91_4, x91_5, x91_6, rfl, rfl, rfl, rfl, rfl, Or.inr ⟨nc1, Or.inl ⟨nc4, z6, ez6, z7, ez7, v9, e11, Or.inr ⟨nc12, nc34, z37, ez37, Or.inr ⟨nc38, z45, ez45, z46, ez46, z47, ez47, hE⟩⟩⟩⟩⟩)))) (show hi - md3 < (n_91 : Int) from by omega) hw (lv_sub hl [7, 8, 3, 2, 9, 1, 0] rfl))
        · have nc4 : ¬ x91_4.toInt = (0 : Int) := mt (i_eq (x := x91_4) (y := 0)).mpr c4
          refine lv_aload_n S.x S.b d_Mpg_height_101 rfl (lv_at hl 0 rfl) ?_
          refine lv_iconst (v := (-1)) S.x S.b d_Mpg_height_102 (by decide) ?_
          refine lv_aload_n S.x S.b d_Mpg_height_103 rfl (lv_at hl 0 rfl) ?_
          refine gP_18 S hT hw 0 rfl m10_3 d_Mpg_height_104 ?_
          refine lv_iload_n S.x S.b d_Mpg_height_107 rfl (lv_at hl 1 rfl) ?_
          refine px_iald S hT hw 0 14 (n := 2100) (f := (ma 18)) rfl gp_18 (x := p0) (vp_in_iff.mpr (by first | exact oz_a7e05de1cd hrg.2.2 hrg.2.1 g1 g2 | (constructor <;> omega))) d_Mpg_height_108 ?_
          refine lv_topi (fun z48 ez48 => ?_)
          have lz48 := Int32.le_toInt z48
          have uz48 := Int32.toInt_lt z48
          have rz48 : z48.toInt = (ma 18 p0.toNatClampNeg).toInt := by rw [ez48]
          refine lv_iload S.x S.b d_Mpg_height_109 (lv_at hl 5 rfl) ?_
          first | refine px_calli (pr := []) (px_runV (As := [.int (-1), .int z48, .int x91_5]) (rest := []) S (c_mp_taken l D cs h r g tf ta pf na ma wa cf ca ef ea xf xa (-1) z48 x91_5  (show -1 ≤ (-1 : Int) from oz_268d846349) (show (-1 : Int) < (cf 38).toInt from (oz_7f6cba95dd g4 g5)) (show (-1 : Int) < 0 → 0 ≤ z48.toInt ∧ z48.toInt < 10 from by omega) (show 0 ≤ x91_5.toInt from k91_8) (show x91_5.toInt ≤ 4000 from (oz_2634073f30 k91_9 hrg.2.2 k91_11 g1 g2)) (show 0 ≤ (cf 38).toInt from (oz_f3ebed1ad0 g4 g5)) htk (FnT.eq hft (by omega)) (FnP.eq hfp (by omega)) _) hT (pr := []) (pcs := [wdP cs h r g tf ta pf na ma wa cf ca ef ea xf xa]) hw (oX_call (P := (fun A U H => (oP A g U H))) (pr := []) oG_P hw hA hP) (px_recv hT hw 0 0 rfl rfl rfl) m12_229 m12_226 m12_228 ms_12_10 m1_21 q_Mpg_taken ⟨show 4 + 1 ≤ (2 * (d + 1) + 8) from (oz_4348681efe), show 8 + (6 + 11) + 140 ≤ (100 * (d + 1) + 260) from (oz_c7f1ce075b)⟩ hl.1 rfl (Nat.le_of_ble_eq_true rfl) d_Mpg_height_111 ⟨Nat.le_of_ble_eq_true rfl, Nat.le_of_ble_eq_true rfl⟩) hw hA (fun v50 p49 H locs hp49 hw => ?_) | (refine px_calli (pr := []) (px_runV (As := [.int (-1), .int z48, .int x91_5]) (rest := []) S (c_mp_taken l D cs h r g tf ta pf na ma wa cf ca ef ea xf xa (-1) z48 x91_5  (show -1 ≤ (-1 : Int) from by first | exact oz_268d846349 | omega) (show (-1 : Int) < (cf 38).toInt from by first | exact oz_7f6cba95dd g4 g5 | omega) (show (-1 : Int) < 0 → 0 ≤ z48.toInt ∧ z48.toInt < 10 from by omega) (show 0 ≤ x91_5.toInt from by first | exact k91_8 | omega) (show x91_5.toInt ≤ 4000 from by first | exact oz_2634073f30 k91_9 hrg.2.2 k91_11 g1 g2 | omega) (show 0 ≤ (cf 38).toInt from by first | exact oz_f3ebed1ad0 g4 g5 | omega) htk (FnT.eq hft (by omega)) (FnP.eq hfp (by omega)) _) hT (pr := []) (pcs := [wdP cs h r g tf ta pf na ma wa cf ca ef ea xf xa]) hw (oX_call (P := (fun A U H => (oP A g U H))) (pr := []) oG_P hw hA hP) (px_recv hT hw 0 0 rfl rfl rfl) m12_229 m12_226 m12_228 ms_12_10 m1_21 q_Mpg_taken ⟨show 4 + 1 ≤ (2 * (d + 1) + 8) from (by first | exact oz_4348681efe | omega), show 8 + (6 + 11) + 140 ≤ (100 * (d + 1) + 260) from (by first | exact oz_c7f1ce075b | omega)⟩ hl.1 rfl (Nat.le_of_ble_eq_true rfl) d_Mpg_height_111 ⟨Nat.le_of_ble_eq_true rfl, Nat.le_of_ble_eq_true rfl⟩) hw hA (fun v50 p49 H locs hp49 hw => ?_))
          obtain ⟨rfl, e51, e52⟩ := hp49
          have e51 : TkV na ma ca (-1 : Int) z48.toInt x91_5.toInt v50.toInt := e51
          have e52 : R_mp_taken na ma ca (-1 : Int32) z48 x91_5 v50 := e52
          have lv50 := Int32.le_toInt v50
          have uv50 := Int32.toInt_lt v50
          have hcd_111 : cod (-1 : Int) z48.toInt = (ma 18 p0.toNatClampNeg).toInt := (by unfold cod; first | (rw [if_pos (by omega)]; omega) | (rw [if_neg (by omega)]; omega)); have hcn_111 : CeN nf (cod (-1 : Int) z48.toInt) := (by rw [hcd_111]; exact hce); have htv_111 := tkv_at (ta := ta) (ns := ns) (ys := ys) e51 han hfp hcn_111; have htg_111 := tkv_rng e51 hcn_111; rw [hcd_111] at htv_111
          refine lv_goto (tgt := 133) S.x S.b d_Mpg_height_114 (by decide) ?_
          refine lv_istore (lv' := [(7, .int v50), (0, .ref h), (1, .int p0), (2, .int x91_2), (3, .int x91_3), (4, .int x91_4), (5, .int x91_5), (6, .int x91_6)]) S.x S.b d_Mpg_height_133 hl (by decide) rfl (fun ls hl => ?_)
          refine lv_iload S.x S.b d_Mpg_height_135 (lv_at hl 0 rfl) ?_
          refine lv_bipush (v := 105) S.x S.b d_Mpg_height_137 (by decide) ?_
          refine lv_icmp_eq (tgt := 153) S.x S.b d_Mpg_height_139 (by decide) (fun c53 => ?_) (fun c53 => ?_)
          · have nc53 : v50.toInt = (105 : Int) := (i_eq (x := v50) (y := 105)).mp c53
            refine lv_iconst (v := 0) S.x S.b d_Mpg_height_153 (by decide) ?_
            refine lv_istore (lv' := [(8, .int 0), (7, .int v50), (0, .ref h), (1, .int p0), (2, .int x91_2), (3, .int x91_3), (4, .int x91_4), (5, .int x91_5), (6, .int x91_6)]) S.x S.b d_Mpg_height_154 hl (by decide) rfl (fun ls hl => ?_)
            refine lv_iload_n S.x S.b d_Mpg_height_156 rfl (lv_at hl 5 rfl) ?_
            refine lv_iload S.x S.b d_Mpg_height_157 (lv_at hl 0 rfl) ?_
            refine lv_if_eq (tgt := 166) S.x S.b d_Mpg_height_159 (by decide) (fun c55 => ?_) (fun c55 => ?_)
            ·
              refine lv_iload S.x S.b d_Mpg_height_166 (lv_at hl 1 rfl) ?_
              refine lv_bipush (v := 107) S.x S.b d_Mpg_height_168 (by decide) ?_
              refine lv_icmp_ne (tgt := 177) S.x S.b d_Mpg_height_170 (by decide) (fun c56 => ?_) (fun c56 => ?_)
              · have nc56 : ¬ v50.toInt = (107 : Int) := mt (i_eq (x := v50) (y := 107)).mpr c56
                refine lv_aload_n S.x S.b d_Mpg_height_177 rfl (lv_at hl 2 rfl) ?_
                refine lv_iload S.x S.b d_Mpg_height_178 (lv_at hl 8 rfl) ?_
                have hvn_x91_6 : V x91_6.toNatClampNeg 0 := AgV.v0 hag2 (htv_111.symm.trans (by omega))
                first | refine px_calli (pr := []) (px_runV (As := [.int x91_6]) (rest := [.int x91_3]) S (hLH ma0 ys ns nf mid_91 md3 V vl vh h r g tf ta pf na ma wa cf ca ef ea xf xa x91_6 (show 0 ≤ mid_91 from (oz_06d7f15a5c k91_10 hrg.2.2)) (show md3 ≤ (pf 13).toInt from (oz_bbb5b20c1a g1 hm2_md3)) (show (pf 13).toInt ≤ 2100 from g2) (show (tf 6).toInt ≤ 2049 from g3) (show (cf 38).toInt = nf from g4) (show 0 ≤ nf from g5) htk (FnT.eq hft (by omega)) hfp han hts hec_x91_6 hvn_x91_6 _) hT (pr := []) (pcs := [wdP cs h r g tf ta pf na ma wa cf ca ef ea xf xa]) hw (oX_call (P := (fun A U H => (oP A g U H))) (pr := []) oG_P hw hA hP) (px_recv hT hw 0 0 rfl rfl rfl) m13_65 m13_62 m13_64 ms_13_13 m1_21 q_Mpg_height ⟨show (2 * d + 8) + 1 ≤ (2 * (d + 1) + 8) from (oz_07fbb325ca), show 8 + (12 + 11) + (100 * d + 260) ≤ (100 * (d + 1) + 260) from (oz_22f1a200d8)⟩ hl.1 rfl (Nat.le_of_ble_eq_true rfl) d_Mpg_height_180 ⟨Nat.le_of_ble_eq_true rfl, Nat.le_of_ble_eq_true rfl⟩) hw hA (fun v59 p58 H locs hp58 hw => ?_) | (refine px_calli (pr := []) (px_runV (As := [.int x91_6]) (rest := [.int x91_3]) S (hLH ma0 ys ns nf mid_91 md3 V vl vh h r g tf ta pf na ma wa cf ca ef ea xf xa x91_6 (show 0 ≤ mid_91 from by first | exact oz_06d7f15a5c k91_10 hrg.2.2 | omega) (show md3 ≤ (pf 13).toInt from by first | exact oz_bbb5b20c1a g1 hm2_md3 | omega) (show (pf 13).toInt ≤ 2100 from by first | exact g2 | omega) (show (tf 6).toInt ≤ 2049 from by first | exact g3 | omega) (show (cf 38).toInt = nf from by first | exact g4 | omega) (show 0 ≤ nf from by first | exact g5 | omega) htk (FnT.eq hft (by omega)) hfp han hts hec_x91_6 hvn_x91_6 _) hT (pr := []) (pcs := [wdP cs h r g tf ta pf na ma wa cf ca ef ea xf xa]) hw (oX_call (P := (fun A U H => (oP A g U H))) (pr := []) oG_P hw hA hP) (px_recv hT hw 0 0 rfl rfl rfl) m13_65 m13_62 m13_64 ms_13_13 m1_21 q_Mpg_height ⟨show (2 * d + 8) + 1 ≤ (2 * (d + 1) + 8) from (by first | exact oz_07fbb325ca | omega), show 8 + (12 + 11) + (100 * d + 260) ≤ (100 * (d + 1) + 260) from (by first | exact oz_22f1a200d8 | omega)⟩ hl.1 rfl (Nat.le_of_ble_eq_true rfl) d_Mpg_height_180 ⟨Nat.le_of_ble_eq_true rfl, Nat.le_of_ble_eq_true rfl⟩) hw hA (fun v59 p58 H locs hp58 hw => ?_))
                obtain ⟨rfl, e60, e61, e62, e63⟩ := hp58
                have e60 : 1 ≤ v59.toInt := e60
                have e61 : v59.toInt ≤ 2 * (md3 - mid_91) := e61
                have e62 : HgB na ma0 ma (tkl na ma0 ca) d x91_6 v59.toInt := e62
                have e63 : RL_mp_height d na ma ca x91_6 v59 := e63
                have lv59 := Int32.le_toInt v59
                have uv59 := Int32.toInt_lt v59
                refine lv_iadd S.x S.b d_Mpg_height_183 ?_
                refine lv_topi (fun z64 ez64 => ?_)
                have tz64 : z64.toInt = (x91_3.toInt + v59.toInt + 2147483648) % 4294967296 - 2147483648 := by rw [ez64]; exact i_add x91_3 v59
                have lz64 := Int32.le_toInt z64
                have uz64 := Int32.toInt_lt z64
                try replace tz64 : z64.toInt = x91_3.toInt + v59.toInt := by omega
                refine lv_istore (lv' := [(9, .int z64), (8, .int 0), (7, .int v50), (0, .ref h), (1, .int p0), (2, .int x91_2), (3, .int x91_3), (4, .int x91_4), (5, .int x91_5), (6, .int x91_6)]) S.x S.b d_Mpg_height_184 hl (by decide) rfl (fun ls hl => ?_)
                refine lv_iload S.x S.b d_Mpg_height_186 (lv_at hl 0 rfl) ?_
                refine lv_iload_n S.x S.b d_Mpg_height_188 rfl (lv_at hl 5 rfl) ?_
                refine lv_icmp_le (tgt := 197) S.x S.b d_Mpg_height_189 (by decide) (fun c65 => ?_) (fun c65 => ?_)
                · have nc65 : z64.toInt ≤ x91_2.toInt := (i_le (x := z64) (y := x91_2)).mp c65
                  refine lv_iload_n S.x S.b d_Mpg_height_197 rfl (lv_at hl 5 rfl) ?_
                  refine lv_istore_n (lv' := [(2, .int x91_2), (9, .int z64), (8, .int 0), (7, .int v50), (0, .ref h), (1, .int p0), (3, .int x91_3), (4, .int x91_4), (5, .int x91_5), (6, .int x91_6)]) S.x S.b d_Mpg_height_198 rfl hl (by decide) rfl (fun ls hl => ?_)
                  refine lv_iload_n S.x S.b d_Mpg_height_199 rfl (lv_at hl 6 rfl) ?_
                  refine lv_iload S.x S.b d_Mpg_height_200 (lv_at hl 2 rfl) ?_
                  refine lv_if_eq (tgt := 209) S.x S.b d_Mpg_height_202 (by decide) (fun c67 => ?_) (fun c67 => ?_)
                  ·
                    refine lv_iconst (v := 1) S.x S.b d_Mpg_height_209 (by decide) ?_
                    refine lv_iadd S.x S.b d_Mpg_height_210 ?_
                    refine lv_topi (fun z68 ez68 => ?_)
                    have tz68 : z68.toInt = (x91_3.toInt + (1 : Int) + 2147483648) % 4294967296 - 2147483648 := by rw [ez68]; exact i_add x91_3 1
                    have lz68 := Int32.le_toInt z68
                    have uz68 := Int32.toInt_lt z68
                    try replace tz68 : z68.toInt = x91_3.toInt + (1 : Int) := by omega
                    refine lv_istore_n (lv' := [(3, .int z68), (2, .int x91_2), (9, .int z64), (8, .int 0), (7, .int v50), (0, .ref h), (1, .int p0), (4, .int x91_4), (5, .int x91_5), (6, .int x91_6)]) S.x S.b d_Mpg_height_211 rfl hl (by decide) rfl (fun ls hl => ?_)
                    obtain ⟨z69, ez69⟩ : ∃ y : Int32, y = x91_5 + 1 := ⟨_, rfl⟩
                    have tz69 : z69.toInt = (x91_5.toInt + 1 + 2147483648) % 4294967296 - 2147483648 := by rw [ez69]; exact i_add x91_5 1
                    have lz69 := Int32.le_toInt z69
                    have uz69 := Int32.toInt_lt z69
                    try replace tz69 : z69.toInt = x91_5.toInt + 1 := by omega
                    refine lv_iinc (v := z69) (lv' := [(5, .int z69), (3, .int z68), (2, .int x91_2), (9, .int z64), (8, .int 0), (7, .int v50), (0, .ref h), (1, .int p0), (4, .int x91_4), (6, .int x91_6)]) S.x S.b d_Mpg_height_212 hl (k := 8) rfl (by rw [ez69]; rfl) (by decide) rfl (fun ls hl => ?_)
                    refine lv_aload_n S.x S.b d_Mpg_height_215 rfl (lv_at hl 6 rfl) ?_
                    refine gP_21 S hT hw 0 rfl m10_7 d_Mpg_height_216 ?_
                    refine lv_iload S.x S.b d_Mpg_height_219 (lv_at hl 9 rfl) ?_
                    refine px_iald S hT hw 0 17 (n := 2100) (f := (na 21)) rfl gp_21 (x := x91_6) (vp_in_iff.mpr (by constructor <;> omega)) d_Mpg_height_221 ?_
                    refine lv_topi (fun z70 ez70 => ?_)
                    have lz70 := Int32.le_toInt z70
                    have uz70 := Int32.toInt_lt z70
                    refine lv_istore (lv' := [(6, .int z70), (5, .int z69), (3, .int z68), (2, .int x91_2), (9, .int z64), (8, .int 0), (7, .int v50), (0, .ref h), (1, .int p0), (4, .int x91_4)]) S.x S.b d_Mpg_height_222 hl (by decide) rfl (fun ls hl => ?_)
                    refine lv_goto (tgt := 91) S.x S.b d_Mpg_height_224 (by decide) ?_
                    first | exact ih91 md3 x91_2 z68 x91_4 z69 z70 _ _ ls (show 1 ≤ x91_2.toInt from k91_0) (show x91_2.toInt ≤ 2 * (hi - lo) from k91_1) (show 0 ≤ z68.toInt from (oz_b3b25f0e49 tz68 k91_2)) (show z68.toInt ≤ 2 * z69.toInt from (oz_82982fc7e4 tz68 tz69 k91_3)) (show 0 ≤ x91_4.toInt from k91_4) (show x91_4.toInt ≤ 1 from k91_5) (show x91_4.toInt = 1 → (ma 18 p0.toNatClampNeg).toInt < 100 from k91_6) (show x91_4.toInt = 0 → 100 ≤ (ma 18 p0.toNatClampNeg).toInt from k91_7) (show 0 ≤ z69.toInt from (oz_ae613611c0 tz69 k91_8)) (show z69.toInt + p0.toInt + 1 ≤ md3 from (oz_f2f12181a2 k91_9 e61 tz69 e60)) (show p0.toInt + 1 ≤ md3 from (oz_03606900a4 k91_10 e61 e60)) (show md3 ≤ hi from hm2_md3) (show (na 14 p0.toNatClampNeg).toInt = 3 from k91_12) (show RcR ta (tf 6).toInt na ma0 d md3 hi z70 from (by rw [ez70]; exact hrr2)) (show AgV na V (tkl na ma0 ca (ma 18 p0.toNatClampNeg).toInt) z69.toInt z70 from (by rw [ez70, show z69.toInt = x91_5.toInt + 1 by omega]; exact hag3)) (show HaS na ma0 ma ca d (ma 18 p0.toNatClampNeg).toInt (na 17 p0.toNatClampNeg) z69.toInt z68.toInt z70 x91_2.toInt from (HaS.nx (v := v59.toInt) has (by omega) (by omega) (by omega) (by omega) htv_111 (fun q => ⟨e62, by omega, by omega⟩) (fun q => ⟨by omega, by omega⟩) ez70)) (show z68.toInt ≤ x91_2.toInt from (oz_d06cdef794 nc65 tz68 tz64 e60)) (show K_mp_height_91 (RL_mp_height d) na ma ca p0 x91_2 z68 x91_4 z69 z70 from (fun y_v k hE => k91_17 y_v (k + 1) (Or.inr (Or.inl ⟨rfl, x91_2, x91_3, x91_4, x91_5, x91_6, rfl, rfl, rfl, rfl, rfl, Or.inr ⟨nc1, Or.inr ⟨nc4, z48, ez48, v50, e52, Or.inl ⟨nc53, nc56, v59, e63, z64, ez64, Or.inl ⟨nc65, z68, ez68, z69, ez69, z70, ez70, hE⟩⟩⟩⟩⟩)))) (show hi - md3 < (n_91 : Int) from (oz_9009d237ba hm e61 e60)) hw (lv_sub hl [7, 8, 3, 2, 9, 1, 0] rfl) | (exact ih91 md3 x91_2 z68 x91_4 z69 z70 _ _ ls (show 1 ≤ x91_2.toInt from by first | exact k91_0 | omega) (show x91_2.toInt ≤ 2 * (hi - lo) from by first | exact k91_1 | omega) (show 0 ≤ z68.toInt from by first | exact oz_b3b25f0e49 tz68 k91_2 | omega) (show z68.toInt ≤ 2 * z69.toInt from by first | exact oz_82982fc7e4 tz68 tz69 k91_3 | omega) (show 0 ≤ x91_4.toInt from by first | exact k91_4 | omega) (show x91_4.toInt ≤ 1 from by first | exact k91_5 | omega) (show x91_4.toInt = 1 → (ma 18 p0.toNatClampNeg).toInt < 100 from by first | exact k91_6 | omega) (show x91_4.toInt = 0 → 100 ≤ (ma 18 p0.toNatClampNeg).toInt from by first | exact k91_7 | omega) (show 0 ≤ z69.toInt from by first | exact oz_ae613611c0 tz69 k91_8 | omega) (show z69.toInt + p0.toInt + 1 ≤ md3 from by first | exact oz_f2f12181a2 k91_9 e61 tz69 e60 | omega) (show p0.toInt + 1 ≤ md3 from by first | exact oz_03606900a4 k91_10 e61 e60 | omega) (show md3 ≤ hi from by first | exact hm2_md3 | omega) (show (na 14 p0.toNatClampNeg).toInt = 3 from by first | exact k91_12 | omega) (show RcR ta (tf 6).toInt na ma0 d md3 hi z70 from (by rw [ez70]; exact hrr2)) (show AgV na V (tkl na ma0 ca (ma 18 p0.toNatClampNeg).toInt) z69.toInt z70 from (by rw [ez70, show z69.toInt = x91_5.toInt + 1 by omega]; exact hag3)) (show HaS na ma0 ma ca d (ma 18 p0.toNatClampNeg).toInt (na 17 p0.toNatClampNeg) z69.toInt z68.toInt z70 x91_2.toInt from (HaS.nx (v := v59.toInt) has (by omega) (by omega) (by omega) (by omega) htv_111 (fun q => ⟨e62, by omega, by omega⟩) (fun q => ⟨by omega, by omega⟩) ez70)) (show z68.toInt ≤ x91_2.toInt from by first | exact oz_d06cdef794 nc65 tz68 tz64 e60 | omega) (show K_mp_height_91 (RL_mp_height d) na ma ca p0 x91_2 z68 x91_4 z69 z70 from (fun y_v k hE => k91_17 y_v (k + 1) (Or.inr (Or.inl ⟨rfl, x91_2, x91_3, x91_4, x91_5, x91_6, rfl, rfl, rfl, rfl, rfl, Or.inr ⟨nc1, Or.inr ⟨nc4, z48, ez48, v50, e52, Or.inl ⟨nc53, nc56, v59, e63, z64, ez64, Or.inl ⟨nc65, z68, ez68, z69, ez69, z70, ez70, hE⟩⟩⟩⟩⟩)))) (show hi - md3 < (n_91 : Int) from by first | exact oz_9009d237ba hm e61 e60 | omega) hw (lv_sub hl [7, 8, 3, 2, 9, 1, 0] rfl))
                  · exact absurd c67 (by decide)
                · have nc65 : ¬ z64.toInt ≤ x91_2.toInt := mt (i_le (x := z64) (y := x91_2)).mpr c65
                  refine lv_iload S.x S.b d_Mpg_height_192 (lv_at hl 0 rfl) ?_
                  refine lv_goto (tgt := 198) S.x S.b d_Mpg_height_194 (by decide) ?_
                  refine lv_istore_n (lv' := [(2, .int z64), (9, .int z64), (8, .int 0), (7, .int v50), (0, .ref h), (1, .int p0), (3, .int x91_3), (4, .int x91_4), (5, .int x91_5), (6, .int x91_6)]) S.x S.b d_Mpg_height_198 rfl hl (by decide) rfl (fun ls hl => ?_)
                  refine lv_iload_n S.x S.b d_Mpg_height_199 rfl (lv_at hl 6 rfl) ?_
                  refine lv_iload S.x S.b d_Mpg_height_200 (lv_at hl 2 rfl) ?_
                  refine lv_if_eq (tgt := 209) S.x S.b d_Mpg_height_202 (by decide) (fun c71 => ?_) (fun c71 => ?_)
                  ·
                    refine lv_iconst (v := 1) S.x S.b d_Mpg_height_209 (by decide) ?_
                    refine lv_iadd S.x S.b d_Mpg_height_210 ?_
                    refine lv_topi (fun z72 ez72 => ?_)
                    have tz72 : z72.toInt = (x91_3.toInt + (1 : Int) + 2147483648) % 4294967296 - 2147483648 := by rw [ez72]; exact i_add x91_3 1
                    have lz72 := Int32.le_toInt z72
                    have uz72 := Int32.toInt_lt z72
                    try replace tz72 : z72.toInt = x91_3.toInt + (1 : Int) := by omega
                    refine lv_istore_n (lv' := [(3, .int z72), (2, .int z64), (9, .int z64), (8, .int 0), (7, .int v50), (0, .ref h), (1, .int p0), (4, .int x91_4), (5, .int x91_5), (6, .int x91_6)]) S.x S.b d_Mpg_height_211 rfl hl (by decide) rfl (fun ls hl => ?_)
                    obtain ⟨z73, ez73⟩ : ∃ y : Int32, y = x91_5 + 1 := ⟨_, rfl⟩
                    have tz73 : z73.toInt = (x91_5.toInt + 1 + 2147483648) % 4294967296 - 2147483648 := by rw [ez73]; exact i_add x91_5 1
                    have lz73 := Int32.le_toInt z73
                    have uz73 := Int32.toInt_lt z73
                    try replace tz73 : z73.toInt = x91_5.toInt + 1 := by omega
                    refine lv_iinc (v := z73) (lv' := [(5, .int z73), (3, .int z72), (2, .int z64), (9, .int z64), (8, .int 0), (7, .int v50), (0, .ref h), (1, .int p0), (4, .int x91_4), (6, .int x91_6)]) S.x S.b d_Mpg_height_212 hl (k := 8) rfl (by rw [ez73]; rfl) (by decide) rfl (fun ls hl => ?_)
                    refine lv_aload_n S.x S.b d_Mpg_height_215 rfl (lv_at hl 6 rfl) ?_
                    refine gP_21 S hT hw 0 rfl m10_7 d_Mpg_height_216 ?_
                    refine lv_iload S.x S.b d_Mpg_height_219 (lv_at hl 9 rfl) ?_
                    refine px_iald S hT hw 0 17 (n := 2100) (f := (na 21)) rfl gp_21 (x := x91_6) (vp_in_iff.mpr (by constructor <;> omega)) d_Mpg_height_221 ?_
                    refine lv_topi (fun z74 ez74 => ?_)
                    have lz74 := Int32.le_toInt z74
                    have uz74 := Int32.toInt_lt z74
                    refine lv_istore (lv' := [(6, .int z74), (5, .int z73), (3, .int z72), (2, .int z64), (9, .int z64), (8, .int 0), (7, .int v50), (0, .ref h), (1, .int p0), (4, .int x91_4)]) S.x S.b d_Mpg_height_222 hl (by decide) rfl (fun ls hl => ?_)
                    refine lv_goto (tgt := 91) S.x S.b d_Mpg_height_224 (by decide) ?_
                    first | exact ih91 md3 z64 z72 x91_4 z73 z74 _ _ ls (show 1 ≤ z64.toInt from (oz_58d7b95763 nc65 k91_0)) (show z64.toInt ≤ 2 * (hi - lo) from (oz_07d5c453ac hrg.1 hm2_md3 tz64 k91_3 k91_9 e61)) (show 0 ≤ z72.toInt from (oz_b3b25f0e49 tz72 k91_2)) (show z72.toInt ≤ 2 * z73.toInt from (oz_82982fc7e4 tz72 tz73 k91_3)) (show 0 ≤ x91_4.toInt from k91_4) (show x91_4.toInt ≤ 1 from k91_5) (show x91_4.toInt = 1 → (ma 18 p0.toNatClampNeg).toInt < 100 from k91_6) (show x91_4.toInt = 0 → 100 ≤ (ma 18 p0.toNatClampNeg).toInt from k91_7) (show 0 ≤ z73.toInt from (oz_ae613611c0 tz73 k91_8)) (show z73.toInt + p0.toInt + 1 ≤ md3 from (oz_f2f12181a2 k91_9 e61 tz73 e60)) (show p0.toInt + 1 ≤ md3 from (oz_03606900a4 k91_10 e61 e60)) (show md3 ≤ hi from hm2_md3) (show (na 14 p0.toNatClampNeg).toInt = 3 from k91_12) (show RcR ta (tf 6).toInt na ma0 d md3 hi z74 from (by rw [ez74]; exact hrr2)) (show AgV na V (tkl na ma0 ca (ma 18 p0.toNatClampNeg).toInt) z73.toInt z74 from (by rw [ez74, show z73.toInt = x91_5.toInt + 1 by omega]; exact hag3)) (show HaS na ma0 ma ca d (ma 18 p0.toNatClampNeg).toInt (na 17 p0.toNatClampNeg) z73.toInt z72.toInt z74 z64.toInt from (HaS.nx (v := v59.toInt) has (by omega) (by omega) (by omega) (by omega) htv_111 (fun q => ⟨e62, by omega, by omega⟩) (fun q => ⟨by omega, by omega⟩) ez74)) (show z72.toInt ≤ z64.toInt from (oz_b2658c9b4e tz64 tz72 e60)) (show K_mp_height_91 (RL_mp_height d) na ma ca p0 z64 z72 x91_4 z73 z74 from (fun y_v k hE => k91_17 y_v (k + 1) (Or.inr (Or.inl ⟨rfl, x91_2, x91_3, x91_4, x91_5, x91_6, rfl, rfl, rfl, rfl, rfl, Or.inr ⟨nc1, Or.inr ⟨nc4, z48, ez48, v50, e52, Or.inl ⟨nc53, nc56, v59, e63, z64, ez64, Or.inr ⟨nc65, z72, ez72, z73, ez73, z74, ez74, hE⟩⟩⟩⟩⟩)))) (show hi - md3 < (n_91 : Int) from (oz_9009d237ba hm e61 e60)) hw (lv_sub hl [7, 8, 3, 2, 9, 1, 0] rfl) | (exact ih91 md3 z64 z72 x91_4 z73 z74 _ _ ls (show 1 ≤ z64.toInt from by first | exact oz_58d7b95763 nc65 k91_0 | omega) (show z64.toInt ≤ 2 * (hi - lo) from by first | exact oz_07d5c453ac hrg.1 hm2_md3 tz64 k91_3 k91_9 e61 | omega) (show 0 ≤ z72.toInt from by first | exact oz_b3b25f0e49 tz72 k91_2 | omega) (show z72.toInt ≤ 2 * z73.toInt from by first | exact oz_82982fc7e4 tz72 tz73 k91_3 | omega) (show 0 ≤ x91_4.toInt from by first | exact k91_4 | omega) (show x91_4.toInt ≤ 1 from by first | exact k91_5 | omega) (show x91_4.toInt = 1 → (ma 18 p0.toNatClampNeg).toInt < 100 from by first | exact k91_6 | omega) (show x91_4.toInt = 0 → 100 ≤ (ma 18 p0.toNatClampNeg).toInt from by first | exact k91_7 | omega) (show 0 ≤ z73.toInt from by first | exact oz_ae613611c0 tz73 k91_8 | omega) (show z73.toInt + p0.toInt + 1 ≤ md3 from by first | exact oz_f2f12181a2 k91_9 e61 tz73 e60 | omega) (show p0.toInt + 1 ≤ md3 from by first | exact oz_03606900a4 k91_10 e61 e60 | omega) (show md3 ≤ hi from by first | exact hm2_md3 | omega) (show (na 14 p0.toNatClampNeg).toInt = 3 from by first | exact k91_12 | omega) (show RcR ta (tf 6).toInt na ma0 d md3 hi z74 from (by rw [ez74]; exact hrr2)) (show AgV na V (tkl na ma0 ca (ma 18 p0.toNatClampNeg).toInt) z73.toInt z74 from (by rw [ez74, show z73.toInt = x91_5.toInt + 1 by omega]; exact hag3)) (show HaS na ma0 ma ca d (ma 18 p0.toNatClampNeg).toInt (na 17 p0.toNatClampNeg) z73.toInt z72.toInt z74 z64.toInt from (HaS.nx (v := v59.toInt) has (by omega) (by omega) (by omega) (by omega) htv_111 (fun q => ⟨e62, by omega, by omega⟩) (fun q => ⟨by omega, by omega⟩) ez74)) (show z72.toInt ≤ z64.toInt from by first | exact oz_b2658c9b4e tz64 tz72 e60 | omega) (show K_mp_height_91 (RL_mp_height d) na ma ca p0 z64 z72 x91_4 z73 z74 from (fun y_v k hE => k91_17 y_v (k + 1) (Or.inr (Or.inl ⟨rfl, x91_2, x91_3, x91_4, x91_5, x91_6, rfl, rfl, rfl, rfl, rfl, Or.inr ⟨nc1, Or.inr ⟨nc4, z48, ez48, v50, e52, Or.inl ⟨nc53, nc56, v59, e63, z64, ez64, Or.inr ⟨nc65, z72, ez72, z73, ez73, z74, ez74, hE⟩⟩⟩⟩⟩)))) (show hi - md3 < (n_91 : Int) from by first | exact oz_9009d237ba hm e61 e60 | omega) hw (lv_sub hl [7, 8, 3, 2, 9, 1, 0] rfl))
                  · exact absurd c71 (by decide)
              · have nc56 : v50.toInt = (107 : Int) := (i_eq (x := v50) (y := 107)).mp c56
                exfalso
                omega
            · exact absurd c55 (by decide)
          · have nc53 : ¬ v50.toInt = (105 : Int) := mt (i_eq (x := v50) (y := 105)).mpr c53
            refine lv_iload S.x S.b d_Mpg_height_142 (lv_at hl 0 rfl) ?_
            refine lv_bipush (v := 107) S.x S.b d_Mpg_height_144 (by decide) ?_
            refine lv_icmp_eq (tgt := 153) S.x S.b d_Mpg_height_146 (by decide) (fun c75 => ?_) (fun c75 => ?_)
            · have nc75 : v50.toInt = (107 : Int) := (i_eq (x := v50) (y := 107)).mp c75
              exfalso
              omega
            · have nc75 : ¬ v50.toInt = (107 : Int) := mt (i_eq (x := v50) (y := 107)).mpr c75
              refine lv_iconst (v := 1) S.x S.b d_Mpg_height_149 (by decide) ?_
              refine lv_goto (tgt := 154) S.x S.b d_Mpg_height_150 (by decide) ?_
              refine lv_istore (lv' := [(8, .int 1), (7, .int v50), (0, .ref h), (1, .int p0), (2, .int x91_2), (3, .int x91_3), (4, .int x91_4), (5, .int x91_5), (6, .int x91_6)]) S.x S.b d_Mpg_height_154 hl (by decide) rfl (fun ls hl => ?_)
              refine lv_iload_n S.x S.b d_Mpg_height_156 rfl (lv_at hl 5 rfl) ?_
              refine lv_iload S.x S.b d_Mpg_height_157 (lv_at hl 0 rfl) ?_
              refine lv_if_eq (tgt := 166) S.x S.b d_Mpg_height_159 (by decide) (fun c77 => ?_) (fun c77 => ?_)
              · exact absurd c77 (by decide)
              ·
                refine lv_iconst (v := 2) S.x S.b d_Mpg_height_162 (by decide) ?_
                refine lv_goto (tgt := 183) S.x S.b d_Mpg_height_163 (by decide) ?_
                refine lv_iadd S.x S.b d_Mpg_height_183 ?_
                refine lv_topi (fun z78 ez78 => ?_)
                have tz78 : z78.toInt = (x91_3.toInt + (2 : Int) + 2147483648) % 4294967296 - 2147483648 := by rw [ez78]; exact i_add x91_3 2
                have lz78 := Int32.le_toInt z78
                have uz78 := Int32.toInt_lt z78
                try replace tz78 : z78.toInt = x91_3.toInt + (2 : Int) := by omega
                refine lv_istore (lv' := [(9, .int z78), (8, .int 1), (7, .int v50), (0, .ref h), (1, .int p0), (2, .int x91_2), (3, .int x91_3), (4, .int x91_4), (5, .int x91_5), (6, .int x91_6)]) S.x S.b d_Mpg_height_184 hl (by decide) rfl (fun ls hl => ?_)
                refine lv_iload S.x S.b d_Mpg_height_186 (lv_at hl 0 rfl) ?_
                refine lv_iload_n S.x S.b d_Mpg_height_188 rfl (lv_at hl 5 rfl) ?_
                refine lv_icmp_le (tgt := 197) S.x S.b d_Mpg_height_189 (by decide) (fun c79 => ?_) (fun c79 => ?_)
                · have nc79 : z78.toInt ≤ x91_2.toInt := (i_le (x := z78) (y := x91_2)).mp c79
                  refine lv_iload_n S.x S.b d_Mpg_height_197 rfl (lv_at hl 5 rfl) ?_
                  refine lv_istore_n (lv' := [(2, .int x91_2), (9, .int z78), (8, .int 1), (7, .int v50), (0, .ref h), (1, .int p0), (3, .int x91_3), (4, .int x91_4), (5, .int x91_5), (6, .int x91_6)]) S.x S.b d_Mpg_height_198 rfl hl (by decide) rfl (fun ls hl => ?_)
                  refine lv_iload_n S.x S.b d_Mpg_height_199 rfl (lv_at hl 6 rfl) ?_
                  refine lv_iload S.x S.b d_Mpg_height_200 (lv_at hl 2 rfl) ?_
                  refine lv_if_eq (tgt := 209) S.x S.b d_Mpg_height_202 (by decide) (fun c81 => ?_) (fun c81 => ?_)
                  · exact absurd c81 (by decide)
                  ·
                    refine lv_iconst (v := 2) S.x S.b d_Mpg_height_205 (by decide) ?_
                    refine lv_goto (tgt := 210) S.x S.b d_Mpg_height_206 (by decide) ?_
                    refine lv_iadd S.x S.b d_Mpg_height_210 ?_
                    refine lv_topi (fun z82 ez82 => ?_)
                    have tz82 : z82.toInt = (x91_3.toInt + (2 : Int) + 2147483648) % 4294967296 - 2147483648 := by rw [ez82]; exact i_add x91_3 2
                    have lz82 := Int32.le_toInt z82
                    have uz82 := Int32.toInt_lt z82
                    try replace tz82 : z82.toInt = x91_3.toInt + (2 : Int) := by omega
                    refine lv_istore_n (lv' := [(3, .int z82), (2, .int x91_2), (9, .int z78), (8, .int 1), (7, .int v50), (0, .ref h), (1, .int p0), (4, .int x91_4), (5, .int x91_5), (6, .int x91_6)]) S.x S.b d_Mpg_height_211 rfl hl (by decide) rfl (fun ls hl => ?_)
                    obtain ⟨z83, ez83⟩ : ∃ y : Int32, y = x91_5 + 1 := ⟨_, rfl⟩
                    have tz83 : z83.toInt = (x91_5.toInt + 1 + 2147483648) % 4294967296 - 2147483648 := by rw [ez83]; exact i_add x91_5 1
                    have lz83 := Int32.le_toInt z83
                    have uz83 := Int32.toInt_lt z83
                    try replace tz83 : z83.toInt = x91_5.toInt + 1 := by omega
                    refine lv_iinc (v := z83) (lv' := [(5, .int z83), (3, .int z82), (2, .int x91_2), (9, .int z78), (8, .int 1), (7, .int v50), (0, .ref h), (1, .int p0), (4, .int x91_4), (6, .int x91_6)]) S.x S.b d_Mpg_height_212 hl (k := 8) rfl (by rw [ez83]; rfl) (by decide) rfl (fun ls hl => ?_)
                    refine lv_aload_n S.x S.b d_Mpg_height_215 rfl (lv_at hl 6 rfl) ?_
                    refine gP_21 S hT hw 0 rfl m10_7 d_Mpg_height_216 ?_
                    refine lv_iload S.x S.b d_Mpg_height_219 (lv_at hl 9 rfl) ?_
                    refine px_iald S hT hw 0 17 (n := 2100) (f := (na 21)) rfl gp_21 (x := x91_6) (vp_in_iff.mpr (by constructor <;> omega)) d_Mpg_height_221 ?_
                    refine lv_topi (fun z84 ez84 => ?_)
                    have lz84 := Int32.le_toInt z84
                    have uz84 := Int32.toInt_lt z84
                    refine lv_istore (lv' := [(6, .int z84), (5, .int z83), (3, .int z82), (2, .int x91_2), (9, .int z78), (8, .int 1), (7, .int v50), (0, .ref h), (1, .int p0), (4, .int x91_4)]) S.x S.b d_Mpg_height_222 hl (by decide) rfl (fun ls hl => ?_)
                    refine lv_goto (tgt := 91) S.x S.b d_Mpg_height_224 (by decide) ?_
                    first | exact ih91 md3 x91_2 z82 x91_4 z83 z84 _ _ ls (show 1 ≤ x91_2.toInt from k91_0) (show x91_2.toInt ≤ 2 * (hi - lo) from k91_1) (show 0 ≤ z82.toInt from (oz_6c4a1e09c3 tz82 k91_2)) (show z82.toInt ≤ 2 * z83.toInt from (oz_0b0b8c8fbd tz82 tz83 k91_3)) (show 0 ≤ x91_4.toInt from k91_4) (show x91_4.toInt ≤ 1 from k91_5) (show x91_4.toInt = 1 → (ma 18 p0.toNatClampNeg).toInt < 100 from k91_6) (show x91_4.toInt = 0 → 100 ≤ (ma 18 p0.toNatClampNeg).toInt from k91_7) (show 0 ≤ z83.toInt from (oz_ae613611c0 tz83 k91_8)) (show z83.toInt + p0.toInt + 1 ≤ md3 from by omega) (show p0.toInt + 1 ≤ md3 from by omega) (show md3 ≤ hi from hm2_md3) (show (na 14 p0.toNatClampNeg).toInt = 3 from k91_12) (show RcR ta (tf 6).toInt na ma0 d md3 hi z84 from (by rw [ez84]; exact hrr2)) (show AgV na V (tkl na ma0 ca (ma 18 p0.toNatClampNeg).toInt) z83.toInt z84 from (by rw [ez84, show z83.toInt = x91_5.toInt + 1 by omega]; exact hag3)) (show HaS na ma0 ma ca d (ma 18 p0.toNatClampNeg).toInt (na 17 p0.toNatClampNeg) z83.toInt z82.toInt z84 x91_2.toInt from (HaS.nx (v := 0) has (by omega) (by omega) (by omega) (by omega) htv_111 (fun q => absurd q (by omega)) (fun q => ⟨by omega, by omega⟩) ez84)) (show z82.toInt ≤ x91_2.toInt from (oz_7e90d38d08 nc79 tz82 tz78)) (show K_mp_height_91 (RL_mp_height d) na ma ca p0 x91_2 z82 x91_4 z83 z84 from (fun y_v k hE => k91_17 y_v (k + 1) (Or.inr (Or.inl ⟨rfl, x91_2, x91_3, x91_4, x91_5, x91_6, rfl, rfl, rfl, rfl, rfl, Or.inr ⟨nc1, Or.inr ⟨nc4, z48, ez48, v50, e52, Or.inr ⟨nc53, nc75, z78, ez78, Or.inl ⟨nc79, z82, ez82, z83, ez83, z84, ez84, hE⟩⟩⟩⟩⟩)))) (show hi - md3 < (n_91 : Int) from by omega) hw (lv_sub hl [7, 8, 3, 2, 9, 1, 0] rfl) | (exact ih91 md3 x91_2 z82 x91_4 z83 z84 _ _ ls (show 1 ≤ x91_2.toInt from by first | exact k91_0 | omega) (show x91_2.toInt ≤ 2 * (hi - lo) from by first | exact k91_1 | omega) (show 0 ≤ z82.toInt from by first | exact oz_6c4a1e09c3 tz82 k91_2 | omega) (show z82.toInt ≤ 2 * z83.toInt from by first | exact oz_0b0b8c8fbd tz82 tz83 k91_3 | omega) (show 0 ≤ x91_4.toInt from by first | exact k91_4 | omega) (show x91_4.toInt ≤ 1 from by first | exact k91_5 | omega) (show x91_4.toInt = 1 → (ma 18 p0.toNatClampNeg).toInt < 100 from by first | exact k91_6 | omega) (show x91_4.toInt = 0 → 100 ≤ (ma 18 p0.toNatClampNeg).toInt from by first | exact k91_7 | omega) (show 0 ≤ z83.toInt from by first | exact oz_ae613611c0 tz83 k91_8 | omega) (show z83.toInt + p0.toInt + 1 ≤ md3 from by omega) (show p0.toInt + 1 ≤ md3 from by omega) (show md3 ≤ hi from by first | exact hm2_md3 | omega) (show (na 14 p0.toNatClampNeg).toInt = 3 from by first | exact k91_12 | omega) (show RcR ta (tf 6).toInt na ma0 d md3 hi z84 from (by rw [ez84]; exact hrr2)) (show AgV na V (tkl na ma0 ca (ma 18 p0.toNatClampNeg).toInt) z83.toInt z84 from (by rw [ez84, show z83.toInt = x91_5.toInt + 1 by omega]; exact hag3)) (show HaS na ma0 ma ca d (ma 18 p0.toNatClampNeg).toInt (na 17 p0.toNatClampNeg) z83.toInt z82.toInt z84 x91_2.toInt from (HaS.nx (v := 0) has (by omega) (by omega) (by omega) (by omega) htv_111 (fun q => absurd q (by omega)) (fun q => ⟨by omega, by omega⟩) ez84)) (show z82.toInt ≤ x91_2.toInt from by first | exact oz_7e90d38d08 nc79 tz82 tz78 | omega) (show K_mp_height_91 (RL_mp_height d) na ma ca p0 x91_2 z82 x91_4 z83 z84 from (fun y_v k hE => k91_17 y_v (k + 1) (Or.inr (Or.inl ⟨rfl, x91_2, x91_3, x91_4, x91_5, x91_6, rfl, rfl, rfl, rfl, rfl, Or.inr ⟨nc1, Or.inr ⟨nc4, z48, ez48, v50, e52, Or.inr ⟨nc53, nc75, z78, ez78, Or.inl ⟨nc79, z82, ez82, z83, ez83, z84, ez84, hE⟩⟩⟩⟩⟩)))) (show hi - md3 < (n_91 : Int) from by omega) hw (lv_sub hl [7, 8, 3, 2, 9, 1, 0] rfl))
                · have nc79 : ¬ z78.toInt ≤ x91_2.toInt := mt (i_le (x := z78) (y := x91_2)).mpr c79
                  refine lv_iload S.x S.b d_Mpg_height_192 (lv_at hl 0 rfl) ?_
                  refine lv_goto (tgt := 198) S.x S.b d_Mpg_height_194 (by decide) ?_
                  refine lv_istore_n (lv' := [(2, .int z78), (9, .int z78), (8, .int 1), (7, .int v50), (0, .ref h), (1, .int p0), (3, .int x91_3), (4, .int x91_4), (5, .int x91_5), (6, .int x91_6)]) S.x S.b d_Mpg_height_198 rfl hl (by decide) rfl (fun ls hl => ?_)
                  refine lv_iload_n S.x S.b d_Mpg_height_199 rfl (lv_at hl 6 rfl) ?_
                  refine lv_iload S.x S.b d_Mpg_height_200 (lv_at hl 2 rfl) ?_
                  refine lv_if_eq (tgt := 209) S.x S.b d_Mpg_height_202 (by decide) (fun c85 => ?_) (fun c85 => ?_)
                  · exact absurd c85 (by decide)
                  ·
                    refine lv_iconst (v := 2) S.x S.b d_Mpg_height_205 (by decide) ?_
                    refine lv_goto (tgt := 210) S.x S.b d_Mpg_height_206 (by decide) ?_
                    refine lv_iadd S.x S.b d_Mpg_height_210 ?_
                    refine lv_topi (fun z86 ez86 => ?_)
                    have tz86 : z86.toInt = (x91_3.toInt + (2 : Int) + 2147483648) % 4294967296 - 2147483648 := by rw [ez86]; exact i_add x91_3 2
                    have lz86 := Int32.le_toInt z86
                    have uz86 := Int32.toInt_lt z86
                    try replace tz86 : z86.toInt = x91_3.toInt + (2 : Int) := by omega
                    refine lv_istore_n (lv' := [(3, .int z86), (2, .int z78), (9, .int z78), (8, .int 1), (7, .int v50), (0, .ref h), (1, .int p0), (4, .int x91_4), (5, .int x91_5), (6, .int x91_6)]) S.x S.b d_Mpg_height_211 rfl hl (by decide) rfl (fun ls hl => ?_)
                    obtain ⟨z87, ez87⟩ : ∃ y : Int32, y = x91_5 + 1 := ⟨_, rfl⟩
                    have tz87 : z87.toInt = (x91_5.toInt + 1 + 2147483648) % 4294967296 - 2147483648 := by rw [ez87]; exact i_add x91_5 1
                    have lz87 := Int32.le_toInt z87
                    have uz87 := Int32.toInt_lt z87
                    try replace tz87 : z87.toInt = x91_5.toInt + 1 := by omega
                    refine lv_iinc (v := z87) (lv' := [(5, .int z87), (3, .int z86), (2, .int z78), (9, .int z78), (8, .int 1), (7, .int v50), (0, .ref h), (1, .int p0), (4, .int x91_4), (6, .int x91_6)]) S.x S.b d_Mpg_height_212 hl (k := 8) rfl (by rw [ez87]; rfl) (by decide) rfl (fun ls hl => ?_)
                    refine lv_aload_n S.x S.b d_Mpg_height_215 rfl (lv_at hl 6 rfl) ?_
                    refine gP_21 S hT hw 0 rfl m10_7 d_Mpg_height_216 ?_
                    refine lv_iload S.x S.b d_Mpg_height_219 (lv_at hl 9 rfl) ?_
                    refine px_iald S hT hw 0 17 (n := 2100) (f := (na 21)) rfl gp_21 (x := x91_6) (vp_in_iff.mpr (by constructor <;> omega)) d_Mpg_height_221 ?_
                    refine lv_topi (fun z88 ez88 => ?_)
                    have lz88 := Int32.le_toInt z88
                    have uz88 := Int32.toInt_lt z88
                    refine lv_istore (lv' := [(6, .int z88), (5, .int z87), (3, .int z86), (2, .int z78), (9, .int z78), (8, .int 1), (7, .int v50), (0, .ref h), (1, .int p0), (4, .int x91_4)]) S.x S.b d_Mpg_height_222 hl (by decide) rfl (fun ls hl => ?_)
                    refine lv_goto (tgt := 91) S.x S.b d_Mpg_height_224 (by decide) ?_
                    first | exact ih91 md3 z78 z86 x91_4 z87 z88 _ _ ls (show 1 ≤ z78.toInt from (oz_58d7b95763 nc79 k91_0)) (show z78.toInt ≤ 2 * (hi - lo) from (oz_a158216c70 hrg.1 k91_11 tz78 k91_3 k91_9)) (show 0 ≤ z86.toInt from (oz_6c4a1e09c3 tz86 k91_2)) (show z86.toInt ≤ 2 * z87.toInt from (oz_0b0b8c8fbd tz86 tz87 k91_3)) (show 0 ≤ x91_4.toInt from k91_4) (show x91_4.toInt ≤ 1 from k91_5) (show x91_4.toInt = 1 → (ma 18 p0.toNatClampNeg).toInt < 100 from k91_6) (show x91_4.toInt = 0 → 100 ≤ (ma 18 p0.toNatClampNeg).toInt from k91_7) (show 0 ≤ z87.toInt from (oz_ae613611c0 tz87 k91_8)) (show z87.toInt + p0.toInt + 1 ≤ md3 from by omega) (show p0.toInt + 1 ≤ md3 from by omega) (show md3 ≤ hi from hm2_md3) (show (na 14 p0.toNatClampNeg).toInt = 3 from k91_12) (show RcR ta (tf 6).toInt na ma0 d md3 hi z88 from (by rw [ez88]; exact hrr2)) (show AgV na V (tkl na ma0 ca (ma 18 p0.toNatClampNeg).toInt) z87.toInt z88 from (by rw [ez88, show z87.toInt = x91_5.toInt + 1 by omega]; exact hag3)) (show HaS na ma0 ma ca d (ma 18 p0.toNatClampNeg).toInt (na 17 p0.toNatClampNeg) z87.toInt z86.toInt z88 z78.toInt from (HaS.nx (v := 0) has (by omega) (by omega) (by omega) (by omega) htv_111 (fun q => absurd q (by omega)) (fun q => ⟨by omega, by omega⟩) ez88)) (show z86.toInt ≤ z78.toInt from (oz_eb1698c6c8 tz78 tz86)) (show K_mp_height_91 (RL_mp_height d) na ma ca p0 z78 z86 x91_4 z87 z88 from (fun y_v k hE => k91_17 y_v (k + 1) (Or.inr (Or.inl ⟨rfl, x91_2, x91_3, x91_4, x91_5, x91_6, rfl, rfl, rfl, rfl, rfl, Or.inr ⟨nc1, Or.inr ⟨nc4, z48, ez48, v50, e52, Or.inr ⟨nc53, nc75, z78, ez78, Or.inr ⟨nc79, z86, ez86, z87, ez87, z88, ez88, hE⟩⟩⟩⟩⟩)))) (show hi - md3 < (n_91 : Int) from by omega) hw (lv_sub hl [7, 8, 3, 2, 9, 1, 0] rfl) | (exact ih91 md3 z78 z86 x91_4 z87 z88 _ _ ls (show 1 ≤ z78.toInt from by first | exact oz_58d7b95763 nc79 k91_0 | omega) (show z78.toInt ≤ 2 * (hi - lo) from by first | exact oz_a158216c70 hrg.1 k91_11 tz78 k91_3 k91_9 | omega) (show 0 ≤ z86.toInt from by first | exact oz_6c4a1e09c3 tz86 k91_2 | omega) (show z86.toInt ≤ 2 * z87.toInt from by first | exact oz_0b0b8c8fbd tz86 tz87 k91_3 | omega) (show 0 ≤ x91_4.toInt from by first | exact k91_4 | omega) (show x91_4.toInt ≤ 1 from by first | exact k91_5 | omega) (show x91_4.toInt = 1 → (ma 18 p0.toNatClampNeg).toInt < 100 from by first | exact k91_6 | omega) (show x91_4.toInt = 0 → 100 ≤ (ma 18 p0.toNatClampNeg).toInt from by first | exact k91_7 | omega) (show 0 ≤ z87.toInt from by first | exact oz_ae613611c0 tz87 k91_8 | omega) (show z87.toInt + p0.toInt + 1 ≤ md3 from by omega) (show p0.toInt + 1 ≤ md3 from by omega) (show md3 ≤ hi from by first | exact hm2_md3 | omega) (show (na 14 p0.toNatClampNeg).toInt = 3 from by first | exact k91_12 | omega) (show RcR ta (tf 6).toInt na ma0 d md3 hi z88 from (by rw [ez88]; exact hrr2)) (show AgV na V (tkl na ma0 ca (ma 18 p0.toNatClampNeg).toInt) z87.toInt z88 from (by rw [ez88, show z87.toInt = x91_5.toInt + 1 by omega]; exact hag3)) (show HaS na ma0 ma ca d (ma 18 p0.toNatClampNeg).toInt (na 17 p0.toNatClampNeg) z87.toInt z86.toInt z88 z78.toInt from (HaS.nx (v := 0) has (by omega) (by omega) (by omega) (by omega) htv_111 (fun q => absurd q (by omega)) (fun q => ⟨by omega, by omega⟩) ez88)) (show z86.toInt ≤ z78.toInt from by first | exact oz_eb1698c6c8 tz78 tz86 | omega) (show K_mp_height_91 (RL_mp_height d) na ma ca p0 z78 z86 x91_4 z87 z88 from (fun y_v k hE => k91_17 y_v (k + 1) (Or.inr (Or.inl ⟨rfl, x91_2, x91_3, x91_4, x91_5, x91_6, rfl, rfl, rfl, rfl, rfl, Or.inr ⟨nc1, Or.inr ⟨nc4, z48, ez48, v50, e52, Or.inr ⟨nc53, nc75, z78, ez78, Or.inr ⟨nc79, z86, ez86, z87, ez87, z88, ez88, hE⟩⟩⟩⟩⟩)))) (show hi - md3 < (n_91 : Int) from by omega) hw (lv_sub hl [7, 8, 3, 2, 9, 1, 0] rfl))
  have J265 : ∀ (n_265 : Nat)  (mid_265 : Int) (x265_6 x265_7 : Int32) (H : Heap) (locs : List Loc) (ls : Array Slot), (1 ≤ x265_6.toInt) → (x265_6.toInt ≤ 2 * (hi - lo)) → (lo < mid_265) → (mid_265 ≤ hi) → ((na 14 p0.toNatClampNeg).toInt = 7) → (RcM ta (tf 6).toInt na ma0 d p0 mid_265 hi x265_7) → (RwV0 na V 0 x265_7) → (HgB na ma0 ma (tkl na ma0 ca) d (na 17 p0.toNatClampNeg) x265_6.toInt) → (HgS na ma0 ma ca d (na 21 (na 17 p0.toNatClampNeg).toNatClampNeg) x265_7 x265_6.toInt) → (K_mp_height_265 (RL_mp_height d) na ma ca p0 x265_6 x265_7) → hi - mid_265 < (n_265 : Int) → pw D A s.heap H locs [wdP cs h r g tf ta pf na ma wa cf ca ef ea xf xa] → lv_has ls 12 [(0, .ref h), (1, .int p0), (6, .int x265_6), (7, .int x265_7)] → W p l e { frames := (2 * (d + 1) + 8), cells := 0, slots := 0, locals := (100 * (d + 1) + 260) } s m [.ref h, .int p0].toArray below meth c H locs 0 0 (MQ below (va_Qi (fun v ps => (ps = [wdP cs h r g tf ta pf na ma wa cf ca ef ea xf xa]) ∧ (1 ≤ v.toInt) ∧ (v.toInt ≤ 2 * (hi - lo)) ∧ (HgB na ma0 ma (tkl na ma0 ca) (d + 1) p0 v.toInt) ∧ (R_mp_height (RL_mp_height d) na ma ca p0 v)) (pc_B D (va_A ([wdP cs h r g tf ta pf na ma wa cf ca ef ea xf xa] : List va_W).flatten s.heap.size)) (va_A ([wdP cs h r g tf ta pf na ma wa cf ca ef ea xf xa] : List va_W).flatten s.heap.size)) [.ref h, .int p0].toArray s 0 0 A) (F0 m 265 ls []) := by
    intro  n_265
    induction n_265 with
    | zero =>
      intro mid_265 x265_6 x265_7 H locs ls k265_0 k265_1 k265_2 k265_3 k265_4 k265_5 k265_6 k265_7 k265_8 k265_9 hm hw hl
      have lx265_6 := Int32.le_toInt x265_6
      have ux265_6 := Int32.toInt_lt x265_6
      have lx265_7 := Int32.le_toInt x265_7
      have ux265_7 := Int32.toInt_lt x265_7
      have hrm := k265_5
      have hrw := k265_6
      have hgf := k265_7
      have hgs := k265_8
      exact absurd hm (by omega)
    | succ n_265 ih265 =>
      intro mid_265 x265_6 x265_7 H locs ls k265_0 k265_1 k265_2 k265_3 k265_4 k265_5 k265_6 k265_7 k265_8 k265_9 hm hw hl
      have lx265_6 := Int32.le_toInt x265_6
      have ux265_6 := Int32.toInt_lt x265_6
      have lx265_7 := Int32.le_toInt x265_7
      have ux265_7 := Int32.toInt_lt x265_7
      have hrm := k265_5
      have hrw := k265_6
      have hgf := k265_7
      have hgs := k265_8
      refine lv_iload S.x S.b d_Mpg_height_265 (lv_at hl 3 rfl) ?_
      refine lv_if_lt (tgt := 308) S.x S.b d_Mpg_height_267 (by decide) (fun c89 => ?_) (fun c89 => ?_)
      · have nc89 : x265_7.toInt < (0 : Int) := (i_lt (x := x265_7) (y := 0)).mp c89
        refine lv_iload S.x S.b d_Mpg_height_308 (lv_at hl 2 rfl) ?_
        first | exact px_iret (v := x265_6) S hr rfl hlk hAe hw (Nat.le_of_ble_eq_true rfl) (Nat.le_of_ble_eq_true rfl) (⟨rfl, (show 1 ≤ x265_6.toInt from k265_0), (show x265_6.toInt ≤ 2 * (hi - lo) from k265_1), (show HgB na ma0 ma (tkl na ma0 ca) (d + 1) p0 x265_6.toInt from (hgs.elim fun m9 g9 => ⟨by omega, Or.inr (Or.inr (Or.inr (Or.inr (Or.inl (⟨by omega, hgf, m9, g9.row (by omega)⟩)))))⟩)), (show R_mp_height (RL_mp_height d) na ma ca p0 x265_6 from (k265_9 _ 1 (Or.inr (Or.inr (Or.inl ⟨rfl, x265_6, x265_7, rfl, rfl, rfl, rfl, rfl, Or.inl ⟨nc89, rfl⟩⟩)))))⟩) d_Mpg_height_310 | (exact px_iret (v := x265_6) S hr rfl hlk hAe hw (Nat.le_of_ble_eq_true rfl) (Nat.le_of_ble_eq_true rfl) (⟨rfl, (show 1 ≤ x265_6.toInt from by first | exact k265_0 | omega), (show x265_6.toInt ≤ 2 * (hi - lo) from by first | exact k265_1 | omega), (show HgB na ma0 ma (tkl na ma0 ca) (d + 1) p0 x265_6.toInt from (hgs.elim fun m9 g9 => ⟨by omega, Or.inr (Or.inr (Or.inr (Or.inr (Or.inl (⟨by omega, hgf, m9, g9.row (by omega)⟩)))))⟩)), (show R_mp_height (RL_mp_height d) na ma ca p0 x265_6 from (k265_9 _ 1 (Or.inr (Or.inr (Or.inl ⟨rfl, x265_6, x265_7, rfl, rfl, rfl, rfl, rfl, Or.inl ⟨nc89, rfl⟩⟩)))))⟩) d_Mpg_height_310)
      · have nc89 : ¬ x265_7.toInt < (0 : Int) := mt (i_lt (x := x265_7) (y := 0)).mpr c89
        refine lv_iconst (v := 1) S.x S.b d_Mpg_height_270 (by decide) ?_
        obtain ⟨md91, hm1_md91, hm2_md91, ⟨hec_x265_7, hne_md91, hmk_md91⟩, hx3_md91, hrm2⟩ := RcE.step hrm (by omega); obtain ⟨hvn_x265_7, hrw2⟩ := RwV0.go hrw (by omega) rfl
        refine lv_aload_n S.x S.b d_Mpg_height_271 rfl (lv_at hl 0 rfl) ?_
        refine lv_iload S.x S.b d_Mpg_height_272 (lv_at hl 3 rfl) ?_
        first | refine px_calli (pr := []) (px_runV (As := [.int x265_7]) (rest := [.int 1]) S (hLH ma0 ys ns nf mid_265 md91 V vl vh h r g tf ta pf na ma wa cf ca ef ea xf xa x265_7 (show 0 ≤ mid_265 from (oz_0a7da9c4d6 k265_2 g0)) (show md91 ≤ (pf 13).toInt from (oz_bbb5b20c1a g1 hm2_md91)) (show (pf 13).toInt ≤ 2100 from g2) (show (tf 6).toInt ≤ 2049 from g3) (show (cf 38).toInt = nf from g4) (show 0 ≤ nf from g5) htk (FnT.eq hft (by omega)) hfp han hts hec_x265_7 hvn_x265_7 _) hT (pr := []) (pcs := [wdP cs h r g tf ta pf na ma wa cf ca ef ea xf xa]) hw (oX_call (P := (fun A U H => (oP A g U H))) (pr := []) oG_P hw hA hP) (px_recv hT hw 0 0 rfl rfl rfl) m13_65 m13_62 m13_64 ms_13_13 m1_21 q_Mpg_height ⟨show (2 * d + 8) + 1 ≤ (2 * (d + 1) + 8) from (oz_07fbb325ca), show 8 + (12 + 11) + (100 * d + 260) ≤ (100 * (d + 1) + 260) from (oz_22f1a200d8)⟩ hl.1 rfl (Nat.le_of_ble_eq_true rfl) d_Mpg_height_274 ⟨Nat.le_of_ble_eq_true rfl, Nat.le_of_ble_eq_true rfl⟩) hw hA (fun v93 p92 H locs hp92 hw => ?_) | (refine px_calli (pr := []) (px_runV (As := [.int x265_7]) (rest := [.int 1]) S (hLH ma0 ys ns nf mid_265 md91 V vl vh h r g tf ta pf na ma wa cf ca ef ea xf xa x265_7 (show 0 ≤ mid_265 from by first | exact oz_0a7da9c4d6 k265_2 g0 | omega) (show md91 ≤ (pf 13).toInt from by first | exact oz_bbb5b20c1a g1 hm2_md91 | omega) (show (pf 13).toInt ≤ 2100 from by first | exact g2 | omega) (show (tf 6).toInt ≤ 2049 from by first | exact g3 | omega) (show (cf 38).toInt = nf from by first | exact g4 | omega) (show 0 ≤ nf from by first | exact g5 | omega) htk (FnT.eq hft (by omega)) hfp han hts hec_x265_7 hvn_x265_7 _) hT (pr := []) (pcs := [wdP cs h r g tf ta pf na ma wa cf ca ef ea xf xa]) hw (oX_call (P := (fun A U H => (oP A g U H))) (pr := []) oG_P hw hA hP) (px_recv hT hw 0 0 rfl rfl rfl) m13_65 m13_62 m13_64 ms_13_13 m1_21 q_Mpg_height ⟨show (2 * d + 8) + 1 ≤ (2 * (d + 1) + 8) from (by first | exact oz_07fbb325ca | omega), show 8 + (12 + 11) + (100 * d + 260) ≤ (100 * (d + 1) + 260) from (by first | exact oz_22f1a200d8 | omega)⟩ hl.1 rfl (Nat.le_of_ble_eq_true rfl) d_Mpg_height_274 ⟨Nat.le_of_ble_eq_true rfl, Nat.le_of_ble_eq_true rfl⟩) hw hA (fun v93 p92 H locs hp92 hw => ?_))
        obtain ⟨rfl, e94, e95, e96, e97⟩ := hp92
        have e94 : 1 ≤ v93.toInt := e94
        have e95 : v93.toInt ≤ 2 * (md91 - mid_265) := e95
        have e96 : HgB na ma0 ma (tkl na ma0 ca) d x265_7 v93.toInt := e96
        have e97 : RL_mp_height d na ma ca x265_7 v93 := e97
        have lv93 := Int32.le_toInt v93
        have uv93 := Int32.toInt_lt v93
        refine lv_iadd S.x S.b d_Mpg_height_277 ?_
        refine lv_topi (fun z98 ez98 => ?_)
        have tz98 : z98.toInt = ((1 : Int) + v93.toInt + 2147483648) % 4294967296 - 2147483648 := by rw [ez98]; exact i_add 1 v93
        have lz98 := Int32.le_toInt z98
        have uz98 := Int32.toInt_lt z98
        try replace tz98 : z98.toInt = (1 : Int) + v93.toInt := by omega
        refine lv_istore (lv' := [(8, .int z98), (0, .ref h), (1, .int p0), (6, .int x265_6), (7, .int x265_7)]) S.x S.b d_Mpg_height_278 hl (by decide) rfl (fun ls hl => ?_)
        refine lv_iload S.x S.b d_Mpg_height_280 (lv_at hl 0 rfl) ?_
        refine lv_iload S.x S.b d_Mpg_height_282 (lv_at hl 3 rfl) ?_
        refine lv_icmp_le (tgt := 292) S.x S.b d_Mpg_height_284 (by decide) (fun c99 => ?_) (fun c99 => ?_)
        · have nc99 : z98.toInt ≤ x265_6.toInt := (i_le (x := z98) (y := x265_6)).mp c99
          refine lv_iload S.x S.b d_Mpg_height_292 (lv_at hl 3 rfl) ?_
          refine lv_istore (lv' := [(6, .int x265_6), (8, .int z98), (0, .ref h), (1, .int p0), (7, .int x265_7)]) S.x S.b d_Mpg_height_294 hl (by decide) rfl (fun ls hl => ?_)
          refine lv_aload_n S.x S.b d_Mpg_height_296 rfl (lv_at hl 2 rfl) ?_
          refine gP_21 S hT hw 0 rfl m10_7 d_Mpg_height_297 ?_
          refine lv_iload S.x S.b d_Mpg_height_300 (lv_at hl 4 rfl) ?_
          refine px_iald S hT hw 0 17 (n := 2100) (f := (na 21)) rfl gp_21 (x := x265_7) (vp_in_iff.mpr (by constructor <;> omega)) d_Mpg_height_302 ?_
          refine lv_topi (fun z101 ez101 => ?_)
          have lz101 := Int32.le_toInt z101
          have uz101 := Int32.toInt_lt z101
          refine lv_istore (lv' := [(7, .int z101), (6, .int x265_6), (8, .int z98), (0, .ref h), (1, .int p0)]) S.x S.b d_Mpg_height_303 hl (by decide) rfl (fun ls hl => ?_)
          refine lv_goto (tgt := 265) S.x S.b d_Mpg_height_305 (by decide) ?_
          first | exact ih265 md91 x265_6 z101 _ _ ls (show 1 ≤ x265_6.toInt from k265_0) (show x265_6.toInt ≤ 2 * (hi - lo) from k265_1) (show lo < md91 from (oz_3f400c68fe k265_2 e95 e94)) (show md91 ≤ hi from hm2_md91) (show (na 14 p0.toNatClampNeg).toInt = 7 from k265_4) (show RcM ta (tf 6).toInt na ma0 d p0 md91 hi z101 from (by rw [ez101]; exact hrm2)) (show RwV0 na V 0 z101 from (by rw [ez101]; exact hrw2)) (show HgB na ma0 ma (tkl na ma0 ca) d (na 17 p0.toNatClampNeg) x265_6.toInt from (HgB.mono hgf (by omega))) (show HgS na ma0 ma ca d (na 21 (na 17 p0.toNatClampNeg).toNatClampNeg) z101 x265_6.toInt from (HgS.nx hgs (by omega) e96 (by omega) ez101)) (show K_mp_height_265 (RL_mp_height d) na ma ca p0 x265_6 z101 from (fun y_v k hE => k265_9 y_v (k + 1) (Or.inr (Or.inr (Or.inl ⟨rfl, x265_6, x265_7, rfl, rfl, rfl, rfl, rfl, Or.inr ⟨nc89, v93, e97, z98, ez98, Or.inl ⟨nc99, z101, ez101, hE⟩⟩⟩))))) (show hi - md91 < (n_265 : Int) from (oz_9009d237ba hm e95 e94)) hw (lv_sub hl [3, 4, 1, 0] rfl) | (exact ih265 md91 x265_6 z101 _ _ ls (show 1 ≤ x265_6.toInt from by first | exact k265_0 | omega) (show x265_6.toInt ≤ 2 * (hi - lo) from by first | exact k265_1 | omega) (show lo < md91 from by first | exact oz_3f400c68fe k265_2 e95 e94 | omega) (show md91 ≤ hi from by first | exact hm2_md91 | omega) (show (na 14 p0.toNatClampNeg).toInt = 7 from by first | exact k265_4 | omega) (show RcM ta (tf 6).toInt na ma0 d p0 md91 hi z101 from (by rw [ez101]; exact hrm2)) (show RwV0 na V 0 z101 from (by rw [ez101]; exact hrw2)) (show HgB na ma0 ma (tkl na ma0 ca) d (na 17 p0.toNatClampNeg) x265_6.toInt from (HgB.mono hgf (by omega))) (show HgS na ma0 ma ca d (na 21 (na 17 p0.toNatClampNeg).toNatClampNeg) z101 x265_6.toInt from (HgS.nx hgs (by omega) e96 (by omega) ez101)) (show K_mp_height_265 (RL_mp_height d) na ma ca p0 x265_6 z101 from (fun y_v k hE => k265_9 y_v (k + 1) (Or.inr (Or.inr (Or.inl ⟨rfl, x265_6, x265_7, rfl, rfl, rfl, rfl, rfl, Or.inr ⟨nc89, v93, e97, z98, ez98, Or.inl ⟨nc99, z101, ez101, hE⟩⟩⟩))))) (show hi - md91 < (n_265 : Int) from by first | exact oz_9009d237ba hm e95 e94 | omega) hw (lv_sub hl [3, 4, 1, 0] rfl))
        · have nc99 : ¬ z98.toInt ≤ x265_6.toInt := mt (i_le (x := z98) (y := x265_6)).mpr c99
          refine lv_iload S.x S.b d_Mpg_height_287 (lv_at hl 0 rfl) ?_
          refine lv_goto (tgt := 294) S.x S.b d_Mpg_height_289 (by decide) ?_
          refine lv_istore (lv' := [(6, .int z98), (8, .int z98), (0, .ref h), (1, .int p0), (7, .int x265_7)]) S.x S.b d_Mpg_height_294 hl (by decide) rfl (fun ls hl => ?_)
          refine lv_aload_n S.x S.b d_Mpg_height_296 rfl (lv_at hl 2 rfl) ?_
          refine gP_21 S hT hw 0 rfl m10_7 d_Mpg_height_297 ?_
          refine lv_iload S.x S.b d_Mpg_height_300 (lv_at hl 4 rfl) ?_
          refine px_iald S hT hw 0 17 (n := 2100) (f := (na 21)) rfl gp_21 (x := x265_7) (vp_in_iff.mpr (by constructor <;> omega)) d_Mpg_height_302 ?_
          refine lv_topi (fun z102 ez102 => ?_)
          have lz102 := Int32.le_toInt z102
          have uz102 := Int32.toInt_lt z102
          refine lv_istore (lv' := [(7, .int z102), (6, .int z98), (8, .int z98), (0, .ref h), (1, .int p0)]) S.x S.b d_Mpg_height_303 hl (by decide) rfl (fun ls hl => ?_)
          refine lv_goto (tgt := 265) S.x S.b d_Mpg_height_305 (by decide) ?_
          first | exact ih265 md91 z98 z102 _ _ ls (show 1 ≤ z98.toInt from (oz_58d7b95763 nc99 k265_0)) (show z98.toInt ≤ 2 * (hi - lo) from (oz_41a80e4c03 k265_2 hm2_md91 tz98 e95)) (show lo < md91 from (oz_3f400c68fe k265_2 e95 e94)) (show md91 ≤ hi from hm2_md91) (show (na 14 p0.toNatClampNeg).toInt = 7 from k265_4) (show RcM ta (tf 6).toInt na ma0 d p0 md91 hi z102 from (by rw [ez102]; exact hrm2)) (show RwV0 na V 0 z102 from (by rw [ez102]; exact hrw2)) (show HgB na ma0 ma (tkl na ma0 ca) d (na 17 p0.toNatClampNeg) z98.toInt from (HgB.mono hgf (by omega))) (show HgS na ma0 ma ca d (na 21 (na 17 p0.toNatClampNeg).toNatClampNeg) z102 z98.toInt from (HgS.nx hgs (by omega) e96 (by omega) ez102)) (show K_mp_height_265 (RL_mp_height d) na ma ca p0 z98 z102 from (fun y_v k hE => k265_9 y_v (k + 1) (Or.inr (Or.inr (Or.inl ⟨rfl, x265_6, x265_7, rfl, rfl, rfl, rfl, rfl, Or.inr ⟨nc89, v93, e97, z98, ez98, Or.inr ⟨nc99, z102, ez102, hE⟩⟩⟩))))) (show hi - md91 < (n_265 : Int) from (oz_9009d237ba hm e95 e94)) hw (lv_sub hl [3, 4, 1, 0] rfl) | (exact ih265 md91 z98 z102 _ _ ls (show 1 ≤ z98.toInt from by first | exact oz_58d7b95763 nc99 k265_0 | omega) (show z98.toInt ≤ 2 * (hi - lo) from by first | exact oz_41a80e4c03 k265_2 hm2_md91 tz98 e95 | omega) (show lo < md91 from by first | exact oz_3f400c68fe k265_2 e95 e94 | omega) (show md91 ≤ hi from by first | exact hm2_md91 | omega) (show (na 14 p0.toNatClampNeg).toInt = 7 from by first | exact k265_4 | omega) (show RcM ta (tf 6).toInt na ma0 d p0 md91 hi z102 from (by rw [ez102]; exact hrm2)) (show RwV0 na V 0 z102 from (by rw [ez102]; exact hrw2)) (show HgB na ma0 ma (tkl na ma0 ca) d (na 17 p0.toNatClampNeg) z98.toInt from (HgB.mono hgf (by omega))) (show HgS na ma0 ma ca d (na 21 (na 17 p0.toNatClampNeg).toNatClampNeg) z102 z98.toInt from (HgS.nx hgs (by omega) e96 (by omega) ez102)) (show K_mp_height_265 (RL_mp_height d) na ma ca p0 z98 z102 from (fun y_v k hE => k265_9 y_v (k + 1) (Or.inr (Or.inr (Or.inl ⟨rfl, x265_6, x265_7, rfl, rfl, rfl, rfl, rfl, Or.inr ⟨nc89, v93, e97, z98, ez98, Or.inr ⟨nc99, z102, ez102, hE⟩⟩⟩))))) (show hi - md91 < (n_265 : Int) from by first | exact oz_9009d237ba hm e95 e94 | omega) hw (lv_sub hl [3, 4, 1, 0] rfl))
  refine lv_aload_n S.x S.b d_Mpg_height_0 rfl (lv_at hl 0 rfl) ?_
  refine gP_14 S hT hw 0 rfl m9_238 d_Mpg_height_1 ?_
  refine lv_iload_n S.x S.b d_Mpg_height_4 rfl (lv_at hl 1 rfl) ?_
  refine px_bald S hT hw 0 10 (n := 2100) (f := (na 14)) rfl gp_14 (x := p0) (vp_in_iff.mpr (by first | exact oz_a7e05de1cd hrg.2.2 hrg.2.1 g1 g2 | (constructor <;> omega))) d_Mpg_height_5 ?_
  refine lv_topi (fun z103 ez103 => ?_)
  have lz103 := Int32.le_toInt z103
  have uz103 := Int32.toInt_lt z103
  have rz103 := EcV.kd hec_p0 ez103
  refine px_tabD S (dt := 445) [(56, [1, 2]), (58, [3]), (229, [4]), (445, [5, 6]), (240, [7]), (311, [8]), (378, [9])] d_Mpg_height_6 (by decide +kernel) (by decide) (by decide +kernel) ?_ ?_
  · intro hdf_6
    refine lv_aload_n S.x S.b d_Mpg_height_445 rfl (lv_at hl 0 rfl) ?_
    refine lv_aload_n S.x S.b d_Mpg_height_446 rfl (lv_at hl 0 rfl) ?_
    refine gP_17 S hT hw 0 rfl m10_1 d_Mpg_height_447 ?_
    refine lv_iload_n S.x S.b d_Mpg_height_450 rfl (lv_at hl 1 rfl) ?_
    refine px_iald S hT hw 0 13 (n := 2100) (f := (na 17)) rfl gp_17 (x := p0) (vp_in_iff.mpr (by first | exact oz_a7e05de1cd hrg.2.2 hrg.2.1 g1 g2 | (constructor <;> omega))) d_Mpg_height_451 ?_
    refine lv_topi (fun z105 ez105 => ?_)
    have lz105 := Int32.le_toInt z105
    have uz105 := Int32.toInt_lt z105
    have hec_z105 := EcV.k56 hec_p0 (by omega) ez105; have hrg_z105 := EcV.rng hec_z105
    have hvn_z105 : V z105.toNatClampNeg 0 := (by rw [ez105]; exact (LcE.k46 hlc (by omega)))
    first | refine px_calli (pr := []) (px_runV (As := [.int z105]) (rest := []) S (hLH ma0 ys ns nf lo p0.toInt V vl vh h r g tf ta pf na ma wa cf ca ef ea xf xa z105 (show 0 ≤ lo from g0) (show p0.toInt ≤ (pf 13).toInt from (oz_6996e0781a g1 hrg.2.1)) (show (pf 13).toInt ≤ 2100 from g2) (show (tf 6).toInt ≤ 2049 from g3) (show (cf 38).toInt = nf from g4) (show 0 ≤ nf from g5) htk (FnT.eq hft (by omega)) hfp han hts hec_z105 hvn_z105 _) hT (pr := []) (pcs := [wdP cs h r g tf ta pf na ma wa cf ca ef ea xf xa]) hw (oX_call (P := (fun A U H => (oP A g U H))) (pr := []) oG_P hw hA hP) (px_recv hT hw 0 0 rfl rfl rfl) m13_65 m13_62 m13_64 ms_13_13 m1_21 q_Mpg_height ⟨show (2 * d + 8) + 1 ≤ (2 * (d + 1) + 8) from (oz_07fbb325ca), show 8 + (12 + 11) + (100 * d + 260) ≤ (100 * (d + 1) + 260) from (oz_22f1a200d8)⟩ hl.1 rfl (Nat.le_of_ble_eq_true rfl) d_Mpg_height_452 ⟨Nat.le_of_ble_eq_true rfl, Nat.le_of_ble_eq_true rfl⟩) hw hA (fun v107 p106 H locs hp106 hw => ?_) | (refine px_calli (pr := []) (px_runV (As := [.int z105]) (rest := []) S (hLH ma0 ys ns nf lo p0.toInt V vl vh h r g tf ta pf na ma wa cf ca ef ea xf xa z105 (show 0 ≤ lo from by first | exact g0 | omega) (show p0.toInt ≤ (pf 13).toInt from by first | exact oz_6996e0781a g1 hrg.2.1 | omega) (show (pf 13).toInt ≤ 2100 from by first | exact g2 | omega) (show (tf 6).toInt ≤ 2049 from by first | exact g3 | omega) (show (cf 38).toInt = nf from by first | exact g4 | omega) (show 0 ≤ nf from by first | exact g5 | omega) htk (FnT.eq hft (by omega)) hfp han hts hec_z105 hvn_z105 _) hT (pr := []) (pcs := [wdP cs h r g tf ta pf na ma wa cf ca ef ea xf xa]) hw (oX_call (P := (fun A U H => (oP A g U H))) (pr := []) oG_P hw hA hP) (px_recv hT hw 0 0 rfl rfl rfl) m13_65 m13_62 m13_64 ms_13_13 m1_21 q_Mpg_height ⟨show (2 * d + 8) + 1 ≤ (2 * (d + 1) + 8) from (by first | exact oz_07fbb325ca | omega), show 8 + (12 + 11) + (100 * d + 260) ≤ (100 * (d + 1) + 260) from (by first | exact oz_22f1a200d8 | omega)⟩ hl.1 rfl (Nat.le_of_ble_eq_true rfl) d_Mpg_height_452 ⟨Nat.le_of_ble_eq_true rfl, Nat.le_of_ble_eq_true rfl⟩) hw hA (fun v107 p106 H locs hp106 hw => ?_))
    obtain ⟨rfl, e108, e109, e110, e111⟩ := hp106
    have e108 : 1 ≤ v107.toInt := e108
    have e109 : v107.toInt ≤ 2 * (p0.toInt - lo) := e109
    have e110 : HgB na ma0 ma (tkl na ma0 ca) d z105 v107.toInt := e110
    have e111 : RL_mp_height d na ma ca z105 v107 := e111
    have lv107 := Int32.le_toInt v107
    have uv107 := Int32.toInt_lt v107
    first | exact px_iret (v := v107) S hr rfl hlk hAe hw (Nat.le_of_ble_eq_true rfl) (Nat.le_of_ble_eq_true rfl) (⟨rfl, (show 1 ≤ v107.toInt from e108), (show v107.toInt ≤ 2 * (hi - lo) from (oz_b6e6ff28b8 hrg.2.1 e109)), (show HgB na ma0 ma (tkl na ma0 ca) (d + 1) p0 v107.toInt from ⟨by omega, Or.inr (Or.inr (Or.inr (Or.inl (⟨by omega, by omega, by rw [← ez105]; exact (HgB.mono e110 (by omega))⟩))))⟩), (show R_mp_height (RL_mp_height d) na ma ca p0 v107 from (Exists.intro 1 (Or.inl ⟨rfl, z103, ez103, Or.inl ⟨hdf_6, z105, ez105, v107, e111, rfl⟩⟩)))⟩) d_Mpg_height_455 | (exact px_iret (v := v107) S hr rfl hlk hAe hw (Nat.le_of_ble_eq_true rfl) (Nat.le_of_ble_eq_true rfl) (⟨rfl, (show 1 ≤ v107.toInt from by first | exact e108 | omega), (show v107.toInt ≤ 2 * (hi - lo) from by first | exact oz_b6e6ff28b8 hrg.2.1 e109 | omega), (show HgB na ma0 ma (tkl na ma0 ca) (d + 1) p0 v107.toInt from ⟨by omega, Or.inr (Or.inr (Or.inr (Or.inl (⟨by omega, by omega, by rw [← ez105]; exact (HgB.mono e110 (by omega))⟩))))⟩), (show R_mp_height (RL_mp_height d) na ma ca p0 v107 from (Exists.intro 1 (Or.inl ⟨rfl, z103, ez103, Or.inl ⟨hdf_6, z105, ez105, v107, e111, rfl⟩⟩)))⟩) d_Mpg_height_455)
  · refine List.forall_mem_cons.mpr ⟨fun c112 => ?_, List.forall_mem_cons.mpr ⟨fun c112 => ?_, List.forall_mem_cons.mpr ⟨fun c112 => ?_, List.forall_mem_cons.mpr ⟨fun c112 => ?_, List.forall_mem_cons.mpr ⟨fun c112 => ?_, List.forall_mem_cons.mpr ⟨fun c112 => ?_, List.forall_mem_cons.mpr ⟨fun c112 => ?_, fun _ h => absurd h List.not_mem_nil⟩⟩⟩⟩⟩⟩⟩
    · simp only [List.mem_cons, List.not_mem_nil, or_false] at c112
      refine lv_iconst (v := 1) S.x S.b d_Mpg_height_56 (by decide) ?_
      first | exact px_iret (v := 1) S hr rfl hlk hAe hw (Nat.le_of_ble_eq_true rfl) (Nat.le_of_ble_eq_true rfl) (⟨rfl, (show 1 ≤ (1 : Int) from oz_5ec2f32d28), (show (1 : Int) ≤ 2 * (hi - lo) from (oz_379898b557 hrg.1 hrg.2.1)), (show HgB na ma0 ma (tkl na ma0 ca) (d + 1) p0 (1 : Int) from ⟨by omega, (show (na 14 p0.toNatClampNeg).toInt = 1 ∨ (na 14 p0.toNatClampNeg).toInt = 2 by omega).elim (fun r9 => Or.inl r9) (fun r9 => Or.inr (Or.inl r9))⟩), (show R_mp_height (RL_mp_height d) na ma ca p0 (1 : Int32) from (Exists.intro 1 (Or.inl ⟨rfl, z103, ez103, Or.inr (Or.inl ⟨c112, rfl⟩)⟩)))⟩) d_Mpg_height_57 | (exact px_iret (v := 1) S hr rfl hlk hAe hw (Nat.le_of_ble_eq_true rfl) (Nat.le_of_ble_eq_true rfl) (⟨rfl, (show 1 ≤ (1 : Int) from by first | exact oz_5ec2f32d28 | omega), (show (1 : Int) ≤ 2 * (hi - lo) from by first | exact oz_379898b557 hrg.1 hrg.2.1 | omega), (show HgB na ma0 ma (tkl na ma0 ca) (d + 1) p0 (1 : Int) from ⟨by omega, (show (na 14 p0.toNatClampNeg).toInt = 1 ∨ (na 14 p0.toNatClampNeg).toInt = 2 by omega).elim (fun r9 => Or.inl r9) (fun r9 => Or.inr (Or.inl r9))⟩), (show R_mp_height (RL_mp_height d) na ma ca p0 (1 : Int32) from (Exists.intro 1 (Or.inl ⟨rfl, z103, ez103, Or.inr (Or.inl ⟨c112, rfl⟩)⟩)))⟩) d_Mpg_height_57)
    · simp only [List.mem_cons, List.not_mem_nil, or_false] at c112
      refine lv_iconst (v := 1) S.x S.b d_Mpg_height_58 (by decide) ?_
      refine lv_istore_n (lv' := [(2, .int 1), (0, .ref h), (1, .int p0)]) S.x S.b d_Mpg_height_59 rfl hl (by decide) rfl (fun ls hl => ?_)
      refine lv_iconst (v := 0) S.x S.b d_Mpg_height_60 (by decide) ?_
      refine lv_istore_n (lv' := [(3, .int 0), (2, .int 1), (0, .ref h), (1, .int p0)]) S.x S.b d_Mpg_height_61 rfl hl (by decide) rfl (fun ls hl => ?_)
      refine lv_aload_n S.x S.b d_Mpg_height_62 rfl (lv_at hl 2 rfl) ?_
      refine gP_18 S hT hw 0 rfl m10_3 d_Mpg_height_63 ?_
      refine lv_iload_n S.x S.b d_Mpg_height_66 rfl (lv_at hl 3 rfl) ?_
      refine px_iald S hT hw 0 14 (n := 2100) (f := (ma 18)) rfl gp_18 (x := p0) (vp_in_iff.mpr (by first | exact oz_a7e05de1cd hrg.2.2 hrg.2.1 g1 g2 | (constructor <;> omega))) d_Mpg_height_67 ?_
      refine lv_topi (fun z113 ez113 => ?_)
      have lz113 := Int32.le_toInt z113
      have uz113 := Int32.toInt_lt z113
      have rz113 : z113.toInt = (ma 18 p0.toNatClampNeg).toInt := by rw [ez113]
      refine lv_bipush (v := 100) S.x S.b d_Mpg_height_68 (by decide) ?_
      refine lv_icmp_ge (tgt := 77) S.x S.b d_Mpg_height_70 (by decide) (fun c114 => ?_) (fun c114 => ?_)
      · have nc114 : (100 : Int) ≤ z113.toInt := (i_le (x := 100) (y := z113)).mp c114
        refine lv_iconst (v := 0) S.x S.b d_Mpg_height_77 (by decide) ?_
        refine lv_istore (lv' := [(4, .int 0), (3, .int 0), (2, .int 1), (0, .ref h), (1, .int p0)]) S.x S.b d_Mpg_height_78 hl (by decide) rfl (fun ls hl => ?_)
        refine lv_iconst (v := 0) S.x S.b d_Mpg_height_80 (by decide) ?_
        refine lv_istore (lv' := [(5, .int 0), (4, .int 0), (3, .int 0), (2, .int 1), (0, .ref h), (1, .int p0)]) S.x S.b d_Mpg_height_81 hl (by decide) rfl (fun ls hl => ?_)
        refine lv_aload_n S.x S.b d_Mpg_height_83 rfl (lv_at hl 4 rfl) ?_
        refine gP_17 S hT hw 0 rfl m10_1 d_Mpg_height_84 ?_
        refine lv_iload_n S.x S.b d_Mpg_height_87 rfl (lv_at hl 5 rfl) ?_
        refine px_iald S hT hw 0 13 (n := 2100) (f := (na 17)) rfl gp_17 (x := p0) (vp_in_iff.mpr (by first | exact oz_a7e05de1cd hrg.2.2 hrg.2.1 g1 g2 | (constructor <;> omega))) d_Mpg_height_88 ?_
        refine lv_topi (fun z116 ez116 => ?_)
        have lz116 := Int32.le_toInt z116
        have uz116 := Int32.toInt_lt z116
        have hrr := EcV.k3 hec_p0 (by omega) ez116; have hce2 : AgV na V (tkl na ma0 ca (ma 18 p0.toNatClampNeg).toInt) 0 (na 17 p0.toNatClampNeg) := (LcE.k3 hlc (by omega)).2
        refine lv_istore (lv' := [(6, .int z116), (5, .int 0), (4, .int 0), (3, .int 0), (2, .int 1), (0, .ref h), (1, .int p0)]) S.x S.b d_Mpg_height_89 hl (by decide) rfl (fun ls hl => ?_)
        first | exact J91 ((hi - (p0.toInt + 1)).toNat + 1) (p0.toInt + 1) (1 : Int32) (0 : Int32) (0 : Int32) (0 : Int32) z116 _ _ ls (show 1 ≤ (1 : Int) from oz_5ec2f32d28) (show (1 : Int) ≤ 2 * (hi - lo) from (oz_379898b557 hrg.1 hrg.2.1)) (show 0 ≤ (0 : Int) from oz_5a341f00aa) (show (0 : Int) ≤ 2 * (0 : Int) from oz_41ea7172f2) (show 0 ≤ (0 : Int) from oz_5a341f00aa) (show (0 : Int) ≤ 1 from oz_6e68cd0f48) (show (0 : Int) = 1 → (ma 18 p0.toNatClampNeg).toInt < 100 from by omega) (show (0 : Int) = 0 → 100 ≤ (ma 18 p0.toNatClampNeg).toInt from by omega) (show 0 ≤ (0 : Int) from oz_5a341f00aa) (show (0 : Int) + p0.toInt + 1 ≤ (p0.toInt + 1) from oz_5323360a91) (show p0.toInt + 1 ≤ (p0.toInt + 1) from oz_a1bc7e1f12) (show (p0.toInt + 1) ≤ hi from (oz_8cd8185cc8 hrg.2.1)) (show (na 14 p0.toNatClampNeg).toInt = 3 from by omega) (show RcR ta (tf 6).toInt na ma0 d (p0.toInt + 1) hi z116 from hrr) (show AgV na V (tkl na ma0 ca (ma 18 p0.toNatClampNeg).toInt) (0 : Int) z116 from (by rw [ez116]; exact hce2)) (show HaS na ma0 ma ca d (ma 18 p0.toNatClampNeg).toInt (na 17 p0.toNatClampNeg) (0 : Int) (0 : Int) z116 (1 : Int) from (by rw [ez116]; exact has_0)) (show (0 : Int) ≤ (1 : Int) from oz_d5c2854ea2) (show K_mp_height_91 (RL_mp_height d) na ma ca p0 1 0 0 0 z116 from (fun y_v k hE => Exists.intro (k + 1) (Or.inl ⟨rfl, z103, ez103, Or.inr (Or.inr (Or.inl ⟨c112, z113, ez113, Or.inl ⟨nc114, z116, ez116, hE⟩⟩))⟩))) (show hi - (p0.toInt + 1) < ((((hi - (p0.toInt + 1)).toNat + 1 : Nat) : Int) : Int) from oz_natlt) hw (lv_sub hl [5, 6, 4, 3, 2, 1, 0] rfl) | (exact J91 ((hi - (p0.toInt + 1)).toNat + 1) (p0.toInt + 1) (1 : Int32) (0 : Int32) (0 : Int32) (0 : Int32) z116 _ _ ls (show 1 ≤ (1 : Int) from by first | exact oz_5ec2f32d28 | omega) (show (1 : Int) ≤ 2 * (hi - lo) from by first | exact oz_379898b557 hrg.1 hrg.2.1 | omega) (show 0 ≤ (0 : Int) from by first | exact oz_5a341f00aa | omega) (show (0 : Int) ≤ 2 * (0 : Int) from by first | exact oz_41ea7172f2 | omega) (show 0 ≤ (0 : Int) from by first | exact oz_5a341f00aa | omega) (show (0 : Int) ≤ 1 from by first | exact oz_6e68cd0f48 | omega) (show (0 : Int) = 1 → (ma 18 p0.toNatClampNeg).toInt < 100 from by omega) (show (0 : Int) = 0 → 100 ≤ (ma 18 p0.toNatClampNeg).toInt from by omega) (show 0 ≤ (0 : Int) from by first | exact oz_5a341f00aa | omega) (show (0 : Int) + p0.toInt + 1 ≤ (p0.toInt + 1) from by first | exact oz_5323360a91 | omega) (show p0.toInt + 1 ≤ (p0.toInt + 1) from by first | exact oz_a1bc7e1f12 | omega) (show (p0.toInt + 1) ≤ hi from by first | exact oz_8cd8185cc8 hrg.2.1 | omega) (show (na 14 p0.toNatClampNeg).toInt = 3 from by omega) (show RcR ta (tf 6).toInt na ma0 d (p0.toInt + 1) hi z116 from hrr) (show AgV na V (tkl na ma0 ca (ma 18 p0.toNatClampNeg).toInt) (0 : Int) z116 from (by rw [ez116]; exact hce2)) (show HaS na ma0 ma ca d (ma 18 p0.toNatClampNeg).toInt (na 17 p0.toNatClampNeg) (0 : Int) (0 : Int) z116 (1 : Int) from (by rw [ez116]; exact has_0)) (show (0 : Int) ≤ (1 : Int) from by first | exact oz_d5c2854ea2 | omega) (show K_mp_height_91 (RL_mp_height d) na ma ca p0 1 0 0 0 z116 from (fun y_v k hE => Exists.intro (k + 1) (Or.inl ⟨rfl, z103, ez103, Or.inr (Or.inr (Or.inl ⟨c112, z113, ez113, Or.inl ⟨nc114, z116, ez116, hE⟩⟩))⟩))) (show hi - (p0.toInt + 1) < ((((hi - (p0.toInt + 1)).toNat + 1 : Nat) : Int) : Int) from by first | exact oz_natlt | omega) hw (lv_sub hl [5, 6, 4, 3, 2, 1, 0] rfl))
      · have nc114 : ¬ (100 : Int) ≤ z113.toInt := mt (i_le (x := 100) (y := z113)).mpr c114
        refine lv_iconst (v := 1) S.x S.b d_Mpg_height_73 (by decide) ?_
        refine lv_goto (tgt := 78) S.x S.b d_Mpg_height_74 (by decide) ?_
        refine lv_istore (lv' := [(4, .int 1), (3, .int 0), (2, .int 1), (0, .ref h), (1, .int p0)]) S.x S.b d_Mpg_height_78 hl (by decide) rfl (fun ls hl => ?_)
        refine lv_iconst (v := 0) S.x S.b d_Mpg_height_80 (by decide) ?_
        refine lv_istore (lv' := [(5, .int 0), (4, .int 1), (3, .int 0), (2, .int 1), (0, .ref h), (1, .int p0)]) S.x S.b d_Mpg_height_81 hl (by decide) rfl (fun ls hl => ?_)
        refine lv_aload_n S.x S.b d_Mpg_height_83 rfl (lv_at hl 4 rfl) ?_
        refine gP_17 S hT hw 0 rfl m10_1 d_Mpg_height_84 ?_
        refine lv_iload_n S.x S.b d_Mpg_height_87 rfl (lv_at hl 5 rfl) ?_
        refine px_iald S hT hw 0 13 (n := 2100) (f := (na 17)) rfl gp_17 (x := p0) (vp_in_iff.mpr (by first | exact oz_a7e05de1cd hrg.2.2 hrg.2.1 g1 g2 | (constructor <;> omega))) d_Mpg_height_88 ?_
        refine lv_topi (fun z117 ez117 => ?_)
        have lz117 := Int32.le_toInt z117
        have uz117 := Int32.toInt_lt z117
        have hrr := EcV.k3 hec_p0 (by omega) ez117; have hce2 : AgV na V (tkl na ma0 ca (ma 18 p0.toNatClampNeg).toInt) 0 (na 17 p0.toNatClampNeg) := (LcE.k3 hlc (by omega)).2
        refine lv_istore (lv' := [(6, .int z117), (5, .int 0), (4, .int 1), (3, .int 0), (2, .int 1), (0, .ref h), (1, .int p0)]) S.x S.b d_Mpg_height_89 hl (by decide) rfl (fun ls hl => ?_)
        first | exact J91 ((hi - (p0.toInt + 1)).toNat + 1) (p0.toInt + 1) (1 : Int32) (0 : Int32) (1 : Int32) (0 : Int32) z117 _ _ ls (show 1 ≤ (1 : Int) from oz_5ec2f32d28) (show (1 : Int) ≤ 2 * (hi - lo) from (oz_379898b557 hrg.1 hrg.2.1)) (show 0 ≤ (0 : Int) from oz_5a341f00aa) (show (0 : Int) ≤ 2 * (0 : Int) from oz_41ea7172f2) (show 0 ≤ (1 : Int) from oz_19c3a41681) (show (1 : Int) ≤ 1 from oz_f9181dc4bb) (show (1 : Int) = 1 → (ma 18 p0.toNatClampNeg).toInt < 100 from by omega) (show (1 : Int) = 0 → 100 ≤ (ma 18 p0.toNatClampNeg).toInt from by omega) (show 0 ≤ (0 : Int) from oz_5a341f00aa) (show (0 : Int) + p0.toInt + 1 ≤ (p0.toInt + 1) from oz_5323360a91) (show p0.toInt + 1 ≤ (p0.toInt + 1) from oz_a1bc7e1f12) (show (p0.toInt + 1) ≤ hi from (oz_8cd8185cc8 hrg.2.1)) (show (na 14 p0.toNatClampNeg).toInt = 3 from by omega) (show RcR ta (tf 6).toInt na ma0 d (p0.toInt + 1) hi z117 from hrr) (show AgV na V (tkl na ma0 ca (ma 18 p0.toNatClampNeg).toInt) (0 : Int) z117 from (by rw [ez117]; exact hce2)) (show HaS na ma0 ma ca d (ma 18 p0.toNatClampNeg).toInt (na 17 p0.toNatClampNeg) (0 : Int) (0 : Int) z117 (1 : Int) from (by rw [ez117]; exact has_0)) (show (0 : Int) ≤ (1 : Int) from oz_d5c2854ea2) (show K_mp_height_91 (RL_mp_height d) na ma ca p0 1 0 1 0 z117 from (fun y_v k hE => Exists.intro (k + 1) (Or.inl ⟨rfl, z103, ez103, Or.inr (Or.inr (Or.inl ⟨c112, z113, ez113, Or.inr ⟨nc114, z117, ez117, hE⟩⟩))⟩))) (show hi - (p0.toInt + 1) < ((((hi - (p0.toInt + 1)).toNat + 1 : Nat) : Int) : Int) from oz_natlt) hw (lv_sub hl [5, 6, 4, 3, 2, 1, 0] rfl) | (exact J91 ((hi - (p0.toInt + 1)).toNat + 1) (p0.toInt + 1) (1 : Int32) (0 : Int32) (1 : Int32) (0 : Int32) z117 _ _ ls (show 1 ≤ (1 : Int) from by first | exact oz_5ec2f32d28 | omega) (show (1 : Int) ≤ 2 * (hi - lo) from by first | exact oz_379898b557 hrg.1 hrg.2.1 | omega) (show 0 ≤ (0 : Int) from by first | exact oz_5a341f00aa | omega) (show (0 : Int) ≤ 2 * (0 : Int) from by first | exact oz_41ea7172f2 | omega) (show 0 ≤ (1 : Int) from by first | exact oz_19c3a41681 | omega) (show (1 : Int) ≤ 1 from by first | exact oz_f9181dc4bb | omega) (show (1 : Int) = 1 → (ma 18 p0.toNatClampNeg).toInt < 100 from by omega) (show (1 : Int) = 0 → 100 ≤ (ma 18 p0.toNatClampNeg).toInt from by omega) (show 0 ≤ (0 : Int) from by first | exact oz_5a341f00aa | omega) (show (0 : Int) + p0.toInt + 1 ≤ (p0.toInt + 1) from by first | exact oz_5323360a91 | omega) (show p0.toInt + 1 ≤ (p0.toInt + 1) from by first | exact oz_a1bc7e1f12 | omega) (show (p0.toInt + 1) ≤ hi from by first | exact oz_8cd8185cc8 hrg.2.1 | omega) (show (na 14 p0.toNatClampNeg).toInt = 3 from by omega) (show RcR ta (tf 6).toInt na ma0 d (p0.toInt + 1) hi z117 from hrr) (show AgV na V (tkl na ma0 ca (ma 18 p0.toNatClampNeg).toInt) (0 : Int) z117 from (by rw [ez117]; exact hce2)) (show HaS na ma0 ma ca d (ma 18 p0.toNatClampNeg).toInt (na 17 p0.toNatClampNeg) (0 : Int) (0 : Int) z117 (1 : Int) from (by rw [ez117]; exact has_0)) (show (0 : Int) ≤ (1 : Int) from by first | exact oz_d5c2854ea2 | omega) (show K_mp_height_91 (RL_mp_height d) na ma ca p0 1 0 1 0 z117 from (fun y_v k hE => Exists.intro (k + 1) (Or.inl ⟨rfl, z103, ez103, Or.inr (Or.inr (Or.inl ⟨c112, z113, ez113, Or.inr ⟨nc114, z117, ez117, hE⟩⟩))⟩))) (show hi - (p0.toInt + 1) < ((((hi - (p0.toInt + 1)).toNat + 1 : Nat) : Int) : Int) from by first | exact oz_natlt | omega) hw (lv_sub hl [5, 6, 4, 3, 2, 1, 0] rfl))
    · simp only [List.mem_cons, List.not_mem_nil, or_false] at c112
      refine lv_aload_n S.x S.b d_Mpg_height_229 rfl (lv_at hl 0 rfl) ?_
      refine lv_aload_n S.x S.b d_Mpg_height_230 rfl (lv_at hl 0 rfl) ?_
      refine gP_17 S hT hw 0 rfl m10_1 d_Mpg_height_231 ?_
      refine lv_iload_n S.x S.b d_Mpg_height_234 rfl (lv_at hl 1 rfl) ?_
      refine px_iald S hT hw 0 13 (n := 2100) (f := (na 17)) rfl gp_17 (x := p0) (vp_in_iff.mpr (by first | exact oz_a7e05de1cd hrg.2.2 hrg.2.1 g1 g2 | (constructor <;> omega))) d_Mpg_height_235 ?_
      refine lv_topi (fun z118 ez118 => ?_)
      have lz118 := Int32.le_toInt z118
      have uz118 := Int32.toInt_lt z118
      have hec_z118 := EcV.k4 hec_p0 (by omega) ez118; have hrg_z118 := EcV.rng hec_z118
      have hvn_z118 : V z118.toNatClampNeg 0 := (by rw [ez118]; exact (LcE.k46 hlc (by omega)))
      first | refine px_calli (pr := []) (px_runV (As := [.int z118]) (rest := []) S (hLH ma0 ys ns nf (p0.toInt + 1) hi V vl vh h r g tf ta pf na ma wa cf ca ef ea xf xa z118 (show 0 ≤ (p0.toInt + 1) from (oz_c12c169b81 hrg.2.2)) (show hi ≤ (pf 13).toInt from g1) (show (pf 13).toInt ≤ 2100 from g2) (show (tf 6).toInt ≤ 2049 from g3) (show (cf 38).toInt = nf from g4) (show 0 ≤ nf from g5) htk (FnT.eq hft (by omega)) hfp han hts hec_z118 hvn_z118 _) hT (pr := []) (pcs := [wdP cs h r g tf ta pf na ma wa cf ca ef ea xf xa]) hw (oX_call (P := (fun A U H => (oP A g U H))) (pr := []) oG_P hw hA hP) (px_recv hT hw 0 0 rfl rfl rfl) m13_65 m13_62 m13_64 ms_13_13 m1_21 q_Mpg_height ⟨show (2 * d + 8) + 1 ≤ (2 * (d + 1) + 8) from (oz_07fbb325ca), show 8 + (12 + 11) + (100 * d + 260) ≤ (100 * (d + 1) + 260) from (oz_22f1a200d8)⟩ hl.1 rfl (Nat.le_of_ble_eq_true rfl) d_Mpg_height_236 ⟨Nat.le_of_ble_eq_true rfl, Nat.le_of_ble_eq_true rfl⟩) hw hA (fun v120 p119 H locs hp119 hw => ?_) | (refine px_calli (pr := []) (px_runV (As := [.int z118]) (rest := []) S (hLH ma0 ys ns nf (p0.toInt + 1) hi V vl vh h r g tf ta pf na ma wa cf ca ef ea xf xa z118 (show 0 ≤ (p0.toInt + 1) from by first | exact oz_c12c169b81 hrg.2.2 | omega) (show hi ≤ (pf 13).toInt from by first | exact g1 | omega) (show (pf 13).toInt ≤ 2100 from by first | exact g2 | omega) (show (tf 6).toInt ≤ 2049 from by first | exact g3 | omega) (show (cf 38).toInt = nf from by first | exact g4 | omega) (show 0 ≤ nf from by first | exact g5 | omega) htk (FnT.eq hft (by omega)) hfp han hts hec_z118 hvn_z118 _) hT (pr := []) (pcs := [wdP cs h r g tf ta pf na ma wa cf ca ef ea xf xa]) hw (oX_call (P := (fun A U H => (oP A g U H))) (pr := []) oG_P hw hA hP) (px_recv hT hw 0 0 rfl rfl rfl) m13_65 m13_62 m13_64 ms_13_13 m1_21 q_Mpg_height ⟨show (2 * d + 8) + 1 ≤ (2 * (d + 1) + 8) from (by first | exact oz_07fbb325ca | omega), show 8 + (12 + 11) + (100 * d + 260) ≤ (100 * (d + 1) + 260) from (by first | exact oz_22f1a200d8 | omega)⟩ hl.1 rfl (Nat.le_of_ble_eq_true rfl) d_Mpg_height_236 ⟨Nat.le_of_ble_eq_true rfl, Nat.le_of_ble_eq_true rfl⟩) hw hA (fun v120 p119 H locs hp119 hw => ?_))
      obtain ⟨rfl, e121, e122, e123, e124⟩ := hp119
      have e121 : 1 ≤ v120.toInt := e121
      have e122 : v120.toInt ≤ 2 * (hi - (p0.toInt + 1)) := e122
      have e123 : HgB na ma0 ma (tkl na ma0 ca) d z118 v120.toInt := e123
      have e124 : RL_mp_height d na ma ca z118 v120 := e124
      have lv120 := Int32.le_toInt v120
      have uv120 := Int32.toInt_lt v120
      first | exact px_iret (v := v120) S hr rfl hlk hAe hw (Nat.le_of_ble_eq_true rfl) (Nat.le_of_ble_eq_true rfl) (⟨rfl, (show 1 ≤ v120.toInt from e121), (show v120.toInt ≤ 2 * (hi - lo) from (oz_e5c01f361a hrg.1 e122)), (show HgB na ma0 ma (tkl na ma0 ca) (d + 1) p0 v120.toInt from ⟨by omega, Or.inr (Or.inr (Or.inr (Or.inl (⟨by omega, by omega, by rw [← ez118]; exact (HgB.mono e123 (by omega))⟩))))⟩), (show R_mp_height (RL_mp_height d) na ma ca p0 v120 from (Exists.intro 1 (Or.inl ⟨rfl, z103, ez103, Or.inr (Or.inr (Or.inr (Or.inl ⟨c112, z118, ez118, v120, e124, rfl⟩)))⟩)))⟩) d_Mpg_height_239 | (exact px_iret (v := v120) S hr rfl hlk hAe hw (Nat.le_of_ble_eq_true rfl) (Nat.le_of_ble_eq_true rfl) (⟨rfl, (show 1 ≤ v120.toInt from by first | exact e121 | omega), (show v120.toInt ≤ 2 * (hi - lo) from by first | exact oz_e5c01f361a hrg.1 e122 | omega), (show HgB na ma0 ma (tkl na ma0 ca) (d + 1) p0 v120.toInt from ⟨by omega, Or.inr (Or.inr (Or.inr (Or.inl (⟨by omega, by omega, by rw [← ez118]; exact (HgB.mono e123 (by omega))⟩))))⟩), (show R_mp_height (RL_mp_height d) na ma ca p0 v120 from (Exists.intro 1 (Or.inl ⟨rfl, z103, ez103, Or.inr (Or.inr (Or.inr (Or.inl ⟨c112, z118, ez118, v120, e124, rfl⟩)))⟩)))⟩) d_Mpg_height_239)
    · simp only [List.mem_cons, List.not_mem_nil, or_false] at c112
      refine lv_aload_n S.x S.b d_Mpg_height_445 rfl (lv_at hl 0 rfl) ?_
      refine lv_aload_n S.x S.b d_Mpg_height_446 rfl (lv_at hl 0 rfl) ?_
      refine gP_17 S hT hw 0 rfl m10_1 d_Mpg_height_447 ?_
      refine lv_iload_n S.x S.b d_Mpg_height_450 rfl (lv_at hl 1 rfl) ?_
      refine px_iald S hT hw 0 13 (n := 2100) (f := (na 17)) rfl gp_17 (x := p0) (vp_in_iff.mpr (by first | exact oz_a7e05de1cd hrg.2.2 hrg.2.1 g1 g2 | (constructor <;> omega))) d_Mpg_height_451 ?_
      refine lv_topi (fun z125 ez125 => ?_)
      have lz125 := Int32.le_toInt z125
      have uz125 := Int32.toInt_lt z125
      have hec_z125 := EcV.k56 hec_p0 (by omega) ez125; have hrg_z125 := EcV.rng hec_z125
      have hvn_z125 : V z125.toNatClampNeg 0 := (by rw [ez125]; exact (LcE.k46 hlc (by omega)))
      first | refine px_calli (pr := []) (px_runV (As := [.int z125]) (rest := []) S (hLH ma0 ys ns nf lo p0.toInt V vl vh h r g tf ta pf na ma wa cf ca ef ea xf xa z125 (show 0 ≤ lo from g0) (show p0.toInt ≤ (pf 13).toInt from (oz_6996e0781a g1 hrg.2.1)) (show (pf 13).toInt ≤ 2100 from g2) (show (tf 6).toInt ≤ 2049 from g3) (show (cf 38).toInt = nf from g4) (show 0 ≤ nf from g5) htk (FnT.eq hft (by omega)) hfp han hts hec_z125 hvn_z125 _) hT (pr := []) (pcs := [wdP cs h r g tf ta pf na ma wa cf ca ef ea xf xa]) hw (oX_call (P := (fun A U H => (oP A g U H))) (pr := []) oG_P hw hA hP) (px_recv hT hw 0 0 rfl rfl rfl) m13_65 m13_62 m13_64 ms_13_13 m1_21 q_Mpg_height ⟨show (2 * d + 8) + 1 ≤ (2 * (d + 1) + 8) from (oz_07fbb325ca), show 8 + (12 + 11) + (100 * d + 260) ≤ (100 * (d + 1) + 260) from (oz_22f1a200d8)⟩ hl.1 rfl (Nat.le_of_ble_eq_true rfl) d_Mpg_height_452 ⟨Nat.le_of_ble_eq_true rfl, Nat.le_of_ble_eq_true rfl⟩) hw hA (fun v127 p126 H locs hp126 hw => ?_) | (refine px_calli (pr := []) (px_runV (As := [.int z125]) (rest := []) S (hLH ma0 ys ns nf lo p0.toInt V vl vh h r g tf ta pf na ma wa cf ca ef ea xf xa z125 (show 0 ≤ lo from by first | exact g0 | omega) (show p0.toInt ≤ (pf 13).toInt from by first | exact oz_6996e0781a g1 hrg.2.1 | omega) (show (pf 13).toInt ≤ 2100 from by first | exact g2 | omega) (show (tf 6).toInt ≤ 2049 from by first | exact g3 | omega) (show (cf 38).toInt = nf from by first | exact g4 | omega) (show 0 ≤ nf from by first | exact g5 | omega) htk (FnT.eq hft (by omega)) hfp han hts hec_z125 hvn_z125 _) hT (pr := []) (pcs := [wdP cs h r g tf ta pf na ma wa cf ca ef ea xf xa]) hw (oX_call (P := (fun A U H => (oP A g U H))) (pr := []) oG_P hw hA hP) (px_recv hT hw 0 0 rfl rfl rfl) m13_65 m13_62 m13_64 ms_13_13 m1_21 q_Mpg_height ⟨show (2 * d + 8) + 1 ≤ (2 * (d + 1) + 8) from (by first | exact oz_07fbb325ca | omega), show 8 + (12 + 11) + (100 * d + 260) ≤ (100 * (d + 1) + 260) from (by first | exact oz_22f1a200d8 | omega)⟩ hl.1 rfl (Nat.le_of_ble_eq_true rfl) d_Mpg_height_452 ⟨Nat.le_of_ble_eq_true rfl, Nat.le_of_ble_eq_true rfl⟩) hw hA (fun v127 p126 H locs hp126 hw => ?_))
      obtain ⟨rfl, e128, e129, e130, e131⟩ := hp126
      have e128 : 1 ≤ v127.toInt := e128
      have e129 : v127.toInt ≤ 2 * (p0.toInt - lo) := e129
      have e130 : HgB na ma0 ma (tkl na ma0 ca) d z125 v127.toInt := e130
      have e131 : RL_mp_height d na ma ca z125 v127 := e131
      have lv127 := Int32.le_toInt v127
      have uv127 := Int32.toInt_lt v127
      first | exact px_iret (v := v127) S hr rfl hlk hAe hw (Nat.le_of_ble_eq_true rfl) (Nat.le_of_ble_eq_true rfl) (⟨rfl, (show 1 ≤ v127.toInt from e128), (show v127.toInt ≤ 2 * (hi - lo) from (oz_b6e6ff28b8 hrg.2.1 e129)), (show HgB na ma0 ma (tkl na ma0 ca) (d + 1) p0 v127.toInt from ⟨by omega, Or.inr (Or.inr (Or.inr (Or.inl (⟨by omega, by omega, by rw [← ez125]; exact (HgB.mono e130 (by omega))⟩))))⟩), (show R_mp_height (RL_mp_height d) na ma ca p0 v127 from (Exists.intro 1 (Or.inl ⟨rfl, z103, ez103, Or.inr (Or.inr (Or.inr (Or.inr (Or.inl ⟨c112, z125, ez125, v127, e131, rfl⟩))))⟩)))⟩) d_Mpg_height_455 | (exact px_iret (v := v127) S hr rfl hlk hAe hw (Nat.le_of_ble_eq_true rfl) (Nat.le_of_ble_eq_true rfl) (⟨rfl, (show 1 ≤ v127.toInt from by first | exact e128 | omega), (show v127.toInt ≤ 2 * (hi - lo) from by first | exact oz_b6e6ff28b8 hrg.2.1 e129 | omega), (show HgB na ma0 ma (tkl na ma0 ca) (d + 1) p0 v127.toInt from ⟨by omega, Or.inr (Or.inr (Or.inr (Or.inl (⟨by omega, by omega, by rw [← ez125]; exact (HgB.mono e130 (by omega))⟩))))⟩), (show R_mp_height (RL_mp_height d) na ma ca p0 v127 from (Exists.intro 1 (Or.inl ⟨rfl, z103, ez103, Or.inr (Or.inr (Or.inr (Or.inr (Or.inl ⟨c112, z125, ez125, v127, e131, rfl⟩))))⟩)))⟩) d_Mpg_height_455)
    · simp only [List.mem_cons, List.not_mem_nil, or_false] at c112
      refine lv_aload_n S.x S.b d_Mpg_height_240 rfl (lv_at hl 0 rfl) ?_
      refine lv_aload_n S.x S.b d_Mpg_height_241 rfl (lv_at hl 0 rfl) ?_
      refine gP_17 S hT hw 0 rfl m10_1 d_Mpg_height_242 ?_
      refine lv_iload_n S.x S.b d_Mpg_height_245 rfl (lv_at hl 1 rfl) ?_
      refine px_iald S hT hw 0 13 (n := 2100) (f := (na 17)) rfl gp_17 (x := p0) (vp_in_iff.mpr (by first | exact oz_a7e05de1cd hrg.2.2 hrg.2.1 g1 g2 | (constructor <;> omega))) d_Mpg_height_246 ?_
      refine lv_topi (fun z132 ez132 => ?_)
      have lz132 := Int32.le_toInt z132
      have uz132 := Int32.toInt_lt z132
      obtain ⟨mc, hmc1, hmc2, hec_z132, hnc_z132, hrm⟩ := EcV.k7m hec_p0 (by omega) ez132; have hrg_z132 := EcV.rng hec_z132; have hrw : RwV0 na V 0 z132 := (by rw [ez132]; exact LcE.k7 hlc (by omega)); obtain ⟨hvn_z132, hrw2⟩ := RwV0.go hrw (by omega) rfl
      first | refine px_calli (pr := []) (px_runV (As := [.int z132]) (rest := []) S (hLH ma0 ys ns nf lo mc V vl vh h r g tf ta pf na ma wa cf ca ef ea xf xa z132 (show 0 ≤ lo from g0) (show mc ≤ (pf 13).toInt from (oz_8d1dd37214 g1 hmc2 hrg.2.1)) (show (pf 13).toInt ≤ 2100 from g2) (show (tf 6).toInt ≤ 2049 from g3) (show (cf 38).toInt = nf from g4) (show 0 ≤ nf from g5) htk (FnT.eq hft (by omega)) hfp han hts hec_z132 hvn_z132 _) hT (pr := []) (pcs := [wdP cs h r g tf ta pf na ma wa cf ca ef ea xf xa]) hw (oX_call (P := (fun A U H => (oP A g U H))) (pr := []) oG_P hw hA hP) (px_recv hT hw 0 0 rfl rfl rfl) m13_65 m13_62 m13_64 ms_13_13 m1_21 q_Mpg_height ⟨show (2 * d + 8) + 1 ≤ (2 * (d + 1) + 8) from (oz_07fbb325ca), show 8 + (12 + 11) + (100 * d + 260) ≤ (100 * (d + 1) + 260) from (oz_22f1a200d8)⟩ hl.1 rfl (Nat.le_of_ble_eq_true rfl) d_Mpg_height_247 ⟨Nat.le_of_ble_eq_true rfl, Nat.le_of_ble_eq_true rfl⟩) hw hA (fun v134 p133 H locs hp133 hw => ?_) | (refine px_calli (pr := []) (px_runV (As := [.int z132]) (rest := []) S (hLH ma0 ys ns nf lo mc V vl vh h r g tf ta pf na ma wa cf ca ef ea xf xa z132 (show 0 ≤ lo from by first | exact g0 | omega) (show mc ≤ (pf 13).toInt from by first | exact oz_8d1dd37214 g1 hmc2 hrg.2.1 | omega) (show (pf 13).toInt ≤ 2100 from by first | exact g2 | omega) (show (tf 6).toInt ≤ 2049 from by first | exact g3 | omega) (show (cf 38).toInt = nf from by first | exact g4 | omega) (show 0 ≤ nf from by first | exact g5 | omega) htk (FnT.eq hft (by omega)) hfp han hts hec_z132 hvn_z132 _) hT (pr := []) (pcs := [wdP cs h r g tf ta pf na ma wa cf ca ef ea xf xa]) hw (oX_call (P := (fun A U H => (oP A g U H))) (pr := []) oG_P hw hA hP) (px_recv hT hw 0 0 rfl rfl rfl) m13_65 m13_62 m13_64 ms_13_13 m1_21 q_Mpg_height ⟨show (2 * d + 8) + 1 ≤ (2 * (d + 1) + 8) from (by first | exact oz_07fbb325ca | omega), show 8 + (12 + 11) + (100 * d + 260) ≤ (100 * (d + 1) + 260) from (by first | exact oz_22f1a200d8 | omega)⟩ hl.1 rfl (Nat.le_of_ble_eq_true rfl) d_Mpg_height_247 ⟨Nat.le_of_ble_eq_true rfl, Nat.le_of_ble_eq_true rfl⟩) hw hA (fun v134 p133 H locs hp133 hw => ?_))
      obtain ⟨rfl, e135, e136, e137, e138⟩ := hp133
      have e135 : 1 ≤ v134.toInt := e135
      have e136 : v134.toInt ≤ 2 * (mc - lo) := e136
      have e137 : HgB na ma0 ma (tkl na ma0 ca) d z132 v134.toInt := e137
      have e138 : RL_mp_height d na ma ca z132 v134 := e138
      have lv134 := Int32.le_toInt v134
      have uv134 := Int32.toInt_lt v134
      refine lv_istore (lv' := [(6, .int v134), (0, .ref h), (1, .int p0)]) S.x S.b d_Mpg_height_250 hl (by decide) rfl (fun ls hl => ?_)
      refine lv_aload_n S.x S.b d_Mpg_height_252 rfl (lv_at hl 1 rfl) ?_
      refine gP_21 S hT hw 0 rfl m10_7 d_Mpg_height_253 ?_
      refine lv_aload_n S.x S.b d_Mpg_height_256 rfl (lv_at hl 1 rfl) ?_
      refine gP_17 S hT hw 0 rfl m10_1 d_Mpg_height_257 ?_
      refine lv_iload_n S.x S.b d_Mpg_height_260 rfl (lv_at hl 2 rfl) ?_
      refine px_iald S hT hw 0 13 (n := 2100) (f := (na 17)) rfl gp_17 (x := p0) (vp_in_iff.mpr (by first | exact oz_a7e05de1cd hrg.2.2 hrg.2.1 g1 g2 | (constructor <;> omega))) d_Mpg_height_261 ?_
      refine lv_topi (fun z139 ez139 => ?_)
      have lz139 := Int32.le_toInt z139
      have uz139 := Int32.toInt_lt z139
      have hsz139 : z132 = z139 := ez132.trans ez139.symm; subst hsz139
      refine px_iald S hT hw 0 17 (n := 2100) (f := (na 21)) rfl gp_21 (x := z132) (vp_in_iff.mpr (by first | exact oz_e7688a0eb5 hrg_z132.2.2 hrg_z132.2.1 hmc2 g1 hrg.2.1 g2 | (constructor <;> omega))) d_Mpg_height_262 ?_
      refine lv_topi (fun z140 ez140 => ?_)
      have lz140 := Int32.le_toInt z140
      have uz140 := Int32.toInt_lt z140
      refine lv_istore (lv' := [(7, .int z140), (6, .int v134), (0, .ref h), (1, .int p0)]) S.x S.b d_Mpg_height_263 hl (by decide) rfl (fun ls hl => ?_)
      first | exact J265 ((hi - mc).toNat + 1) mc v134 z140 _ _ ls (show 1 ≤ v134.toInt from e135) (show v134.toInt ≤ 2 * (hi - lo) from (oz_70fae65cb7 hrg.2.1 e136 hmc2)) (show lo < mc from (oz_5e4a203018 hrg_z132.1 hrg_z132.2.1)) (show mc ≤ hi from hmc1) (show (na 14 p0.toNatClampNeg).toInt = 7 from by omega) (show RcM ta (tf 6).toInt na ma0 d p0 mc hi z140 from (by rw [ez140]; exact hrm)) (show RwV0 na V 0 z140 from (by rw [ez140]; exact hrw2)) (show HgB na ma0 ma (tkl na ma0 ca) d (na 17 p0.toNatClampNeg) v134.toInt from (by rw [← ez132]; exact (HgB.mono e137 (by omega)))) (show HgS na ma0 ma ca d (na 21 (na 17 p0.toNatClampNeg).toNatClampNeg) z140 v134.toInt from ⟨0, by rw [ez140, ez132]; rfl⟩) (show K_mp_height_265 (RL_mp_height d) na ma ca p0 v134 z140 from (fun y_v k hE => Exists.intro (k + 1) (Or.inl ⟨rfl, z103, ez103, Or.inr (Or.inr (Or.inr (Or.inr (Or.inr (Or.inl ⟨c112, z132, ez132, v134, e138, z132, ez139, z140, ez140, hE⟩)))))⟩))) (show hi - mc < ((((hi - mc).toNat + 1 : Nat) : Int) : Int) from oz_natlt) hw (lv_sub hl [2, 3, 1, 0] rfl) | (exact J265 ((hi - mc).toNat + 1) mc v134 z140 _ _ ls (show 1 ≤ v134.toInt from by first | exact e135 | omega) (show v134.toInt ≤ 2 * (hi - lo) from by first | exact oz_70fae65cb7 hrg.2.1 e136 hmc2 | omega) (show lo < mc from by first | exact oz_5e4a203018 hrg_z132.1 hrg_z132.2.1 | omega) (show mc ≤ hi from by first | exact hmc1 | omega) (show (na 14 p0.toNatClampNeg).toInt = 7 from by omega) (show RcM ta (tf 6).toInt na ma0 d p0 mc hi z140 from (by rw [ez140]; exact hrm)) (show RwV0 na V 0 z140 from (by rw [ez140]; exact hrw2)) (show HgB na ma0 ma (tkl na ma0 ca) d (na 17 p0.toNatClampNeg) v134.toInt from (by rw [← ez132]; exact (HgB.mono e137 (by omega)))) (show HgS na ma0 ma ca d (na 21 (na 17 p0.toNatClampNeg).toNatClampNeg) z140 v134.toInt from ⟨0, by rw [ez140, ez132]; rfl⟩) (show K_mp_height_265 (RL_mp_height d) na ma ca p0 v134 z140 from (fun y_v k hE => Exists.intro (k + 1) (Or.inl ⟨rfl, z103, ez103, Or.inr (Or.inr (Or.inr (Or.inr (Or.inr (Or.inl ⟨c112, z132, ez132, v134, e138, z132, ez139, z140, ez140, hE⟩)))))⟩))) (show hi - mc < ((((hi - mc).toNat + 1 : Nat) : Int) : Int) from by first | exact oz_natlt | omega) hw (lv_sub hl [2, 3, 1, 0] rfl))
    · simp only [List.mem_cons, List.not_mem_nil, or_false] at c112
      refine lv_aload_n S.x S.b d_Mpg_height_311 rfl (lv_at hl 0 rfl) ?_
      refine lv_aload_n S.x S.b d_Mpg_height_312 rfl (lv_at hl 0 rfl) ?_
      refine gP_17 S hT hw 0 rfl m10_1 d_Mpg_height_313 ?_
      refine lv_iload_n S.x S.b d_Mpg_height_316 rfl (lv_at hl 1 rfl) ?_
      refine px_iald S hT hw 0 13 (n := 2100) (f := (na 17)) rfl gp_17 (x := p0) (vp_in_iff.mpr (by first | exact oz_a7e05de1cd hrg.2.2 hrg.2.1 g1 g2 | (constructor <;> omega))) d_Mpg_height_317 ?_
      refine lv_topi (fun z141 ez141 => ?_)
      have lz141 := Int32.le_toInt z141
      have uz141 := Int32.toInt_lt z141
      obtain ⟨m1, m2, hm1, hm2, hec_z141, hec_y8, hec_x8⟩ := EcV.k8 hec_p0 (by omega) ez141 rfl rfl; have hrg_z141 := EcV.rng hec_z141; have hrg_y8 := EcV.rng hec_y8; have hrg_x8 := EcV.rng hec_x8
      have hvn_z141 : V z141.toNatClampNeg 0 := (by rw [ez141]; exact (LcE.k8 hlc (by omega)).1)
      first | refine px_calli (pr := []) (px_runV (As := [.int z141]) (rest := []) S (hLH ma0 ys ns nf lo m1 V vl vh h r g tf ta pf na ma wa cf ca ef ea xf xa z141 (show 0 ≤ lo from g0) (show m1 ≤ (pf 13).toInt from (oz_f3248735d7 g1 hrg_y8.1 hrg.2.1 hrg_y8.2.1 hrg_x8.1 hrg_x8.2.1)) (show (pf 13).toInt ≤ 2100 from g2) (show (tf 6).toInt ≤ 2049 from g3) (show (cf 38).toInt = nf from g4) (show 0 ≤ nf from g5) htk (FnT.eq hft (by omega)) hfp han hts hec_z141 hvn_z141 _) hT (pr := []) (pcs := [wdP cs h r g tf ta pf na ma wa cf ca ef ea xf xa]) hw (oX_call (P := (fun A U H => (oP A g U H))) (pr := []) oG_P hw hA hP) (px_recv hT hw 0 0 rfl rfl rfl) m13_65 m13_62 m13_64 ms_13_13 m1_21 q_Mpg_height ⟨show (2 * d + 8) + 1 ≤ (2 * (d + 1) + 8) from (oz_07fbb325ca), show 8 + (12 + 11) + (100 * d + 260) ≤ (100 * (d + 1) + 260) from (oz_22f1a200d8)⟩ hl.1 rfl (Nat.le_of_ble_eq_true rfl) d_Mpg_height_318 ⟨Nat.le_of_ble_eq_true rfl, Nat.le_of_ble_eq_true rfl⟩) hw hA (fun v143 p142 H locs hp142 hw => ?_) | (refine px_calli (pr := []) (px_runV (As := [.int z141]) (rest := []) S (hLH ma0 ys ns nf lo m1 V vl vh h r g tf ta pf na ma wa cf ca ef ea xf xa z141 (show 0 ≤ lo from by first | exact g0 | omega) (show m1 ≤ (pf 13).toInt from by first | exact oz_f3248735d7 g1 hrg_y8.1 hrg.2.1 hrg_y8.2.1 hrg_x8.1 hrg_x8.2.1 | omega) (show (pf 13).toInt ≤ 2100 from by first | exact g2 | omega) (show (tf 6).toInt ≤ 2049 from by first | exact g3 | omega) (show (cf 38).toInt = nf from by first | exact g4 | omega) (show 0 ≤ nf from by first | exact g5 | omega) htk (FnT.eq hft (by omega)) hfp han hts hec_z141 hvn_z141 _) hT (pr := []) (pcs := [wdP cs h r g tf ta pf na ma wa cf ca ef ea xf xa]) hw (oX_call (P := (fun A U H => (oP A g U H))) (pr := []) oG_P hw hA hP) (px_recv hT hw 0 0 rfl rfl rfl) m13_65 m13_62 m13_64 ms_13_13 m1_21 q_Mpg_height ⟨show (2 * d + 8) + 1 ≤ (2 * (d + 1) + 8) from (by first | exact oz_07fbb325ca | omega), show 8 + (12 + 11) + (100 * d + 260) ≤ (100 * (d + 1) + 260) from (by first | exact oz_22f1a200d8 | omega)⟩ hl.1 rfl (Nat.le_of_ble_eq_true rfl) d_Mpg_height_318 ⟨Nat.le_of_ble_eq_true rfl, Nat.le_of_ble_eq_true rfl⟩) hw hA (fun v143 p142 H locs hp142 hw => ?_))
      obtain ⟨rfl, e144, e145, e146, e147⟩ := hp142
      have e144 : 1 ≤ v143.toInt := e144
      have e145 : v143.toInt ≤ 2 * (m1 - lo) := e145
      have e146 : HgB na ma0 ma (tkl na ma0 ca) d z141 v143.toInt := e146
      have e147 : RL_mp_height d na ma ca z141 v143 := e147
      have lv143 := Int32.le_toInt v143
      have uv143 := Int32.toInt_lt v143
      refine lv_istore (lv' := [(7, .int v143), (0, .ref h), (1, .int p0)]) S.x S.b d_Mpg_height_321 hl (by decide) rfl (fun ls hl => ?_)
      refine lv_aload_n S.x S.b d_Mpg_height_323 rfl (lv_at hl 1 rfl) ?_
      refine lv_aload_n S.x S.b d_Mpg_height_324 rfl (lv_at hl 1 rfl) ?_
      refine gP_18 S hT hw 0 rfl m10_3 d_Mpg_height_325 ?_
      refine lv_iload_n S.x S.b d_Mpg_height_328 rfl (lv_at hl 2 rfl) ?_
      refine px_iald S hT hw 0 14 (n := 2100) (f := (ma 18)) rfl gp_18 (x := p0) (vp_in_iff.mpr (by first | exact oz_18f227bc52 hrg_x8.2.1 hrg_x8.2.2 hrg.2.1 g1 g2 | (constructor <;> omega))) d_Mpg_height_329 ?_
      refine lv_topi (fun z148 ez148 => ?_)
      have lz148 := Int32.le_toInt z148
      have uz148 := Int32.toInt_lt z148
      have rz148 : z148.toInt = (ma 18 p0.toNatClampNeg).toInt := by rw [ez148]
      have ha_z148 : z148 = ma0 18 p0.toNatClampNeg := ez148.trans (Ann.b18 han (by omega)); have hec_z148 : EcV ta (tf 6).toInt na ma0 d m1 m2 z148 := (by rw [ha_z148]; exact hec_y8)
      have hvn_z148 : V z148.toNatClampNeg 0 := (by rw [ez148]; exact (LcE.k8 hlc (by omega)).2.1)
      first | refine px_calli (pr := []) (px_runV (As := [.int z148]) (rest := []) S (hLH ma0 ys ns nf m1 m2 V vl vh h r g tf ta pf na ma wa cf ca ef ea xf xa z148 (show 0 ≤ m1 from (oz_0a7da9c4d6 hrg_z141.2.1 hrg_z141.2.2)) (show m2 ≤ (pf 13).toInt from (oz_dc2da80b19 g1 hrg_x8.1 hrg.2.1 hrg_x8.2.1)) (show (pf 13).toInt ≤ 2100 from g2) (show (tf 6).toInt ≤ 2049 from g3) (show (cf 38).toInt = nf from g4) (show 0 ≤ nf from g5) htk (FnT.eq hft (by omega)) hfp han hts hec_z148 hvn_z148 _) hT (pr := []) (pcs := [wdP cs h r g tf ta pf na ma wa cf ca ef ea xf xa]) hw (oX_call (P := (fun A U H => (oP A g U H))) (pr := []) oG_P hw hA hP) (px_recv hT hw 0 0 rfl rfl rfl) m13_65 m13_62 m13_64 ms_13_13 m1_21 q_Mpg_height ⟨show (2 * d + 8) + 1 ≤ (2 * (d + 1) + 8) from (oz_07fbb325ca), show 8 + (12 + 11) + (100 * d + 260) ≤ (100 * (d + 1) + 260) from (oz_22f1a200d8)⟩ hl.1 rfl (Nat.le_of_ble_eq_true rfl) d_Mpg_height_330 ⟨Nat.le_of_ble_eq_true rfl, Nat.le_of_ble_eq_true rfl⟩) hw hA (fun v150 p149 H locs hp149 hw => ?_) | (refine px_calli (pr := []) (px_runV (As := [.int z148]) (rest := []) S (hLH ma0 ys ns nf m1 m2 V vl vh h r g tf ta pf na ma wa cf ca ef ea xf xa z148 (show 0 ≤ m1 from by first | exact oz_0a7da9c4d6 hrg_z141.2.1 hrg_z141.2.2 | omega) (show m2 ≤ (pf 13).toInt from by first | exact oz_dc2da80b19 g1 hrg_x8.1 hrg.2.1 hrg_x8.2.1 | omega) (show (pf 13).toInt ≤ 2100 from by first | exact g2 | omega) (show (tf 6).toInt ≤ 2049 from by first | exact g3 | omega) (show (cf 38).toInt = nf from by first | exact g4 | omega) (show 0 ≤ nf from by first | exact g5 | omega) htk (FnT.eq hft (by omega)) hfp han hts hec_z148 hvn_z148 _) hT (pr := []) (pcs := [wdP cs h r g tf ta pf na ma wa cf ca ef ea xf xa]) hw (oX_call (P := (fun A U H => (oP A g U H))) (pr := []) oG_P hw hA hP) (px_recv hT hw 0 0 rfl rfl rfl) m13_65 m13_62 m13_64 ms_13_13 m1_21 q_Mpg_height ⟨show (2 * d + 8) + 1 ≤ (2 * (d + 1) + 8) from (by first | exact oz_07fbb325ca | omega), show 8 + (12 + 11) + (100 * d + 260) ≤ (100 * (d + 1) + 260) from (by first | exact oz_22f1a200d8 | omega)⟩ hl.1 rfl (Nat.le_of_ble_eq_true rfl) d_Mpg_height_330 ⟨Nat.le_of_ble_eq_true rfl, Nat.le_of_ble_eq_true rfl⟩) hw hA (fun v150 p149 H locs hp149 hw => ?_))
      obtain ⟨rfl, e151, e152, e153, e154⟩ := hp149
      have e151 : 1 ≤ v150.toInt := e151
      have e152 : v150.toInt ≤ 2 * (m2 - m1) := e152
      have e153 : HgB na ma0 ma (tkl na ma0 ca) d z148 v150.toInt := e153
      have e154 : RL_mp_height d na ma ca z148 v150 := e154
      have lv150 := Int32.le_toInt v150
      have uv150 := Int32.toInt_lt v150
      refine lv_istore (lv' := [(8, .int v150), (7, .int v143), (0, .ref h), (1, .int p0)]) S.x S.b d_Mpg_height_333 hl (by decide) rfl (fun ls hl => ?_)
      refine lv_aload_n S.x S.b d_Mpg_height_335 rfl (lv_at hl 2 rfl) ?_
      refine lv_aload_n S.x S.b d_Mpg_height_336 rfl (lv_at hl 2 rfl) ?_
      refine gP_19 S hT hw 0 rfl m10_5 d_Mpg_height_337 ?_
      refine lv_iload_n S.x S.b d_Mpg_height_340 rfl (lv_at hl 3 rfl) ?_
      refine px_iald S hT hw 0 15 (n := 2100) (f := (ma 19)) rfl gp_19 (x := p0) (vp_in_iff.mpr (by first | exact oz_18f227bc52 hrg_x8.2.1 hrg_x8.2.2 hrg.2.1 g1 g2 | (constructor <;> omega))) d_Mpg_height_341 ?_
      refine lv_topi (fun z155 ez155 => ?_)
      have lz155 := Int32.le_toInt z155
      have uz155 := Int32.toInt_lt z155
      have ha_z155 : z155 = ma0 19 p0.toNatClampNeg := ez155.trans (Ann.b19 han (by omega)); have hec_z155 : EcV ta (tf 6).toInt na ma0 d m2 p0.toInt z155 := (by rw [ha_z155]; exact hec_x8)
      have hvn_z155 : V z155.toNatClampNeg 0 := (by rw [ez155]; exact (LcE.k8 hlc (by omega)).2.2)
      first | refine px_calli (pr := []) (px_runV (As := [.int z155]) (rest := []) S (hLH ma0 ys ns nf m2 p0.toInt V vl vh h r g tf ta pf na ma wa cf ca ef ea xf xa z155 (show 0 ≤ m2 from (oz_0a7da9c4d6 hrg_y8.2.1 hrg_y8.2.2)) (show p0.toInt ≤ (pf 13).toInt from (oz_6996e0781a g1 hrg.2.1)) (show (pf 13).toInt ≤ 2100 from g2) (show (tf 6).toInt ≤ 2049 from g3) (show (cf 38).toInt = nf from g4) (show 0 ≤ nf from g5) htk (FnT.eq hft (by omega)) hfp han hts hec_z155 hvn_z155 _) hT (pr := []) (pcs := [wdP cs h r g tf ta pf na ma wa cf ca ef ea xf xa]) hw (oX_call (P := (fun A U H => (oP A g U H))) (pr := []) oG_P hw hA hP) (px_recv hT hw 0 0 rfl rfl rfl) m13_65 m13_62 m13_64 ms_13_13 m1_21 q_Mpg_height ⟨show (2 * d + 8) + 1 ≤ (2 * (d + 1) + 8) from (oz_07fbb325ca), show 8 + (12 + 11) + (100 * d + 260) ≤ (100 * (d + 1) + 260) from (oz_22f1a200d8)⟩ hl.1 rfl (Nat.le_of_ble_eq_true rfl) d_Mpg_height_342 ⟨Nat.le_of_ble_eq_true rfl, Nat.le_of_ble_eq_true rfl⟩) hw hA (fun v157 p156 H locs hp156 hw => ?_) | (refine px_calli (pr := []) (px_runV (As := [.int z155]) (rest := []) S (hLH ma0 ys ns nf m2 p0.toInt V vl vh h r g tf ta pf na ma wa cf ca ef ea xf xa z155 (show 0 ≤ m2 from by first | exact oz_0a7da9c4d6 hrg_y8.2.1 hrg_y8.2.2 | omega) (show p0.toInt ≤ (pf 13).toInt from by first | exact oz_6996e0781a g1 hrg.2.1 | omega) (show (pf 13).toInt ≤ 2100 from by first | exact g2 | omega) (show (tf 6).toInt ≤ 2049 from by first | exact g3 | omega) (show (cf 38).toInt = nf from by first | exact g4 | omega) (show 0 ≤ nf from by first | exact g5 | omega) htk (FnT.eq hft (by omega)) hfp han hts hec_z155 hvn_z155 _) hT (pr := []) (pcs := [wdP cs h r g tf ta pf na ma wa cf ca ef ea xf xa]) hw (oX_call (P := (fun A U H => (oP A g U H))) (pr := []) oG_P hw hA hP) (px_recv hT hw 0 0 rfl rfl rfl) m13_65 m13_62 m13_64 ms_13_13 m1_21 q_Mpg_height ⟨show (2 * d + 8) + 1 ≤ (2 * (d + 1) + 8) from (by first | exact oz_07fbb325ca | omega), show 8 + (12 + 11) + (100 * d + 260) ≤ (100 * (d + 1) + 260) from (by first | exact oz_22f1a200d8 | omega)⟩ hl.1 rfl (Nat.le_of_ble_eq_true rfl) d_Mpg_height_342 ⟨Nat.le_of_ble_eq_true rfl, Nat.le_of_ble_eq_true rfl⟩) hw hA (fun v157 p156 H locs hp156 hw => ?_))
      obtain ⟨rfl, e158, e159, e160, e161⟩ := hp156
      have e158 : 1 ≤ v157.toInt := e158
      have e159 : v157.toInt ≤ 2 * (p0.toInt - m2) := e159
      have e160 : HgB na ma0 ma (tkl na ma0 ca) d z155 v157.toInt := e160
      have e161 : RL_mp_height d na ma ca z155 v157 := e161
      have lv157 := Int32.le_toInt v157
      have uv157 := Int32.toInt_lt v157
      refine lv_istore (lv' := [(9, .int v157), (8, .int v150), (7, .int v143), (0, .ref h), (1, .int p0)]) S.x S.b d_Mpg_height_345 hl (by decide) rfl (fun ls hl => ?_)
      refine lv_iload S.x S.b d_Mpg_height_347 (lv_at hl 1 rfl) ?_
      refine lv_iload S.x S.b d_Mpg_height_349 (lv_at hl 2 rfl) ?_
      refine lv_icmp_le (tgt := 359) S.x S.b d_Mpg_height_351 (by decide) (fun c162 => ?_) (fun c162 => ?_)
      · have nc162 : v150.toInt ≤ v143.toInt := (i_le (x := v150) (y := v143)).mp c162
        refine lv_iload S.x S.b d_Mpg_height_359 (lv_at hl 2 rfl) ?_
        refine lv_istore (lv' := [(7, .int v143), (9, .int v157), (8, .int v150), (0, .ref h), (1, .int p0)]) S.x S.b d_Mpg_height_361 hl (by decide) rfl (fun ls hl => ?_)
        refine lv_iload S.x S.b d_Mpg_height_363 (lv_at hl 1 rfl) ?_
        refine lv_iload S.x S.b d_Mpg_height_365 (lv_at hl 0 rfl) ?_
        refine lv_icmp_le (tgt := 375) S.x S.b d_Mpg_height_367 (by decide) (fun c164 => ?_) (fun c164 => ?_)
        · have nc164 : v157.toInt ≤ v143.toInt := (i_le (x := v157) (y := v143)).mp c164
          refine lv_iload S.x S.b d_Mpg_height_375 (lv_at hl 0 rfl) ?_
          first | exact px_iret (v := v143) S hr rfl hlk hAe hw (Nat.le_of_ble_eq_true rfl) (Nat.le_of_ble_eq_true rfl) (⟨rfl, (show 1 ≤ v143.toInt from e144), (show v143.toInt ≤ 2 * (hi - lo) from (oz_fb2bb6e922 hrg.2.1 e145 e151 e152 e158 e159)), (show HgB na ma0 ma (tkl na ma0 ca) (d + 1) p0 v143.toInt from ⟨by omega, Or.inr (Or.inr (Or.inr (Or.inr (Or.inr (Or.inl (⟨by omega, by rw [← ez141]; exact (HgB.mono e146 (by omega)), by rw [← ha_z148]; exact (HgB.mono e153 (by omega)), by rw [← ha_z155]; exact (HgB.mono e160 (by omega))⟩))))))⟩), (show R_mp_height (RL_mp_height d) na ma ca p0 v143 from (Exists.intro 1 (Or.inl ⟨rfl, z103, ez103, Or.inr (Or.inr (Or.inr (Or.inr (Or.inr (Or.inr (Or.inl ⟨c112, z141, ez141, v143, e147, z148, ez148, v150, e154, z155, ez155, v157, e161, Or.inl ⟨nc162, Or.inl ⟨nc164, rfl⟩⟩⟩))))))⟩)))⟩) d_Mpg_height_377 | (exact px_iret (v := v143) S hr rfl hlk hAe hw (Nat.le_of_ble_eq_true rfl) (Nat.le_of_ble_eq_true rfl) (⟨rfl, (show 1 ≤ v143.toInt from by first | exact e144 | omega), (show v143.toInt ≤ 2 * (hi - lo) from by first | exact oz_fb2bb6e922 hrg.2.1 e145 e151 e152 e158 e159 | omega), (show HgB na ma0 ma (tkl na ma0 ca) (d + 1) p0 v143.toInt from ⟨by omega, Or.inr (Or.inr (Or.inr (Or.inr (Or.inr (Or.inl (⟨by omega, by rw [← ez141]; exact (HgB.mono e146 (by omega)), by rw [← ha_z148]; exact (HgB.mono e153 (by omega)), by rw [← ha_z155]; exact (HgB.mono e160 (by omega))⟩))))))⟩), (show R_mp_height (RL_mp_height d) na ma ca p0 v143 from (Exists.intro 1 (Or.inl ⟨rfl, z103, ez103, Or.inr (Or.inr (Or.inr (Or.inr (Or.inr (Or.inr (Or.inl ⟨c112, z141, ez141, v143, e147, z148, ez148, v150, e154, z155, ez155, v157, e161, Or.inl ⟨nc162, Or.inl ⟨nc164, rfl⟩⟩⟩))))))⟩)))⟩) d_Mpg_height_377)
        · have nc164 : ¬ v157.toInt ≤ v143.toInt := mt (i_le (x := v157) (y := v143)).mpr c164
          refine lv_iload S.x S.b d_Mpg_height_370 (lv_at hl 1 rfl) ?_
          refine lv_goto (tgt := 377) S.x S.b d_Mpg_height_372 (by decide) ?_
          first | exact px_iret (v := v157) S hr rfl hlk hAe hw (Nat.le_of_ble_eq_true rfl) (Nat.le_of_ble_eq_true rfl) (⟨rfl, (show 1 ≤ v157.toInt from e158), (show v157.toInt ≤ 2 * (hi - lo) from (oz_62956263f3 hrg.2.1 hrg_z141.1 e159 hrg_z141.2.1 hrg_y8.1 hrg_y8.2.1)), (show HgB na ma0 ma (tkl na ma0 ca) (d + 1) p0 v157.toInt from ⟨by omega, Or.inr (Or.inr (Or.inr (Or.inr (Or.inr (Or.inl (⟨by omega, by rw [← ez141]; exact (HgB.mono e146 (by omega)), by rw [← ha_z148]; exact (HgB.mono e153 (by omega)), by rw [← ha_z155]; exact (HgB.mono e160 (by omega))⟩))))))⟩), (show R_mp_height (RL_mp_height d) na ma ca p0 v157 from (Exists.intro 1 (Or.inl ⟨rfl, z103, ez103, Or.inr (Or.inr (Or.inr (Or.inr (Or.inr (Or.inr (Or.inl ⟨c112, z141, ez141, v143, e147, z148, ez148, v150, e154, z155, ez155, v157, e161, Or.inl ⟨nc162, Or.inr ⟨nc164, rfl⟩⟩⟩))))))⟩)))⟩) d_Mpg_height_377 | (exact px_iret (v := v157) S hr rfl hlk hAe hw (Nat.le_of_ble_eq_true rfl) (Nat.le_of_ble_eq_true rfl) (⟨rfl, (show 1 ≤ v157.toInt from by first | exact e158 | omega), (show v157.toInt ≤ 2 * (hi - lo) from by first | exact oz_62956263f3 hrg.2.1 hrg_z141.1 e159 hrg_z141.2.1 hrg_y8.1 hrg_y8.2.1 | omega), (show HgB na ma0 ma (tkl na ma0 ca) (d + 1) p0 v157.toInt from ⟨by omega, Or.inr (Or.inr (Or.inr (Or.inr (Or.inr (Or.inl (⟨by omega, by rw [← ez141]; exact (HgB.mono e146 (by omega)), by rw [← ha_z148]; exact (HgB.mono e153 (by omega)), by rw [← ha_z155]; exact (HgB.mono e160 (by omega))⟩))))))⟩), (show R_mp_height (RL_mp_height d) na ma ca p0 v157 from (Exists.intro 1 (Or.inl ⟨rfl, z103, ez103, Or.inr (Or.inr (Or.inr (Or.inr (Or.inr (Or.inr (Or.inl ⟨c112, z141, ez141, v143, e147, z148, ez148, v150, e154, z155, ez155, v157, e161, Or.inl ⟨nc162, Or.inr ⟨nc164, rfl⟩⟩⟩))))))⟩)))⟩) d_Mpg_height_377)
      · have nc162 : ¬ v150.toInt ≤ v143.toInt := mt (i_le (x := v150) (y := v143)).mpr c162
        refine lv_iload S.x S.b d_Mpg_height_354 (lv_at hl 1 rfl) ?_
        refine lv_goto (tgt := 361) S.x S.b d_Mpg_height_356 (by decide) ?_
        refine lv_istore (lv' := [(7, .int v150), (9, .int v157), (8, .int v150), (0, .ref h), (1, .int p0)]) S.x S.b d_Mpg_height_361 hl (by decide) rfl (fun ls hl => ?_)
        refine lv_iload S.x S.b d_Mpg_height_363 (lv_at hl 1 rfl) ?_
        refine lv_iload S.x S.b d_Mpg_height_365 (lv_at hl 0 rfl) ?_
        refine lv_icmp_le (tgt := 375) S.x S.b d_Mpg_height_367 (by decide) (fun c166 => ?_) (fun c166 => ?_)
        · have nc166 : v157.toInt ≤ v150.toInt := (i_le (x := v157) (y := v150)).mp c166
          refine lv_iload S.x S.b d_Mpg_height_375 (lv_at hl 0 rfl) ?_
          first | exact px_iret (v := v150) S hr rfl hlk hAe hw (Nat.le_of_ble_eq_true rfl) (Nat.le_of_ble_eq_true rfl) (⟨rfl, (show 1 ≤ v150.toInt from e151), (show v150.toInt ≤ 2 * (hi - lo) from (oz_9f9208b9f4 hrg.2.1 hrg_z141.1 e152 hrg_z141.2.1 hrg_x8.1 hrg_x8.2.1)), (show HgB na ma0 ma (tkl na ma0 ca) (d + 1) p0 v150.toInt from ⟨by omega, Or.inr (Or.inr (Or.inr (Or.inr (Or.inr (Or.inl (⟨by omega, by rw [← ez141]; exact (HgB.mono e146 (by omega)), by rw [← ha_z148]; exact (HgB.mono e153 (by omega)), by rw [← ha_z155]; exact (HgB.mono e160 (by omega))⟩))))))⟩), (show R_mp_height (RL_mp_height d) na ma ca p0 v150 from (Exists.intro 1 (Or.inl ⟨rfl, z103, ez103, Or.inr (Or.inr (Or.inr (Or.inr (Or.inr (Or.inr (Or.inl ⟨c112, z141, ez141, v143, e147, z148, ez148, v150, e154, z155, ez155, v157, e161, Or.inr ⟨nc162, Or.inl ⟨nc166, rfl⟩⟩⟩))))))⟩)))⟩) d_Mpg_height_377 | (exact px_iret (v := v150) S hr rfl hlk hAe hw (Nat.le_of_ble_eq_true rfl) (Nat.le_of_ble_eq_true rfl) (⟨rfl, (show 1 ≤ v150.toInt from by first | exact e151 | omega), (show v150.toInt ≤ 2 * (hi - lo) from by first | exact oz_9f9208b9f4 hrg.2.1 hrg_z141.1 e152 hrg_z141.2.1 hrg_x8.1 hrg_x8.2.1 | omega), (show HgB na ma0 ma (tkl na ma0 ca) (d + 1) p0 v150.toInt from ⟨by omega, Or.inr (Or.inr (Or.inr (Or.inr (Or.inr (Or.inl (⟨by omega, by rw [← ez141]; exact (HgB.mono e146 (by omega)), by rw [← ha_z148]; exact (HgB.mono e153 (by omega)), by rw [← ha_z155]; exact (HgB.mono e160 (by omega))⟩))))))⟩), (show R_mp_height (RL_mp_height d) na ma ca p0 v150 from (Exists.intro 1 (Or.inl ⟨rfl, z103, ez103, Or.inr (Or.inr (Or.inr (Or.inr (Or.inr (Or.inr (Or.inl ⟨c112, z141, ez141, v143, e147, z148, ez148, v150, e154, z155, ez155, v157, e161, Or.inr ⟨nc162, Or.inl ⟨nc166, rfl⟩⟩⟩))))))⟩)))⟩) d_Mpg_height_377)
        · have nc166 : ¬ v157.toInt ≤ v150.toInt := mt (i_le (x := v157) (y := v150)).mpr c166
          refine lv_iload S.x S.b d_Mpg_height_370 (lv_at hl 1 rfl) ?_
          refine lv_goto (tgt := 377) S.x S.b d_Mpg_height_372 (by decide) ?_
          first | exact px_iret (v := v157) S hr rfl hlk hAe hw (Nat.le_of_ble_eq_true rfl) (Nat.le_of_ble_eq_true rfl) (⟨rfl, (show 1 ≤ v157.toInt from e158), (show v157.toInt ≤ 2 * (hi - lo) from (oz_62956263f3 hrg.2.1 hrg_z141.1 e159 hrg_z141.2.1 hrg_y8.1 hrg_y8.2.1)), (show HgB na ma0 ma (tkl na ma0 ca) (d + 1) p0 v157.toInt from ⟨by omega, Or.inr (Or.inr (Or.inr (Or.inr (Or.inr (Or.inl (⟨by omega, by rw [← ez141]; exact (HgB.mono e146 (by omega)), by rw [← ha_z148]; exact (HgB.mono e153 (by omega)), by rw [← ha_z155]; exact (HgB.mono e160 (by omega))⟩))))))⟩), (show R_mp_height (RL_mp_height d) na ma ca p0 v157 from (Exists.intro 1 (Or.inl ⟨rfl, z103, ez103, Or.inr (Or.inr (Or.inr (Or.inr (Or.inr (Or.inr (Or.inl ⟨c112, z141, ez141, v143, e147, z148, ez148, v150, e154, z155, ez155, v157, e161, Or.inr ⟨nc162, Or.inr ⟨nc166, rfl⟩⟩⟩))))))⟩)))⟩) d_Mpg_height_377 | (exact px_iret (v := v157) S hr rfl hlk hAe hw (Nat.le_of_ble_eq_true rfl) (Nat.le_of_ble_eq_true rfl) (⟨rfl, (show 1 ≤ v157.toInt from by first | exact e158 | omega), (show v157.toInt ≤ 2 * (hi - lo) from by first | exact oz_62956263f3 hrg.2.1 hrg_z141.1 e159 hrg_z141.2.1 hrg_y8.1 hrg_y8.2.1 | omega), (show HgB na ma0 ma (tkl na ma0 ca) (d + 1) p0 v157.toInt from ⟨by omega, Or.inr (Or.inr (Or.inr (Or.inr (Or.inr (Or.inl (⟨by omega, by rw [← ez141]; exact (HgB.mono e146 (by omega)), by rw [← ha_z148]; exact (HgB.mono e153 (by omega)), by rw [← ha_z155]; exact (HgB.mono e160 (by omega))⟩))))))⟩), (show R_mp_height (RL_mp_height d) na ma ca p0 v157 from (Exists.intro 1 (Or.inl ⟨rfl, z103, ez103, Or.inr (Or.inr (Or.inr (Or.inr (Or.inr (Or.inr (Or.inl ⟨c112, z141, ez141, v143, e147, z148, ez148, v150, e154, z155, ez155, v157, e161, Or.inr ⟨nc162, Or.inr ⟨nc166, rfl⟩⟩⟩))))))⟩)))⟩) d_Mpg_height_377)
    · simp only [List.mem_cons, List.not_mem_nil, or_false] at c112
      refine lv_aload_n S.x S.b d_Mpg_height_378 rfl (lv_at hl 0 rfl) ?_
      refine lv_aload_n S.x S.b d_Mpg_height_379 rfl (lv_at hl 0 rfl) ?_
      obtain ⟨m1, hm1, hec_a9, hec_y8⟩ := EcV.k9 hec_p0 (by omega) (z := na 17 p0.toNatClampNeg) rfl rfl; have hrg_a9 := EcV.rng hec_a9; obtain ⟨hpc9, hvy9⟩ := LcE.k9 hlc (by omega)
      refine gP_18 S hT hw 0 rfl m10_3 d_Mpg_height_380 ?_
      refine lv_iload_n S.x S.b d_Mpg_height_383 rfl (lv_at hl 1 rfl) ?_
      refine px_iald S hT hw 0 14 (n := 2100) (f := (ma 18)) rfl gp_18 (x := p0) (vp_in_iff.mpr (by first | exact oz_a7e05de1cd hrg.2.2 hrg.2.1 g1 g2 | (constructor <;> omega))) d_Mpg_height_384 ?_
      refine lv_topi (fun z168 ez168 => ?_)
      have lz168 := Int32.le_toInt z168
      have uz168 := Int32.toInt_lt z168
      have rz168 : z168.toInt = (ma 18 p0.toNatClampNeg).toInt := by rw [ez168]
      have ha_z168 : z168 = ma0 18 p0.toNatClampNeg := ez168.trans (Ann.b18 han (by omega)); have hec_z168 : EcV ta (tf 6).toInt na ma0 d m1 p0.toInt z168 := (by rw [ha_z168]; exact hec_y8); have hrg_z168 := EcV.rng hec_z168; have hvn_z168 : V z168.toNatClampNeg 0 := (by rw [ez168]; exact hvy9)
      first | refine px_calli (pr := []) (px_runV (As := [.int z168]) (rest := []) S (hLH ma0 ys ns nf m1 p0.toInt V vl vh h r g tf ta pf na ma wa cf ca ef ea xf xa z168 (show 0 ≤ m1 from (oz_0a7da9c4d6 hrg_a9.2.1 hrg_a9.2.2)) (show p0.toInt ≤ (pf 13).toInt from (oz_6996e0781a g1 hrg.2.1)) (show (pf 13).toInt ≤ 2100 from g2) (show (tf 6).toInt ≤ 2049 from g3) (show (cf 38).toInt = nf from g4) (show 0 ≤ nf from g5) htk (FnT.eq hft (by omega)) hfp han hts hec_z168 hvn_z168 _) hT (pr := []) (pcs := [wdP cs h r g tf ta pf na ma wa cf ca ef ea xf xa]) hw (oX_call (P := (fun A U H => (oP A g U H))) (pr := []) oG_P hw hA hP) (px_recv hT hw 0 0 rfl rfl rfl) m13_65 m13_62 m13_64 ms_13_13 m1_21 q_Mpg_height ⟨show (2 * d + 8) + 1 ≤ (2 * (d + 1) + 8) from (oz_07fbb325ca), show 8 + (12 + 11) + (100 * d + 260) ≤ (100 * (d + 1) + 260) from (oz_22f1a200d8)⟩ hl.1 rfl (Nat.le_of_ble_eq_true rfl) d_Mpg_height_385 ⟨Nat.le_of_ble_eq_true rfl, Nat.le_of_ble_eq_true rfl⟩) hw hA (fun v170 p169 H locs hp169 hw => ?_) | (refine px_calli (pr := []) (px_runV (As := [.int z168]) (rest := []) S (hLH ma0 ys ns nf m1 p0.toInt V vl vh h r g tf ta pf na ma wa cf ca ef ea xf xa z168 (show 0 ≤ m1 from by first | exact oz_0a7da9c4d6 hrg_a9.2.1 hrg_a9.2.2 | omega) (show p0.toInt ≤ (pf 13).toInt from by first | exact oz_6996e0781a g1 hrg.2.1 | omega) (show (pf 13).toInt ≤ 2100 from by first | exact g2 | omega) (show (tf 6).toInt ≤ 2049 from by first | exact g3 | omega) (show (cf 38).toInt = nf from by first | exact g4 | omega) (show 0 ≤ nf from by first | exact g5 | omega) htk (FnT.eq hft (by omega)) hfp han hts hec_z168 hvn_z168 _) hT (pr := []) (pcs := [wdP cs h r g tf ta pf na ma wa cf ca ef ea xf xa]) hw (oX_call (P := (fun A U H => (oP A g U H))) (pr := []) oG_P hw hA hP) (px_recv hT hw 0 0 rfl rfl rfl) m13_65 m13_62 m13_64 ms_13_13 m1_21 q_Mpg_height ⟨show (2 * d + 8) + 1 ≤ (2 * (d + 1) + 8) from (by first | exact oz_07fbb325ca | omega), show 8 + (12 + 11) + (100 * d + 260) ≤ (100 * (d + 1) + 260) from (by first | exact oz_22f1a200d8 | omega)⟩ hl.1 rfl (Nat.le_of_ble_eq_true rfl) d_Mpg_height_385 ⟨Nat.le_of_ble_eq_true rfl, Nat.le_of_ble_eq_true rfl⟩) hw hA (fun v170 p169 H locs hp169 hw => ?_))
      obtain ⟨rfl, e171, e172, e173, e174⟩ := hp169
      have e171 : 1 ≤ v170.toInt := e171
      have e172 : v170.toInt ≤ 2 * (p0.toInt - m1) := e172
      have e173 : HgB na ma0 ma (tkl na ma0 ca) d z168 v170.toInt := e173
      have e174 : RL_mp_height d na ma ca z168 v170 := e174
      have lv170 := Int32.le_toInt v170
      have uv170 := Int32.toInt_lt v170
      refine lv_istore (lv' := [(10, .int v170), (0, .ref h), (1, .int p0)]) S.x S.b d_Mpg_height_388 hl (by decide) rfl (fun ls hl => ?_)
      refine lv_aload_n S.x S.b d_Mpg_height_390 rfl (lv_at hl 1 rfl) ?_
      refine gP_14 S hT hw 0 rfl m9_238 d_Mpg_height_391 ?_
      refine lv_aload_n S.x S.b d_Mpg_height_394 rfl (lv_at hl 1 rfl) ?_
      refine gP_17 S hT hw 0 rfl m10_1 d_Mpg_height_395 ?_
      refine lv_iload_n S.x S.b d_Mpg_height_398 rfl (lv_at hl 2 rfl) ?_
      refine px_iald S hT hw 0 13 (n := 2100) (f := (na 17)) rfl gp_17 (x := p0) (vp_in_iff.mpr (by first | exact oz_18f227bc52 hrg_z168.2.1 hrg_z168.2.2 hrg.2.1 g1 g2 | (constructor <;> omega))) d_Mpg_height_399 ?_
      refine lv_topi (fun z175 ez175 => ?_)
      have lz175 := Int32.le_toInt z175
      have uz175 := Int32.toInt_lt z175
      have hec_z175 : EcV ta (tf 6).toInt na ma0 d lo m1 z175 := (by rw [ez175]; exact hec_a9); have hrg_z175 := EcV.rng hec_z175
      refine px_bald S hT hw 0 10 (n := 2100) (f := (na 14)) rfl gp_14 (x := z175) (vp_in_iff.mpr (by first | exact oz_952fdbc7e0 hrg_z175.2.2 hrg_z175.2.1 hrg_z168.1 hrg.2.1 hrg_z168.2.1 g1 g2 | (constructor <;> omega))) d_Mpg_height_400 ?_
      refine lv_topi (fun z176 ez176 => ?_)
      have lz176 := Int32.le_toInt z176
      have uz176 := Int32.toInt_lt z176
      have rz176 := EcV.kd hec_z175 ez176
      refine lv_iconst (v := 4) S.x S.b d_Mpg_height_401 (by decide) ?_
      refine lv_icmp_ne (tgt := 442) S.x S.b d_Mpg_height_402 (by decide) (fun c177 => ?_) (fun c177 => ?_)
      · have nc177 : ¬ z176.toInt = (4 : Int) := mt (i_eq (x := z176) (y := 4)).mpr c177
        refine lv_iload S.x S.b d_Mpg_height_442 (lv_at hl 0 rfl) ?_
        first | exact px_iret (v := v170) S hr rfl hlk hAe hw (Nat.le_of_ble_eq_true rfl) (Nat.le_of_ble_eq_true rfl) (⟨rfl, (show 1 ≤ v170.toInt from e171), (show v170.toInt ≤ 2 * (hi - lo) from (oz_a23c3dad80 hrg.2.1 hrg_a9.1 e172 hrg_a9.2.1)), (show HgB na ma0 ma (tkl na ma0 ca) (d + 1) p0 v170.toInt from ⟨by omega, Or.inr (Or.inr (Or.inr (Or.inr (Or.inr (Or.inr (Or.inl (⟨by omega, by rw [← ez175]; omega, by rw [← ha_z168]; exact (HgB.mono e173 (by omega))⟩)))))))⟩), (show R_mp_height (RL_mp_height d) na ma ca p0 v170 from (Exists.intro 1 (Or.inl ⟨rfl, z103, ez103, Or.inr (Or.inr (Or.inr (Or.inr (Or.inr (Or.inr (Or.inr ⟨c112, z168, ez168, v170, e174, z175, ez175, z176, ez176, Or.inl ⟨nc177, rfl⟩⟩))))))⟩)))⟩) d_Mpg_height_444 | (exact px_iret (v := v170) S hr rfl hlk hAe hw (Nat.le_of_ble_eq_true rfl) (Nat.le_of_ble_eq_true rfl) (⟨rfl, (show 1 ≤ v170.toInt from by first | exact e171 | omega), (show v170.toInt ≤ 2 * (hi - lo) from by first | exact oz_a23c3dad80 hrg.2.1 hrg_a9.1 e172 hrg_a9.2.1 | omega), (show HgB na ma0 ma (tkl na ma0 ca) (d + 1) p0 v170.toInt from ⟨by omega, Or.inr (Or.inr (Or.inr (Or.inr (Or.inr (Or.inr (Or.inl (⟨by omega, by rw [← ez175]; omega, by rw [← ha_z168]; exact (HgB.mono e173 (by omega))⟩)))))))⟩), (show R_mp_height (RL_mp_height d) na ma ca p0 v170 from (Exists.intro 1 (Or.inl ⟨rfl, z103, ez103, Or.inr (Or.inr (Or.inr (Or.inr (Or.inr (Or.inr (Or.inr ⟨c112, z168, ez168, v170, e174, z175, ez175, z176, ez176, Or.inl ⟨nc177, rfl⟩⟩))))))⟩)))⟩) d_Mpg_height_444)
      · have nc177 : z176.toInt = (4 : Int) := (i_eq (x := z176) (y := 4)).mp c177
        refine lv_aload_n S.x S.b d_Mpg_height_405 rfl (lv_at hl 1 rfl) ?_
        refine lv_aload_n S.x S.b d_Mpg_height_406 rfl (lv_at hl 1 rfl) ?_
        refine gP_17 S hT hw 0 rfl m10_1 d_Mpg_height_407 ?_
        refine lv_aload_n S.x S.b d_Mpg_height_410 rfl (lv_at hl 1 rfl) ?_
        refine gP_17 S hT hw 0 rfl m10_1 d_Mpg_height_411 ?_
        refine lv_iload_n S.x S.b d_Mpg_height_414 rfl (lv_at hl 2 rfl) ?_
        refine px_iald S hT hw 0 13 (n := 2100) (f := (na 17)) rfl gp_17 (x := p0) (vp_in_iff.mpr (by first | exact oz_18f227bc52 hrg_z168.2.1 hrg_z168.2.2 hrg.2.1 g1 g2 | (constructor <;> omega))) d_Mpg_height_415 ?_
        refine lv_topi (fun z179 ez179 => ?_)
        have lz179 := Int32.le_toInt z179
        have uz179 := Int32.toInt_lt z179
        have hsz179 : z175 = z179 := ez175.trans ez179.symm; subst hsz179
        refine px_iald S hT hw 0 13 (n := 2100) (f := (na 17)) rfl gp_17 (x := z175) (vp_in_iff.mpr (by first | exact oz_952fdbc7e0 hrg_z175.2.2 hrg_z175.2.1 hrg_z168.1 hrg.2.1 hrg_z168.2.1 g1 g2 | (constructor <;> omega))) d_Mpg_height_416 ?_
        refine lv_topi (fun z180 ez180 => ?_)
        have lz180 := Int32.le_toInt z180
        have uz180 := Int32.toInt_lt z180
        have hec_z180 := EcV.k4d hec_z175 (by omega) ez180; have hrg_z180 := EcV.rng hec_z180; have hvn_z180 : V z180.toNatClampNeg 0 := (by have q9 := LcE.k46 (Ts.e hts hpc9.1) (by rw [← ez175]; omega); rw [ez180, ez175]; exact q9)
        first | refine px_calli (pr := []) (px_runV (As := [.int z180]) (rest := []) S (hLH ma0 ys ns nf (z175.toInt + 1) m1 V vl vh h r g tf ta pf na ma wa cf ca ef ea xf xa z180 (show 0 ≤ (z175.toInt + 1) from (oz_c12c169b81 hrg_z175.2.2)) (show m1 ≤ (pf 13).toInt from (oz_dc2da80b19 g1 hrg_z168.1 hrg.2.1 hrg_z168.2.1)) (show (pf 13).toInt ≤ 2100 from g2) (show (tf 6).toInt ≤ 2049 from g3) (show (cf 38).toInt = nf from g4) (show 0 ≤ nf from g5) htk (FnT.eq hft (by omega)) hfp han hts hec_z180 hvn_z180 _) hT (pr := []) (pcs := [wdP cs h r g tf ta pf na ma wa cf ca ef ea xf xa]) hw (oX_call (P := (fun A U H => (oP A g U H))) (pr := []) oG_P hw hA hP) (px_recv hT hw 0 0 rfl rfl rfl) m13_65 m13_62 m13_64 ms_13_13 m1_21 q_Mpg_height ⟨show (2 * d + 8) + 1 ≤ (2 * (d + 1) + 8) from (oz_07fbb325ca), show 8 + (12 + 11) + (100 * d + 260) ≤ (100 * (d + 1) + 260) from (oz_22f1a200d8)⟩ hl.1 rfl (Nat.le_of_ble_eq_true rfl) d_Mpg_height_417 ⟨Nat.le_of_ble_eq_true rfl, Nat.le_of_ble_eq_true rfl⟩) hw hA (fun v182 p181 H locs hp181 hw => ?_) | (refine px_calli (pr := []) (px_runV (As := [.int z180]) (rest := []) S (hLH ma0 ys ns nf (z175.toInt + 1) m1 V vl vh h r g tf ta pf na ma wa cf ca ef ea xf xa z180 (show 0 ≤ (z175.toInt + 1) from by first | exact oz_c12c169b81 hrg_z175.2.2 | omega) (show m1 ≤ (pf 13).toInt from by first | exact oz_dc2da80b19 g1 hrg_z168.1 hrg.2.1 hrg_z168.2.1 | omega) (show (pf 13).toInt ≤ 2100 from by first | exact g2 | omega) (show (tf 6).toInt ≤ 2049 from by first | exact g3 | omega) (show (cf 38).toInt = nf from by first | exact g4 | omega) (show 0 ≤ nf from by first | exact g5 | omega) htk (FnT.eq hft (by omega)) hfp han hts hec_z180 hvn_z180 _) hT (pr := []) (pcs := [wdP cs h r g tf ta pf na ma wa cf ca ef ea xf xa]) hw (oX_call (P := (fun A U H => (oP A g U H))) (pr := []) oG_P hw hA hP) (px_recv hT hw 0 0 rfl rfl rfl) m13_65 m13_62 m13_64 ms_13_13 m1_21 q_Mpg_height ⟨show (2 * d + 8) + 1 ≤ (2 * (d + 1) + 8) from (by first | exact oz_07fbb325ca | omega), show 8 + (12 + 11) + (100 * d + 260) ≤ (100 * (d + 1) + 260) from (by first | exact oz_22f1a200d8 | omega)⟩ hl.1 rfl (Nat.le_of_ble_eq_true rfl) d_Mpg_height_417 ⟨Nat.le_of_ble_eq_true rfl, Nat.le_of_ble_eq_true rfl⟩) hw hA (fun v182 p181 H locs hp181 hw => ?_))
        obtain ⟨rfl, e183, e184, e185, e186⟩ := hp181
        have e183 : 1 ≤ v182.toInt := e183
        have e184 : v182.toInt ≤ 2 * (m1 - (z175.toInt + 1)) := e184
        have e185 : HgB na ma0 ma (tkl na ma0 ca) d z180 v182.toInt := e185
        have e186 : RL_mp_height d na ma ca z180 v182 := e186
        have lv182 := Int32.le_toInt v182
        have uv182 := Int32.toInt_lt v182
        refine lv_istore (lv' := [(11, .int v182), (10, .int v170), (0, .ref h), (1, .int p0)]) S.x S.b d_Mpg_height_420 hl (by decide) rfl (fun ls hl => ?_)
        refine lv_iload S.x S.b d_Mpg_height_422 (lv_at hl 0 rfl) ?_
        refine lv_iload S.x S.b d_Mpg_height_424 (lv_at hl 1 rfl) ?_
        refine lv_iconst (v := 1) S.x S.b d_Mpg_height_426 (by decide) ?_
        refine lv_iadd S.x S.b d_Mpg_height_427 ?_
        refine lv_topi (fun z187 ez187 => ?_)
        have tz187 : z187.toInt = (v170.toInt + (1 : Int) + 2147483648) % 4294967296 - 2147483648 := by rw [ez187]; exact i_add v170 1
        have lz187 := Int32.le_toInt z187
        have uz187 := Int32.toInt_lt z187
        try replace tz187 : z187.toInt = v170.toInt + (1 : Int) := by omega
        refine lv_icmp_le (tgt := 436) S.x S.b d_Mpg_height_428 (by decide) (fun c188 => ?_) (fun c188 => ?_)
        · have nc188 : v182.toInt ≤ z187.toInt := (i_le (x := v182) (y := z187)).mp c188
          refine lv_iload S.x S.b d_Mpg_height_436 (lv_at hl 1 rfl) ?_
          refine lv_iconst (v := 1) S.x S.b d_Mpg_height_438 (by decide) ?_
          refine lv_iadd S.x S.b d_Mpg_height_439 ?_
          refine lv_topi (fun z190 ez190 => ?_)
          have tz190 : z190.toInt = (v170.toInt + (1 : Int) + 2147483648) % 4294967296 - 2147483648 := by rw [ez190]; exact i_add v170 1
          have lz190 := Int32.le_toInt z190
          have uz190 := Int32.toInt_lt z190
          try replace tz190 : z190.toInt = v170.toInt + (1 : Int) := by omega
          refine lv_istore (lv' := [(10, .int z190), (11, .int v182), (0, .ref h), (1, .int p0)]) S.x S.b d_Mpg_height_440 hl (by decide) rfl (fun ls hl => ?_)
          refine lv_iload S.x S.b d_Mpg_height_442 (lv_at hl 0 rfl) ?_
          first | exact px_iret (v := z190) S hr rfl hlk hAe hw (Nat.le_of_ble_eq_true rfl) (Nat.le_of_ble_eq_true rfl) (⟨rfl, (show 1 ≤ z190.toInt from (oz_af6d0efbcf tz190 e171)), (show z190.toInt ≤ 2 * (hi - lo) from (oz_48783c20bd hrg.2.1 hrg_z175.1 tz190 e172 hrg_z175.2.1)), (show HgB na ma0 ma (tkl na ma0 ca) (d + 1) p0 z190.toInt from ⟨by omega, Or.inr (Or.inr (Or.inr (Or.inr (Or.inr (Or.inr (Or.inr (⟨by omega, by rw [← ez175]; omega, by rw [← ha_z168]; exact (HgB.mono e173 (by omega)), by rw [← ez175, ← ez180]; exact (HgB.mono e185 (by omega))⟩)))))))⟩), (show R_mp_height (RL_mp_height d) na ma ca p0 z190 from (Exists.intro 1 (Or.inl ⟨rfl, z103, ez103, Or.inr (Or.inr (Or.inr (Or.inr (Or.inr (Or.inr (Or.inr ⟨c112, z168, ez168, v170, e174, z175, ez175, z176, ez176, Or.inr ⟨nc177, z175, ez179, z180, ez180, v182, e186, z187, ez187, Or.inl ⟨nc188, z190, ez190, rfl⟩⟩⟩))))))⟩)))⟩) d_Mpg_height_444 | (exact px_iret (v := z190) S hr rfl hlk hAe hw (Nat.le_of_ble_eq_true rfl) (Nat.le_of_ble_eq_true rfl) (⟨rfl, (show 1 ≤ z190.toInt from by first | exact oz_af6d0efbcf tz190 e171 | omega), (show z190.toInt ≤ 2 * (hi - lo) from by first | exact oz_48783c20bd hrg.2.1 hrg_z175.1 tz190 e172 hrg_z175.2.1 | omega), (show HgB na ma0 ma (tkl na ma0 ca) (d + 1) p0 z190.toInt from ⟨by omega, Or.inr (Or.inr (Or.inr (Or.inr (Or.inr (Or.inr (Or.inr (⟨by omega, by rw [← ez175]; omega, by rw [← ha_z168]; exact (HgB.mono e173 (by omega)), by rw [← ez175, ← ez180]; exact (HgB.mono e185 (by omega))⟩)))))))⟩), (show R_mp_height (RL_mp_height d) na ma ca p0 z190 from (Exists.intro 1 (Or.inl ⟨rfl, z103, ez103, Or.inr (Or.inr (Or.inr (Or.inr (Or.inr (Or.inr (Or.inr ⟨c112, z168, ez168, v170, e174, z175, ez175, z176, ez176, Or.inr ⟨nc177, z175, ez179, z180, ez180, v182, e186, z187, ez187, Or.inl ⟨nc188, z190, ez190, rfl⟩⟩⟩))))))⟩)))⟩) d_Mpg_height_444)
        · have nc188 : ¬ v182.toInt ≤ z187.toInt := mt (i_le (x := v182) (y := z187)).mpr c188
          refine lv_iload S.x S.b d_Mpg_height_431 (lv_at hl 0 rfl) ?_
          refine lv_goto (tgt := 440) S.x S.b d_Mpg_height_433 (by decide) ?_
          refine lv_istore (lv' := [(10, .int v182), (11, .int v182), (0, .ref h), (1, .int p0)]) S.x S.b d_Mpg_height_440 hl (by decide) rfl (fun ls hl => ?_)
          refine lv_iload S.x S.b d_Mpg_height_442 (lv_at hl 0 rfl) ?_
          first | exact px_iret (v := v182) S hr rfl hlk hAe hw (Nat.le_of_ble_eq_true rfl) (Nat.le_of_ble_eq_true rfl) (⟨rfl, (show 1 ≤ v182.toInt from e183), (show v182.toInt ≤ 2 * (hi - lo) from (oz_10f5cc4f8d hrg.2.1 hrg_z175.1 e184 hrg_z168.1 hrg_z168.2.1)), (show HgB na ma0 ma (tkl na ma0 ca) (d + 1) p0 v182.toInt from ⟨by omega, Or.inr (Or.inr (Or.inr (Or.inr (Or.inr (Or.inr (Or.inr (⟨by omega, by rw [← ez175]; omega, by rw [← ha_z168]; exact (HgB.mono e173 (by omega)), by rw [← ez175, ← ez180]; exact (HgB.mono e185 (by omega))⟩)))))))⟩), (show R_mp_height (RL_mp_height d) na ma ca p0 v182 from (Exists.intro 1 (Or.inl ⟨rfl, z103, ez103, Or.inr (Or.inr (Or.inr (Or.inr (Or.inr (Or.inr (Or.inr ⟨c112, z168, ez168, v170, e174, z175, ez175, z176, ez176, Or.inr ⟨nc177, z175, ez179, z180, ez180, v182, e186, z187, ez187, Or.inr ⟨nc188, rfl⟩⟩⟩))))))⟩)))⟩) d_Mpg_height_444 | (exact px_iret (v := v182) S hr rfl hlk hAe hw (Nat.le_of_ble_eq_true rfl) (Nat.le_of_ble_eq_true rfl) (⟨rfl, (show 1 ≤ v182.toInt from by first | exact e183 | omega), (show v182.toInt ≤ 2 * (hi - lo) from by first | exact oz_10f5cc4f8d hrg.2.1 hrg_z175.1 e184 hrg_z168.1 hrg_z168.2.1 | omega), (show HgB na ma0 ma (tkl na ma0 ca) (d + 1) p0 v182.toInt from ⟨by omega, Or.inr (Or.inr (Or.inr (Or.inr (Or.inr (Or.inr (Or.inr (⟨by omega, by rw [← ez175]; omega, by rw [← ha_z168]; exact (HgB.mono e173 (by omega)), by rw [← ez175, ← ez180]; exact (HgB.mono e185 (by omega))⟩)))))))⟩), (show R_mp_height (RL_mp_height d) na ma ca p0 v182 from (Exists.intro 1 (Or.inl ⟨rfl, z103, ez103, Or.inr (Or.inr (Or.inr (Or.inr (Or.inr (Or.inr (Or.inr ⟨c112, z168, ez168, v170, e174, z175, ez175, z176, ez176, Or.inr ⟨nc177, z175, ez179, z180, ez180, v182, e186, z187, ez187, Or.inr ⟨nc188, rfl⟩⟩⟩))))))⟩)))⟩) d_Mpg_height_444)
theorem htc_all (l : Launch) (D : va_G) (cs : Nat → ClassId) : ∀ d : Nat, HtC l D cs d := by
  intro d
  induction d with
  | zero => intro ma0 ys ns nf lo hi V vl vh h r g tf ta pf na ma wa cf ca ef ea xf xa p0 g0 g1 g2 g3 g4 g5 htk hft hfp han hts hec hvn; exact (ec_0 hec).elim
  | succ d ih => intro ma0 ys ns nf lo hi V vl vh h r g tf ta pf na ma wa cf ca ef ea xf xa p0 g0 g1 g2 g3 g4 g5 htk hft hfp han hts hec hvn; exact c_mp_height l D cs ma0 ys ns nf d lo hi V vl vh h r g tf ta pf na ma wa cf ca ef ea xf xa p0 g0 g1 g2 g3 g4 g5 htk hft hfp han hts hec hvn ih
set_option maxHeartbeats 4000000 in
set_option maxRecDepth 100000 in
theorem c_S_height (l : Launch) (D : va_G) (cs : Nat → ClassId) (ma0 : Nat → Nat → Int32) (ys : Int) (ns : Int) (nf : Int) (d : Nat) (lo : Int) (hi : Int) (V : Nat → Nat → Prop) (vl : Int) (vh : Int) (h : Nat) (r : Nat → Nat) (g : Nat → Nat → Option Nat) (tf : Nat → Int32) (ta : Nat → Nat → Int32) (pf : Nat → Int32) (na : Nat → Nat → Int32) (ma : Nat → Nat → Int32) (wa : Nat → Nat → Int32) (cf : Nat → Int32) (ca : Nat → Nat → Int32) (ef : Nat → Int32) (ea : Nat → Nat → Int32) (xf : Nat → Int32) (xa : Nat → Nat → Int32) (p0 : Int32)  (g0 : 0 ≤ lo) (g1 : hi ≤ (pf 13).toInt) (g2 : (pf 13).toInt ≤ 2100) (g3 : (tf 6).toInt ≤ 2049) (g4 : (cf 38).toInt = nf) (g5 : 0 ≤ nf) (htk : TkI tf ta) (hft : FnT (tf 6).toInt na ca (cf 38).toInt) (hfp : FnP na ca nf) (han : Ann na ma0 ma) (hts : Ts (Gk ta ca na ma0 ns ys nf) na ma vl vh V) (hec : EcV ta (tf 6).toInt na ma0 d lo hi p0) (hvn : V p0.toNatClampNeg 0) : MetI l y_Mpg_height b_Mpg_height 12 (.int) D cs (2 * d + 8) (100 * d + 260) (0) (0) [.ref h, .int p0] [wdP cs h r g tf ta pf na ma wa cf ca ef ea xf xa] (oX (fun A U H => (oP A g U H)) [wdP cs h r g tf ta pf na ma wa cf ca ef ea xf xa]) (fun v ps => (ps = [wdP cs h r g tf ta pf na ma wa cf ca ef ea xf xa]) ∧ (1 ≤ v.toInt) ∧ (v.toInt ≤ 2 * (hi - lo)) ∧ (HgB na ma0 ma (tkl na ma0 ca) d p0 v.toInt) ∧ (RL_mp_height d na ma ca p0 v)) := by
  exact htc_all l D cs d ma0 ys ns nf lo hi V vl vh h r g tf ta pf na ma wa cf ca ef ea xf xa p0 g0 g1 g2 g3 g4 g5 htk hft hfp han hts hec hvn
