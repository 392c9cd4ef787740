theorem oz_caf67f0162 {a0 a1 a2 a3 : Int} (h0 : 0 ≤ a0) (h1 : a0 < a1) (h2 : a1 ≤ a2) (h3 : a2 ≤ a3) (h4 : a3 ≤ 2100) : 0 ≤ a0 ∧ a0 < ((2100 : Nat) : Int) := by omega
theorem oz_d6f7d432cd {a0 a1 a2 a3 a4 a5 : Int} (h0 : 6 * a0 ≤ 6 * a1 + (a2 + (a3 - a4))) (h1 : 0 ≤ a5) : 6 * a0 ≤ 6 * a1 + (a2 + (a3 - (a4 - a5))) := by omega
theorem oz_8ecff1de6a {a0 a1 a2 a3 : Int} (h0 : a0 ≤ a2) (h1 : a3 < a1) (h2 : a2 ≤ a3) : a0 ≤ a1 := by omega
theorem oz_e1c59a9aac {a0 a1 : Int} (h0 : a1 ≤ a0) : 0 ≤ (a0 - a1) := by omega
theorem oz_59ed07f53b {a0 a1 a2 : Int} (h0 : a0 ≤ a2) (h1 : 0 ≤ a1) : (a0 - a1) ≤ a2 := by omega
theorem oz_0c9cab56e9 {a0 : Int} {n1 : Nat} (h0 : a0 < ((n1 + 1 : Nat) : Int)) : (a0 - 1) < (n1 : Int) := by omega
theorem oz_9dc6140a65  : 1 ≤ (10 : Int) := by omega
theorem oz_838785b4c6 {a0 a1 a2 a3 a4 a5 : Int} (h0 : 6 * a5 ≤ 6 * a1 + (a2 + (a3 - a4))) (h1 : a0 = a5) : 6 * a0 ≤ 6 * a1 + (a2 + (a3 - a4)) := by omega
theorem oz_07f91154f4 {a0 a1 a2 a3 : Int} (h0 : a2 = a1 + 1) (h1 : a0 = a3) (h2 : a3 = a2 - (1 : Int)) : a0 = a1 := by omega
theorem oz_ac081cd12c {a0 a1 a2 a3 a4 a5 a6 : Int} (h0 : a3 + a4 + 2 ≤ a2) (h1 : 6 * a5 ≤ 6 * a1 + (a3 + (a4 - a6))) (h2 : a0 = a5) (h3 : 0 ≤ a6) : 6 * a0 ≤ 6 * a1 + (a2) := by omega
theorem oz_c44fb009a5 {a0 a2 : Int} {n1 : Nat} (h0 : a2 + (n1 : Int) + 1 ≤ 400) (h1 : a0 = a2 + 1) : a0 + (n1 : Int) ≤ 400 := by omega
theorem oz_b9f1b5d567 {a0 a1 a2 a3 a4 a5 a6 : Int} (h0 : 6 * a6 ≤ 6 * a1 + (a2 + (a3 - a4))) (h1 : 6 * a0 ≤ 6 * a6 + (a5)) : 6 * a0 ≤ 6 * a1 + (a2 + (a3 - (a4 - a5))) := by omega
theorem oz_c50697fa88 {a0 a1 a2 a3 a4 : Int} (h0 : a0 ≤ a2) (h1 : 6 * a3 ≤ 6 * a4 + (a1)) (h2 : a4 ≤ a3) : (a0 - a1) ≤ a2 := by omega
theorem oz_155d61c1c9 {n0 : Nat}  : (4 * n0 + 18) + 1 ≤ (6 * n0 + 29) := by omega
theorem oz_bcab61c671 {n0 : Nat}  : 8 + (5 + 11) + (200 * n0 + 640) ≤ (260 * n0 + 1020) := by omega
theorem oz_8d9edf7b92 {a0 a1 : Int} (h0 : a1 = a0) (h1 : a1 = (29 : Int)) : a0 = 29 := by omega
theorem oz_12495c257e {a0 a1 a2 a3 : Int} (h0 : 0 ≤ a2) (h1 : a0 = a1) : 6 * a0 ≤ 6 * a1 + (a2 + (a3 - a3)) := by omega
theorem m10_36 : Cond.fieldLink "HomeSystemModel$Program" 670 "HomeSystemModel$Program" "switches" "I" ∈ AL := AL_10 (List.mem_of_getElem? (i := 36) rfl) rfl
abbrev b_Mpg_checkSwitch : ByteArray := prog_16_method_95_code
def y_Mpg_checkSwitch : MethodName := ⟨"HomeSystemModel$Program", "checkSwitch", "(I)V"⟩
theorem d_Mpg_checkSwitch_0 : decode b_Mpg_checkSwitch 0 = .ok (.aload_n 0, 1) := by decide +kernel
theorem d_Mpg_checkSwitch_1 : decode b_Mpg_checkSwitch 1 = .ok (.aload_n 0, 1) := by decide +kernel
theorem d_Mpg_checkSwitch_2 : decode b_Mpg_checkSwitch 2 = .ok (.getfield 216, 3) := by decide +kernel
theorem d_Mpg_checkSwitch_5 : decode b_Mpg_checkSwitch 5 = .ok (.iload_n 1, 1) := by decide +kernel
theorem d_Mpg_checkSwitch_6 : decode b_Mpg_checkSwitch 6 = .ok (.iaload, 1) := by decide +kernel
theorem d_Mpg_checkSwitch_7 : decode b_Mpg_checkSwitch 7 = .ok (.iconst 1, 1) := by decide +kernel
theorem d_Mpg_checkSwitch_8 : decode b_Mpg_checkSwitch 8 = .ok (.invokevirtual 577, 3) := by decide +kernel
theorem d_Mpg_checkSwitch_11 : decode b_Mpg_checkSwitch 11 = .ok (.pop, 1) := by decide +kernel
theorem d_Mpg_checkSwitch_12 : decode b_Mpg_checkSwitch 12 = .ok (.aload_n 0, 1) := by decide +kernel
theorem d_Mpg_checkSwitch_13 : decode b_Mpg_checkSwitch 13 = .ok (.getfield 528, 3) := by decide +kernel
theorem d_Mpg_checkSwitch_16 : decode b_Mpg_checkSwitch 16 = .ok (.istore_n 2, 1) := by decide +kernel
theorem d_Mpg_checkSwitch_17 : decode b_Mpg_checkSwitch 17 = .ok (.aload_n 0, 1) := by decide +kernel
theorem d_Mpg_checkSwitch_18 : decode b_Mpg_checkSwitch 18 = .ok (.getfield 556, 3) := by decide +kernel
theorem d_Mpg_checkSwitch_21 : decode b_Mpg_checkSwitch 21 = .ok (.istore_n 3, 1) := by decide +kernel
theorem d_Mpg_checkSwitch_22 : decode b_Mpg_checkSwitch 22 = .ok (.aload_n 0, 1) := by decide +kernel
theorem d_Mpg_checkSwitch_23 : decode b_Mpg_checkSwitch 23 = .ok (.aload_n 0, 1) := by decide +kernel
theorem d_Mpg_checkSwitch_24 : decode b_Mpg_checkSwitch 24 = .ok (.getfield 528, 3) := by decide +kernel
theorem d_Mpg_checkSwitch_27 : decode b_Mpg_checkSwitch 27 = .ok (.putfield 556, 3) := by decide +kernel
theorem d_Mpg_checkSwitch_30 : decode b_Mpg_checkSwitch 30 = .ok (.aload_n 0, 1) := by decide +kernel
theorem d_Mpg_checkSwitch_31 : decode b_Mpg_checkSwitch 31 = .ok (.dup, 1) := by decide +kernel
theorem d_Mpg_checkSwitch_32 : decode b_Mpg_checkSwitch 32 = .ok (.getfield 670, 3) := by decide +kernel
theorem d_Mpg_checkSwitch_35 : decode b_Mpg_checkSwitch 35 = .ok (.iconst 1, 1) := by decide +kernel
theorem d_Mpg_checkSwitch_36 : decode b_Mpg_checkSwitch 36 = .ok (.iadd, 1) := by decide +kernel
theorem d_Mpg_checkSwitch_37 : decode b_Mpg_checkSwitch 37 = .ok (.putfield 670, 3) := by decide +kernel
theorem d_Mpg_checkSwitch_40 : decode b_Mpg_checkSwitch 40 = .ok (.iconst 0, 1) := by decide +kernel
theorem d_Mpg_checkSwitch_41 : decode b_Mpg_checkSwitch 41 = .ok (.istore 4, 2) := by decide +kernel
theorem d_Mpg_checkSwitch_43 : decode b_Mpg_checkSwitch 43 = .ok (.aload_n 0, 1) := by decide +kernel
theorem d_Mpg_checkSwitch_44 : decode b_Mpg_checkSwitch 44 = .ok (.getfield 219, 3) := by decide +kernel
theorem d_Mpg_checkSwitch_47 : decode b_Mpg_checkSwitch 47 = .ok (.iload_n 1, 1) := by decide +kernel
theorem d_Mpg_checkSwitch_48 : decode b_Mpg_checkSwitch 48 = .ok (.iaload, 1) := by decide +kernel
theorem d_Mpg_checkSwitch_49 : decode b_Mpg_checkSwitch 49 = .ok (.istore 5, 2) := by decide +kernel
theorem d_Mpg_checkSwitch_51 : decode b_Mpg_checkSwitch 51 = .ok (.iload 5, 2) := by decide +kernel
theorem d_Mpg_checkSwitch_53 : decode b_Mpg_checkSwitch 53 = .ok (.ifCond .lt 200, 3) := by decide +kernel
theorem d_Mpg_checkSwitch_56 : decode b_Mpg_checkSwitch 56 = .ok (.aload_n 0, 1) := by decide +kernel
theorem d_Mpg_checkSwitch_57 : decode b_Mpg_checkSwitch 57 = .ok (.getfield 207, 3) := by decide +kernel
theorem d_Mpg_checkSwitch_60 : decode b_Mpg_checkSwitch 60 = .ok (.iload 5, 2) := by decide +kernel
theorem d_Mpg_checkSwitch_62 : decode b_Mpg_checkSwitch 62 = .ok (.baload, 1) := by decide +kernel
theorem d_Mpg_checkSwitch_63 : decode b_Mpg_checkSwitch 63 = .ok (.bipush 29, 2) := by decide +kernel
theorem d_Mpg_checkSwitch_65 : decode b_Mpg_checkSwitch 65 = .ok (.if_icmp .ne 134, 3) := by decide +kernel
theorem d_Mpg_checkSwitch_68 : decode b_Mpg_checkSwitch 68 = .ok (.aload_n 0, 1) := by decide +kernel
theorem d_Mpg_checkSwitch_69 : decode b_Mpg_checkSwitch 69 = .ok (.getfield 231, 3) := by decide +kernel
theorem d_Mpg_checkSwitch_72 : decode b_Mpg_checkSwitch 72 = .ok (.iload 5, 2) := by decide +kernel
theorem d_Mpg_checkSwitch_74 : decode b_Mpg_checkSwitch 74 = .ok (.aload_n 0, 1) := by decide +kernel
theorem d_Mpg_checkSwitch_75 : decode b_Mpg_checkSwitch 75 = .ok (.aload_n 0, 1) := by decide +kernel
theorem d_Mpg_checkSwitch_76 : decode b_Mpg_checkSwitch 76 = .ok (.getfield 216, 3) := by decide +kernel
theorem d_Mpg_checkSwitch_79 : decode b_Mpg_checkSwitch 79 = .ok (.iload 5, 2) := by decide +kernel
theorem d_Mpg_checkSwitch_81 : decode b_Mpg_checkSwitch 81 = .ok (.iaload, 1) := by decide +kernel
theorem d_Mpg_checkSwitch_82 : decode b_Mpg_checkSwitch 82 = .ok (.invokevirtual 593, 3) := by decide +kernel
theorem d_Mpg_checkSwitch_85 : decode b_Mpg_checkSwitch 85 = .ok (.ifCond .eq 7, 3) := by decide +kernel
theorem d_Mpg_checkSwitch_88 : decode b_Mpg_checkSwitch 88 = .ok (.iconst 1, 1) := by decide +kernel
theorem d_Mpg_checkSwitch_89 : decode b_Mpg_checkSwitch 89 = .ok (.goto 4, 3) := by decide +kernel
theorem d_Mpg_checkSwitch_92 : decode b_Mpg_checkSwitch 92 = .ok (.iconst 0, 1) := by decide +kernel
theorem d_Mpg_checkSwitch_93 : decode b_Mpg_checkSwitch 93 = .ok (.iastore, 1) := by decide +kernel
theorem d_Mpg_checkSwitch_94 : decode b_Mpg_checkSwitch 94 = .ok (.aload_n 0, 1) := by decide +kernel
theorem d_Mpg_checkSwitch_95 : decode b_Mpg_checkSwitch 95 = .ok (.getfield 219, 3) := by decide +kernel
theorem d_Mpg_checkSwitch_98 : decode b_Mpg_checkSwitch 98 = .ok (.iload 5, 2) := by decide +kernel
theorem d_Mpg_checkSwitch_100 : decode b_Mpg_checkSwitch 100 = .ok (.aload_n 0, 1) := by decide +kernel
theorem d_Mpg_checkSwitch_101 : decode b_Mpg_checkSwitch 101 = .ok (.getfield 612, 3) := by decide +kernel
theorem d_Mpg_checkSwitch_104 : decode b_Mpg_checkSwitch 104 = .ok (.iastore, 1) := by decide +kernel
theorem d_Mpg_checkSwitch_105 : decode b_Mpg_checkSwitch 105 = .ok (.aload_n 0, 1) := by decide +kernel
theorem d_Mpg_checkSwitch_106 : decode b_Mpg_checkSwitch 106 = .ok (.getfield 219, 3) := by decide +kernel
theorem d_Mpg_checkSwitch_109 : decode b_Mpg_checkSwitch 109 = .ok (.iload_n 1, 1) := by decide +kernel
theorem d_Mpg_checkSwitch_110 : decode b_Mpg_checkSwitch 110 = .ok (.iaload, 1) := by decide +kernel
theorem d_Mpg_checkSwitch_111 : decode b_Mpg_checkSwitch 111 = .ok (.istore 6, 2) := by decide +kernel
theorem d_Mpg_checkSwitch_113 : decode b_Mpg_checkSwitch 113 = .ok (.iload 6, 2) := by decide +kernel
theorem d_Mpg_checkSwitch_115 : decode b_Mpg_checkSwitch 115 = .ok (.iload 5, 2) := by decide +kernel
theorem d_Mpg_checkSwitch_117 : decode b_Mpg_checkSwitch 117 = .ok (.if_icmp .eq 79, 3) := by decide +kernel
theorem d_Mpg_checkSwitch_120 : decode b_Mpg_checkSwitch 120 = .ok (.aload_n 0, 1) := by decide +kernel
theorem d_Mpg_checkSwitch_121 : decode b_Mpg_checkSwitch 121 = .ok (.getfield 207, 3) := by decide +kernel
theorem d_Mpg_checkSwitch_124 : decode b_Mpg_checkSwitch 124 = .ok (.iload 6, 2) := by decide +kernel
theorem d_Mpg_checkSwitch_126 : decode b_Mpg_checkSwitch 126 = .ok (.baload, 1) := by decide +kernel
theorem d_Mpg_checkSwitch_127 : decode b_Mpg_checkSwitch 127 = .ok (.bipush 29, 2) := by decide +kernel
theorem d_Mpg_checkSwitch_129 : decode b_Mpg_checkSwitch 129 = .ok (.if_icmp .ne 55, 3) := by decide +kernel
theorem d_Mpg_checkSwitch_132 : decode b_Mpg_checkSwitch 132 = .ok (.aload_n 0, 1) := by decide +kernel
theorem d_Mpg_checkSwitch_133 : decode b_Mpg_checkSwitch 133 = .ok (.getfield 231, 3) := by decide +kernel
theorem d_Mpg_checkSwitch_136 : decode b_Mpg_checkSwitch 136 = .ok (.iload 6, 2) := by decide +kernel
theorem d_Mpg_checkSwitch_138 : decode b_Mpg_checkSwitch 138 = .ok (.iaload, 1) := by decide +kernel
theorem d_Mpg_checkSwitch_139 : decode b_Mpg_checkSwitch 139 = .ok (.iconst 1, 1) := by decide +kernel
theorem d_Mpg_checkSwitch_140 : decode b_Mpg_checkSwitch 140 = .ok (.if_icmp .ne 44, 3) := by decide +kernel
theorem d_Mpg_checkSwitch_143 : decode b_Mpg_checkSwitch 143 = .ok (.aload_n 0, 1) := by decide +kernel
theorem d_Mpg_checkSwitch_144 : decode b_Mpg_checkSwitch 144 = .ok (.getfield 231, 3) := by decide +kernel
theorem d_Mpg_checkSwitch_147 : decode b_Mpg_checkSwitch 147 = .ok (.iload 5, 2) := by decide +kernel
theorem d_Mpg_checkSwitch_149 : decode b_Mpg_checkSwitch 149 = .ok (.iaload, 1) := by decide +kernel
theorem d_Mpg_checkSwitch_150 : decode b_Mpg_checkSwitch 150 = .ok (.iconst 1, 1) := by decide +kernel
theorem d_Mpg_checkSwitch_151 : decode b_Mpg_checkSwitch 151 = .ok (.if_icmp .ne 33, 3) := by decide +kernel
theorem d_Mpg_checkSwitch_154 : decode b_Mpg_checkSwitch 154 = .ok (.aload_n 0, 1) := by decide +kernel
theorem d_Mpg_checkSwitch_155 : decode b_Mpg_checkSwitch 155 = .ok (.getfield 219, 3) := by decide +kernel
theorem d_Mpg_checkSwitch_158 : decode b_Mpg_checkSwitch 158 = .ok (.iload 6, 2) := by decide +kernel
theorem d_Mpg_checkSwitch_160 : decode b_Mpg_checkSwitch 160 = .ok (.iaload, 1) := by decide +kernel
theorem d_Mpg_checkSwitch_161 : decode b_Mpg_checkSwitch 161 = .ok (.aload_n 0, 1) := by decide +kernel
theorem d_Mpg_checkSwitch_162 : decode b_Mpg_checkSwitch 162 = .ok (.getfield 219, 3) := by decide +kernel
theorem d_Mpg_checkSwitch_165 : decode b_Mpg_checkSwitch 165 = .ok (.iload 5, 2) := by decide +kernel
theorem d_Mpg_checkSwitch_167 : decode b_Mpg_checkSwitch 167 = .ok (.iaload, 1) := by decide +kernel
theorem d_Mpg_checkSwitch_168 : decode b_Mpg_checkSwitch 168 = .ok (.if_icmp .ne 16, 3) := by decide +kernel
theorem d_Mpg_checkSwitch_171 : decode b_Mpg_checkSwitch 171 = .ok (.aload_n 0, 1) := by decide +kernel
theorem d_Mpg_checkSwitch_172 : decode b_Mpg_checkSwitch 172 = .ok (.bipush 10, 2) := by decide +kernel
theorem d_Mpg_checkSwitch_174 : decode b_Mpg_checkSwitch 174 = .ok (.aload_n 0, 1) := by decide +kernel
theorem d_Mpg_checkSwitch_175 : decode b_Mpg_checkSwitch 175 = .ok (.getfield 210, 3) := by decide +kernel
theorem d_Mpg_checkSwitch_178 : decode b_Mpg_checkSwitch 178 = .ok (.iload 5, 2) := by decide +kernel
theorem d_Mpg_checkSwitch_180 : decode b_Mpg_checkSwitch 180 = .ok (.iaload, 1) := by decide +kernel
theorem d_Mpg_checkSwitch_181 : decode b_Mpg_checkSwitch 181 = .ok (.invokevirtual 565, 3) := by decide +kernel
theorem d_Mpg_checkSwitch_184 : decode b_Mpg_checkSwitch 184 = .ok (.aload_n 0, 1) := by decide +kernel
theorem d_Mpg_checkSwitch_185 : decode b_Mpg_checkSwitch 185 = .ok (.getfield 228, 3) := by decide +kernel
theorem d_Mpg_checkSwitch_188 : decode b_Mpg_checkSwitch 188 = .ok (.iload 6, 2) := by decide +kernel
theorem d_Mpg_checkSwitch_190 : decode b_Mpg_checkSwitch 190 = .ok (.iaload, 1) := by decide +kernel
theorem d_Mpg_checkSwitch_191 : decode b_Mpg_checkSwitch 191 = .ok (.istore 6, 2) := by decide +kernel
theorem d_Mpg_checkSwitch_193 : decode b_Mpg_checkSwitch 193 = .ok (.goto (-80), 3) := by decide +kernel
theorem d_Mpg_checkSwitch_196 : decode b_Mpg_checkSwitch 196 = .ok (.goto 45, 3) := by decide +kernel
theorem d_Mpg_checkSwitch_199 : decode b_Mpg_checkSwitch 199 = .ok (.aload_n 0, 1) := by decide +kernel
theorem d_Mpg_checkSwitch_200 : decode b_Mpg_checkSwitch 200 = .ok (.getfield 207, 3) := by decide +kernel
theorem d_Mpg_checkSwitch_203 : decode b_Mpg_checkSwitch 203 = .ok (.iload 5, 2) := by decide +kernel
theorem d_Mpg_checkSwitch_205 : decode b_Mpg_checkSwitch 205 = .ok (.baload, 1) := by decide +kernel
theorem d_Mpg_checkSwitch_206 : decode b_Mpg_checkSwitch 206 = .ok (.bipush 30, 2) := by decide +kernel
theorem d_Mpg_checkSwitch_208 : decode b_Mpg_checkSwitch 208 = .ok (.if_icmp .ne 27, 3) := by decide +kernel
theorem d_Mpg_checkSwitch_211 : decode b_Mpg_checkSwitch 211 = .ok (.iload 4, 2) := by decide +kernel
theorem d_Mpg_checkSwitch_213 : decode b_Mpg_checkSwitch 213 = .ok (.ifCond .eq 16, 3) := by decide +kernel
theorem d_Mpg_checkSwitch_216 : decode b_Mpg_checkSwitch 216 = .ok (.aload_n 0, 1) := by decide +kernel
theorem d_Mpg_checkSwitch_217 : decode b_Mpg_checkSwitch 217 = .ok (.bipush 10, 2) := by decide +kernel
theorem d_Mpg_checkSwitch_219 : decode b_Mpg_checkSwitch 219 = .ok (.aload_n 0, 1) := by decide +kernel
theorem d_Mpg_checkSwitch_220 : decode b_Mpg_checkSwitch 220 = .ok (.getfield 210, 3) := by decide +kernel
theorem d_Mpg_checkSwitch_223 : decode b_Mpg_checkSwitch 223 = .ok (.iload 5, 2) := by decide +kernel
theorem d_Mpg_checkSwitch_225 : decode b_Mpg_checkSwitch 225 = .ok (.iaload, 1) := by decide +kernel
theorem d_Mpg_checkSwitch_226 : decode b_Mpg_checkSwitch 226 = .ok (.invokevirtual 565, 3) := by decide +kernel
theorem d_Mpg_checkSwitch_229 : decode b_Mpg_checkSwitch 229 = .ok (.iconst 1, 1) := by decide +kernel
theorem d_Mpg_checkSwitch_230 : decode b_Mpg_checkSwitch 230 = .ok (.istore 4, 2) := by decide +kernel
theorem d_Mpg_checkSwitch_232 : decode b_Mpg_checkSwitch 232 = .ok (.goto 9, 3) := by decide +kernel
theorem d_Mpg_checkSwitch_235 : decode b_Mpg_checkSwitch 235 = .ok (.aload_n 0, 1) := by decide +kernel
theorem d_Mpg_checkSwitch_236 : decode b_Mpg_checkSwitch 236 = .ok (.iload 5, 2) := by decide +kernel
theorem d_Mpg_checkSwitch_238 : decode b_Mpg_checkSwitch 238 = .ok (.invokevirtual 636, 3) := by decide +kernel
theorem d_Mpg_checkSwitch_241 : decode b_Mpg_checkSwitch 241 = .ok (.aload_n 0, 1) := by decide +kernel
theorem d_Mpg_checkSwitch_242 : decode b_Mpg_checkSwitch 242 = .ok (.getfield 228, 3) := by decide +kernel
theorem d_Mpg_checkSwitch_245 : decode b_Mpg_checkSwitch 245 = .ok (.iload 5, 2) := by decide +kernel
theorem d_Mpg_checkSwitch_247 : decode b_Mpg_checkSwitch 247 = .ok (.iaload, 1) := by decide +kernel
theorem d_Mpg_checkSwitch_248 : decode b_Mpg_checkSwitch 248 = .ok (.istore 5, 2) := by decide +kernel
theorem d_Mpg_checkSwitch_250 : decode b_Mpg_checkSwitch 250 = .ok (.goto (-199), 3) := by decide +kernel
theorem d_Mpg_checkSwitch_253 : decode b_Mpg_checkSwitch 253 = .ok (.aload_n 0, 1) := by decide +kernel
theorem d_Mpg_checkSwitch_254 : decode b_Mpg_checkSwitch 254 = .ok (.dup, 1) := by decide +kernel
theorem d_Mpg_checkSwitch_255 : decode b_Mpg_checkSwitch 255 = .ok (.getfield 670, 3) := by decide +kernel
theorem d_Mpg_checkSwitch_258 : decode b_Mpg_checkSwitch 258 = .ok (.iconst 1, 1) := by decide +kernel
theorem d_Mpg_checkSwitch_259 : decode b_Mpg_checkSwitch 259 = .ok (.isub, 1) := by decide +kernel
theorem d_Mpg_checkSwitch_260 : decode b_Mpg_checkSwitch 260 = .ok (.putfield 670, 3) := by decide +kernel
theorem d_Mpg_checkSwitch_263 : decode b_Mpg_checkSwitch 263 = .ok (.aload_n 0, 1) := by decide +kernel
theorem d_Mpg_checkSwitch_264 : decode b_Mpg_checkSwitch 264 = .ok (.iload_n 2, 1) := by decide +kernel
theorem d_Mpg_checkSwitch_265 : decode b_Mpg_checkSwitch 265 = .ok (.iload_n 3, 1) := by decide +kernel
theorem d_Mpg_checkSwitch_266 : decode b_Mpg_checkSwitch 266 = .ok (.invokevirtual 642, 3) := by decide +kernel
theorem d_Mpg_checkSwitch_269 : decode b_Mpg_checkSwitch 269 = .ok (.return_, 1) := by decide +kernel
theorem q_Mpg_checkSwitch : px_y y_Mpg_checkSwitch 1 := by unfold px_y; decide +kernel
set_option maxHeartbeats 4000000 in
set_option maxRecDepth 100000 in
theorem c_mp_checkSwitch (l : Launch) (D : va_G) (cs : Nat → ClassId) (ma0 : Nat → Nat → Int32) (ys : Int) (nf : Int) (tx : Int) (d : Nat) (lo : Int) (hi : Int) (w : Int) (h : Nat) (r : Nat → Nat) (g : Nat → Nat → Option Nat) (tf : Nat → Int32) (ta : Nat → Nat → Int32) (pf : Nat → Int32) (na : Nat → Nat → Int32) (wa : Nat → Nat → Int32) (ef : Nat → Int32) (ea : Nat → Nat → Int32) (xf : Nat → Int32) (xa : Nat → Nat → Int32) (ma : Nat → Nat → Int32) (cf : Nat → Int32) (ca : Nat → Nat → Int32) (p0 : Int32)  (g0 : 0 ≤ lo) (g1 : hi ≤ (pf 13).toInt) (g2 : (pf 13).toInt ≤ 2100) (g3 : (tf 6).toInt ≤ 2049) (g4 : 0 ≤ (cf 33).toInt) (g5 : 0 ≤ w) (g6 : 6 * (cf 33).toInt + w ≤ 6540) (g7 : 0 ≤ (cf 48).toInt) (g8 : 6 * (cf 48).toInt + w ≤ 6540) (g9 : (cf 38).toInt = nf) (g10 : 0 ≤ nf) (g11 : 0 ≤ (cf 37).toInt) (g12 : 0 ≤ (cf 54).toInt) (g13 : (cf 54).toInt ≤ 4096 * (cf 48).toInt) (g14 : 0 ≤ (cf 42).toInt) (g15 : (cf 42).toInt ≤ 4 + 4096 * (cf 48).toInt) (g16 : 0 ≤ (cf 44).toInt) (g17 : 0 ≤ (cf 45).toInt) (g18 : ys ≤ (cf 48).toInt ∨ tx = 1) (g19 : 0 ≤ (cf 46).toInt) (g20 : (cf 46).toInt ≤ 1) (g21 : 0 ≤ (cf 47).toInt) (g22 : (cf 47).toInt ≤ 1) (g23 : (cf 44).toInt + (d : Int) ≤ 400) (g24 : (cf 45).toInt + (d : Int) ≤ 400) (g25 : 0 ≤ (cf 43).toInt) (g26 : (cf 43).toInt < 2100) (g27 : tx = 0) (g28 : (na 14 p0.toNatClampNeg).toInt = 28) (g29 : (cf 44).toInt + (d : Int) + 1 ≤ 400) (g30 : (cf 45).toInt + (d : Int) + 1 ≤ 400) (htk : TkI tf ta) (hfs : FsI (tf 6).toInt (pf 13).toInt na) (hwr : WrV cf (tf 6).toInt) (hkt : KnT (tf 6).toInt ca (cf 33).toInt) (hft : FnT (tf 6).toInt na ca (cf 38).toInt) (hks : KnS ca (cf 33).toInt (cf 48).toInt ys) (hfp : FnP na ca nf) (hsr : SyR ca ys (cf 48).toInt (cf 54).toInt tx) (han : Ann na ma0 ma) (htx : txo (cf 43).toInt = tx) (hsc : ScV ta (tf 6).toInt na ma0 (d + 1) lo hi w p0) (hLS : StC l D cs d) : MetV l y_Mpg_checkSwitch b_Mpg_checkSwitch 7 D cs (6 * d + 29) (260 * d + 1020) (0) (0) [.ref h, .int p0] [wdP cs h r g tf ta pf na ma wa cf ca ef ea xf xa] (oX (fun A U H => (oP A g U H)) [wdP cs h r g tf ta pf na ma wa cf ca ef ea xf xa]) (fun ps => ∃ (ma' : Nat → Nat → Int32) (cf' : Nat → Int32) (ca' : Nat → Nat → Int32), (ps = [wdP cs h r g tf ta pf na ma' wa cf' ca' ef ea xf xa]) ∧ ((cf' 30).toInt = 0 → (cf 30).toInt = 0) ∧ (WrV cf' (tf 6).toInt) ∧ ((cf' 37).toInt = (cf 37).toInt) ∧ ((cf' 38).toInt = (cf 38).toInt) ∧ ((cf' 43).toInt = (cf 43).toInt) ∧ ((cf' 44).toInt = (cf 44).toInt) ∧ ((cf' 45).toInt = (cf 45).toInt) ∧ ((cf' 46).toInt = (cf 46).toInt) ∧ ((cf' 47).toInt = (cf 47).toInt) ∧ ((cf' 41).toInt = (cf 41).toInt) ∧ ((cf' 55).toInt = (cf 55).toInt) ∧ ((cf' 59).toInt = (cf 59).toInt) ∧ ((cf' 33).toInt = (cf 33).toInt) ∧ ((cf 48).toInt ≤ (cf' 48).toInt) ∧ (6 * (cf' 48).toInt ≤ 6 * (cf 48).toInt + (w)) ∧ ((cf 54).toInt ≤ (cf' 54).toInt) ∧ ((cf 42).toInt ≤ (cf' 42).toInt) ∧ ((cf' 54).toInt - (cf 54).toInt ≤ 4 * ((cf' 42).toInt - (cf 42).toInt)) ∧ ((cf' 54).toInt - (cf 54).toInt ≤ 4096 * ((cf' 48).toInt - (cf 48).toInt)) ∧ ((cf' 42).toInt - (cf 42).toInt ≤ 4096 * ((cf' 48).toInt - (cf 48).toInt)) ∧ (KnT (tf 6).toInt ca' (cf' 33).toInt) ∧ (KnS ca' (cf' 33).toInt (cf' 48).toInt ys) ∧ (CaG ca ca' (cf 33).toInt (cf 48).toInt) ∧ (SyR ca' ys (cf' 48).toInt (cf' 54).toInt tx) ∧ (Ann na ma0 ma') ∧ (FrC lo hi ma ma') ∧ (ZTe cf' ta ca' na ma0 (cf' 48).toInt ys nf ma' lo hi p0 (tgv (cf 44).toInt (cf 45).toInt)) ∧ (R_mp_checkSwitch (RL_mp_checkStatement d) tf ta na p0 ma cf ca ma' cf' ca')) := by
  refine px_enter (by decide) (Nat.le_of_ble_eq_true rfl) ?_
  intro p e s m below meth c A ls hAe S hr hlk hnm hA hT hX hw hl
  have hl : lv_has ls 7 [(0, .ref h), (1, .int p0)] := hl
  have lp0 := Int32.le_toInt p0
  have up0 := Int32.toInt_lt p0
  have cst0 : (0 : Int32).toInt = 0 := rfl
  have cst1 : (1 : Int32).toInt = 1 := rfl
  have cst10 : (10 : Int32).toInt = 10 := rfl
  have cst29 : (29 : Int32).toInt = 29 := rfl
  have cst30 : (30 : Int32).toInt = 30 := rfl
  have hX : (fun A U H => (oP A g U H)) A s s.heap := by rw [hAe]; exact hX
  have hP := hX
  have hZ := hP.1
  have hF0 := hP.2.1
  have hfc : FrC lo hi ma ma := FrC.rf
  have hwr0 := hwr.1
  have hk11 := hkt.1
  have hf11 := hft.1
  have hcg : CaG ca ca (cf 33).toInt (cf 48).toInt := CaG.rf
  have hkt0 := hkt
  have hks0 := hks
  have hft0 := hft
  have hfp0 := hfp
  have hsr0 := ScV.rng hsc
  have hsc_p0 := hsc
  obtain ⟨m1, w1, w2, hm1, hm3, hea, hrsA, hws, hw1⟩ := ScV.s28 hsc (by omega) (z := na 17 p0.toNatClampNeg) (y := ma0 18 p0.toNatClampNeg) rfl rfl
  have hw2 := RvE.wp hrsA
  have J51 : ∀ (n_51 : Nat) (ma_51 : Nat → Nat → Int32) (cf_51 : Nat → Int32) (ca_51 : Nat → Nat → Int32) (mid_51 : Int) (wr_51 : Int) (cnt_51 : Int) (x51_2 x51_3 x51_4 x51_5 : Int32) (H : Heap) (locs : List Loc) (ls : Array Slot), ((cf_51 30).toInt = 0 → (cf 30).toInt = 0) → (WrV cf_51 (tf 6).toInt) → ((cf_51 38).toInt = (cf 38).toInt) → ((cf_51 43).toInt = (cf 43).toInt) → ((cf_51 44).toInt = (cf 44).toInt) → ((cf_51 46).toInt = (cf 46).toInt) → ((cf_51 47).toInt = (cf 47).toInt) → ((cf_51 41).toInt = (cf 41).toInt) → ((cf_51 55).toInt = (cf 55).toInt) → ((cf_51 59).toInt = (cf 59).toInt) → ((cf 33).toInt ≤ (cf_51 33).toInt) → (6 * (cf_51 33).toInt ≤ 6 * (cf 33).toInt + (w1 + (w2 - wr_51))) → ((cf 48).toInt ≤ (cf_51 48).toInt) → (6 * (cf_51 48).toInt ≤ 6 * (cf 48).toInt + (w1 + (w2 - wr_51))) → ((cf 54).toInt ≤ (cf_51 54).toInt) → ((cf 42).toInt ≤ (cf_51 42).toInt) → ((cf_51 54).toInt - (cf 54).toInt ≤ 4 * ((cf_51 42).toInt - (cf 42).toInt)) → ((cf_51 54).toInt - (cf 54).toInt ≤ 4096 * ((cf_51 48).toInt - (cf 48).toInt)) → ((cf_51 42).toInt - (cf 42).toInt ≤ 4096 * ((cf_51 48).toInt - (cf 48).toInt)) → (KnT (tf 6).toInt ca_51 (cf_51 33).toInt) → (KnS ca_51 (cf_51 33).toInt (cf_51 48).toInt ys) → (CaG ca ca_51 (cf 33).toInt (cf 48).toInt) → (SyR ca_51 ys (cf_51 48).toInt (cf_51 54).toInt tx) → (Ann na ma0 ma_51) → (FrC lo hi ma ma_51) → ((cf_51 37).toInt = (cf 33).toInt) → ((cf_51 45).toInt = (cf 45).toInt + 1) → (x51_2.toInt = (cf 33).toInt) → (x51_3.toInt = (cf 37).toInt) → (0 ≤ x51_4.toInt) → (x51_4.toInt ≤ 1) → (m1 ≤ mid_51) → (mid_51 ≤ hi) → (0 ≤ wr_51) → (wr_51 ≤ w2) → (0 ≤ cnt_51) → (ZTe cf_51 ta ca_51 na ma0 (cf_51 48).toInt ys nf ma_51 (p0.toInt + 1) m1 (na 17 p0.toNatClampNeg) 0) → (RvS ta (tf 6).toInt na ma0 d mid_51 hi wr_51 x51_5) → (RlD na (ma0 18 p0.toNatClampNeg) x51_5 cnt_51) → (ZTs cf_51 ta ca_51 na ma0 (cf_51 48).toInt ys nf ma_51 m1 mid_51 (ma0 18 p0.toNatClampNeg) x51_5 (if tgv (cf 44).toInt (cf 45).toInt = 4 then 4 else 3)) → (K_mp_checkSwitch_51 (RL_mp_checkStatement d) tf ta na p0 ma cf ca ma_51 cf_51 ca_51 x51_2 x51_3 x51_4 x51_5) → hi - mid_51 < (n_51 : Int) → pw D A s.heap H locs [wdP cs h r g tf ta pf na ma_51 wa cf_51 ca_51 ef ea xf xa] → lv_has ls 7 [(0, .ref h), (1, .int p0), (2, .int x51_2), (3, .int x51_3), (4, .int x51_4), (5, .int x51_5)] → W p l e { frames := (6 * d + 29), cells := 0, slots := 0, locals := (260 * d + 1020) } s m [.ref h, .int p0].toArray below meth c H locs 0 0 (MQ below (va_Qv (fun ps => ∃ (ma' : Nat → Nat → Int32) (cf' : Nat → Int32) (ca' : Nat → Nat → Int32), (ps = [wdP cs h r g tf ta pf na ma' wa cf' ca' ef ea xf xa]) ∧ ((cf' 30).toInt = 0 → (cf 30).toInt = 0) ∧ (WrV cf' (tf 6).toInt) ∧ ((cf' 37).toInt = (cf 37).toInt) ∧ ((cf' 38).toInt = (cf 38).toInt) ∧ ((cf' 43).toInt = (cf 43).toInt) ∧ ((cf' 44).toInt = (cf 44).toInt) ∧ ((cf' 45).toInt = (cf 45).toInt) ∧ ((cf' 46).toInt = (cf 46).toInt) ∧ ((cf' 47).toInt = (cf 47).toInt) ∧ ((cf' 41).toInt = (cf 41).toInt) ∧ ((cf' 55).toInt = (cf 55).toInt) ∧ ((cf' 59).toInt = (cf 59).toInt) ∧ ((cf' 33).toInt = (cf 33).toInt) ∧ ((cf 48).toInt ≤ (cf' 48).toInt) ∧ (6 * (cf' 48).toInt ≤ 6 * (cf 48).toInt + (w)) ∧ ((cf 54).toInt ≤ (cf' 54).toInt) ∧ ((cf 42).toInt ≤ (cf' 42).toInt) ∧ ((cf' 54).toInt - (cf 54).toInt ≤ 4 * ((cf' 42).toInt - (cf 42).toInt)) ∧ ((cf' 54).toInt - (cf 54).toInt ≤ 4096 * ((cf' 48).toInt - (cf 48).toInt)) ∧ ((cf' 42).toInt - (cf 42).toInt ≤ 4096 * ((cf' 48).toInt - (cf 48).toInt)) ∧ (KnT (tf 6).toInt ca' (cf' 33).toInt) ∧ (KnS ca' (cf' 33).toInt (cf' 48).toInt ys) ∧ (CaG ca ca' (cf 33).toInt (cf 48).toInt) ∧ (SyR ca' ys (cf' 48).toInt (cf' 54).toInt tx) ∧ (Ann na ma0 ma') ∧ (FrC lo hi ma ma') ∧ (ZTe cf' ta ca' na ma0 (cf' 48).toInt ys nf ma' lo hi p0 (tgv (cf 44).toInt (cf 45).toInt)) ∧ (R_mp_checkSwitch (RL_mp_checkStatement d) tf ta na p0 ma cf ca ma' cf' ca')) (pc_B D (va_A ([wdP cs h r g tf ta pf na ma wa cf ca ef ea xf xa] : List va_W).flatten s.heap.size)) (va_A ([wdP cs h r g tf ta pf na ma wa cf ca ef ea xf xa] : List va_W).flatten s.heap.size)) [.ref h, .int p0].toArray s 0 0 A) (F0 m 51 ls []) := by
    intro  n_51
    induction n_51 with
    | zero =>
      intro ma_51 cf_51 ca_51 mid_51 wr_51 cnt_51 x51_2 x51_3 x51_4 x51_5 H locs ls k51_0 k51_1 k51_2 k51_3 k51_4 k51_5 k51_6 k51_7 k51_8 k51_9 k51_10 k51_11 k51_12 k51_13 k51_14 k51_15 k51_16 k51_17 k51_18 k51_19 k51_20 k51_21 k51_22 k51_23 k51_24 k51_25 k51_26 k51_27 k51_28 k51_29 k51_30 k51_31 k51_32 k51_33 k51_34 k51_35 k51_36 k51_37 k51_38 k51_39 k51_40 hm hw hl
      have lx51_2 := Int32.le_toInt x51_2
      have ux51_2 := Int32.toInt_lt x51_2
      have lx51_3 := Int32.le_toInt x51_3
      have ux51_3 := Int32.toInt_lt x51_3
      have lx51_4 := Int32.le_toInt x51_4
      have ux51_4 := Int32.toInt_lt x51_4
      have lx51_5 := Int32.le_toInt x51_5
      have ux51_5 := Int32.toInt_lt x51_5
      have hwr := k51_1
      have hw0_k51_1 := hwr.1
      have hkt := k51_19
      have hk11_k51_19 := hkt.1
      have hks := k51_20
      have hcg := k51_21
      have hft := hft0.cg k51_21
      have hfp := hfp0.cg k51_21
      have hsr := k51_22
      have han := k51_23
      have hfc := k51_24
      have hka := k51_36
      have hrs := k51_37
      have hrd := k51_38
      have hzts := k51_39
      exact absurd hm (by omega)
    | succ n_51 ih51 =>
      intro ma_51 cf_51 ca_51 mid_51 wr_51 cnt_51 x51_2 x51_3 x51_4 x51_5 H locs ls k51_0 k51_1 k51_2 k51_3 k51_4 k51_5 k51_6 k51_7 k51_8 k51_9 k51_10 k51_11 k51_12 k51_13 k51_14 k51_15 k51_16 k51_17 k51_18 k51_19 k51_20 k51_21 k51_22 k51_23 k51_24 k51_25 k51_26 k51_27 k51_28 k51_29 k51_30 k51_31 k51_32 k51_33 k51_34 k51_35 k51_36 k51_37 k51_38 k51_39 k51_40 hm hw hl
      have lx51_2 := Int32.le_toInt x51_2
      have ux51_2 := Int32.toInt_lt x51_2
      have lx51_3 := Int32.le_toInt x51_3
      have ux51_3 := Int32.toInt_lt x51_3
      have lx51_4 := Int32.le_toInt x51_4
      have ux51_4 := Int32.toInt_lt x51_4
      have lx51_5 := Int32.le_toInt x51_5
      have ux51_5 := Int32.toInt_lt x51_5
      have hwr := k51_1
      have hw0_k51_1 := hwr.1
      have hkt := k51_19
      have hk11_k51_19 := hkt.1
      have hks := k51_20
      have hcg := k51_21
      have hft := hft0.cg k51_21
      have hfp := hfp0.cg k51_21
      have hsr := k51_22
      have han := k51_23
      have hfc := k51_24
      have hka := k51_36
      have hrs := k51_37
      have hrd := k51_38
      have hzts := k51_39
      have J113 : ∀ (n_113 : Nat) (ma_113 : Nat → Nat → Int32) (cf_113 : Nat → Int32) (ca_113 : Nat → Nat → Int32) (mid_113 : Int) (wr_113 : Int) (cnt_113 : Int) (mdi_113 : Int) (wvi_113 : Int) (mm_113 : Int) (x113_2 x113_3 x113_4 x113_5 x113_6 : Int32) (H : Heap) (locs : List Loc) (ls : Array Slot), ((cf_113 30).toInt = 0 → (cf 30).toInt = 0) → (WrV cf_113 (tf 6).toInt) → ((cf_113 38).toInt = (cf 38).toInt) → ((cf_113 43).toInt = (cf 43).toInt) → ((cf_113 44).toInt = (cf 44).toInt) → ((cf_113 46).toInt = (cf 46).toInt) → ((cf_113 47).toInt = (cf 47).toInt) → ((cf_113 41).toInt = (cf 41).toInt) → ((cf_113 55).toInt = (cf 55).toInt) → ((cf_113 59).toInt = (cf 59).toInt) → ((cf 33).toInt ≤ (cf_113 33).toInt) → (6 * (cf_113 33).toInt ≤ 6 * (cf 33).toInt + (w1 + (w2 - wr_113))) → ((cf 48).toInt ≤ (cf_113 48).toInt) → (6 * (cf_113 48).toInt ≤ 6 * (cf 48).toInt + (w1 + (w2 - wr_113))) → ((cf 54).toInt ≤ (cf_113 54).toInt) → ((cf 42).toInt ≤ (cf_113 42).toInt) → ((cf_113 54).toInt - (cf 54).toInt ≤ 4 * ((cf_113 42).toInt - (cf 42).toInt)) → ((cf_113 54).toInt - (cf 54).toInt ≤ 4096 * ((cf_113 48).toInt - (cf 48).toInt)) → ((cf_113 42).toInt - (cf 42).toInt ≤ 4096 * ((cf_113 48).toInt - (cf 48).toInt)) → (KnT (tf 6).toInt ca_113 (cf_113 33).toInt) → (KnS ca_113 (cf_113 33).toInt (cf_113 48).toInt ys) → (CaG ca ca_113 (cf 33).toInt (cf 48).toInt) → (SyR ca_113 ys (cf_113 48).toInt (cf_113 54).toInt tx) → (Ann na ma0 ma_113) → (FrC lo hi ma ma_113) → ((cf_113 37).toInt = (cf 33).toInt) → ((cf_113 45).toInt = (cf 45).toInt + 1) → (x113_2.toInt = (cf 33).toInt) → (x113_3.toInt = (cf 37).toInt) → (0 ≤ x113_4.toInt) → (x113_4.toInt ≤ 1) → (m1 ≤ mid_113) → (mid_113 ≤ hi) → (0 ≤ wr_113) → (wr_113 ≤ w2) → (0 ≤ cnt_113) → (ZTe cf_113 ta ca_113 na ma0 (cf_113 48).toInt ys nf ma_113 (p0.toInt + 1) m1 (na 17 p0.toNatClampNeg) 0) → (mid_51 ≤ mid_113) → (0 ≤ x113_5.toInt) → (x113_5.toInt < mdi_113) → (mid_113 ≤ x113_5.toInt) → (mdi_113 ≤ hi) → (0 ≤ wvi_113) → (wvi_113 ≤ wr_113) → (0 ≤ mm_113) → ((na 14 x113_5.toNatClampNeg).toInt = 29) → (0 ≤ (na 15 x113_5.toNatClampNeg).toInt) → ((na 15 x113_5.toNatClampNeg).toInt < (tf 6).toInt) → (RvS ta (tf 6).toInt na ma0 d mdi_113 hi (wr_113 - wvi_113) (na 21 x113_5.toNatClampNeg)) → (RlD na (ma0 18 p0.toNatClampNeg) x113_5 cnt_113) → (RlE na x113_6 x113_5 mm_113) → (ZTs cf_113 ta ca_113 na ma0 (cf_113 48).toInt ys nf ma_113 m1 mid_113 (ma0 18 p0.toNatClampNeg) x113_5 (if tgv (cf 44).toInt (cf 45).toInt = 4 then 4 else 3)) → (K_mp_checkSwitch_113 (RL_mp_checkStatement d) tf ta na p0 ma cf ca ma_113 cf_113 ca_113 x113_2 x113_3 x113_4 x113_5 x113_6) → mm_113 < (n_113 : Int) → pw D A s.heap H locs [wdP cs h r g tf ta pf na ma_113 wa cf_113 ca_113 ef ea xf xa] → lv_has ls 7 [(0, .ref h), (1, .int p0), (2, .int x113_2), (3, .int x113_3), (4, .int x113_4), (5, .int x113_5), (6, .int x113_6)] → W p l e { frames := (6 * d + 29), cells := 0, slots := 0, locals := (260 * d + 1020) } s m [.ref h, .int p0].toArray below meth c H locs 0 0 (MQ below (va_Qv (fun ps => ∃ (ma' : Nat → Nat → Int32) (cf' : Nat → Int32) (ca' : Nat → Nat → Int32), (ps = [wdP cs h r g tf ta pf na ma' wa cf' ca' ef ea xf xa]) ∧ ((cf' 30).toInt = 0 → (cf 30).toInt = 0) ∧ (WrV cf' (tf 6).toInt) ∧ ((cf' 37).toInt = (cf 37).toInt) ∧ ((cf' 38).toInt = (cf 38).toInt) ∧ ((cf' 43).toInt = (cf 43).toInt) ∧ ((cf' 44).toInt = (cf 44).toInt) ∧ ((cf' 45).toInt = (cf 45).toInt) ∧ ((cf' 46).toInt = (cf 46).toInt) ∧ ((cf' 47).toInt = (cf 47).toInt) ∧ ((cf' 41).toInt = (cf 41).toInt) ∧ ((cf' 55).toInt = (cf 55).toInt) ∧ ((cf' 59).toInt = (cf 59).toInt) ∧ ((cf' 33).toInt = (cf 33).toInt) ∧ ((cf 48).toInt ≤ (cf' 48).toInt) ∧ (6 * (cf' 48).toInt ≤ 6 * (cf 48).toInt + (w)) ∧ ((cf 54).toInt ≤ (cf' 54).toInt) ∧ ((cf 42).toInt ≤ (cf' 42).toInt) ∧ ((cf' 54).toInt - (cf 54).toInt ≤ 4 * ((cf' 42).toInt - (cf 42).toInt)) ∧ ((cf' 54).toInt - (cf 54).toInt ≤ 4096 * ((cf' 48).toInt - (cf 48).toInt)) ∧ ((cf' 42).toInt - (cf 42).toInt ≤ 4096 * ((cf' 48).toInt - (cf 48).toInt)) ∧ (KnT (tf 6).toInt ca' (cf' 33).toInt) ∧ (KnS ca' (cf' 33).toInt (cf' 48).toInt ys) ∧ (CaG ca ca' (cf 33).toInt (cf 48).toInt) ∧ (SyR ca' ys (cf' 48).toInt (cf' 54).toInt tx) ∧ (Ann na ma0 ma') ∧ (FrC lo hi ma ma') ∧ (ZTe cf' ta ca' na ma0 (cf' 48).toInt ys nf ma' lo hi p0 (tgv (cf 44).toInt (cf 45).toInt)) ∧ (R_mp_checkSwitch (RL_mp_checkStatement d) tf ta na p0 ma cf ca ma' cf' ca')) (pc_B D (va_A ([wdP cs h r g tf ta pf na ma wa cf ca ef ea xf xa] : List va_W).flatten s.heap.size)) (va_A ([wdP cs h r g tf ta pf na ma wa cf ca ef ea xf xa] : List va_W).flatten s.heap.size)) [.ref h, .int p0].toArray s 0 0 A) (F0 m 113 ls []) := by
        intro  n_113
        induction n_113 with
        | zero =>
          intro ma_113 cf_113 ca_113 mid_113 wr_113 cnt_113 mdi_113 wvi_113 mm_113 x113_2 x113_3 x113_4 x113_5 x113_6 H locs ls k113_0 k113_1 k113_2 k113_3 k113_4 k113_5 k113_6 k113_7 k113_8 k113_9 k113_10 k113_11 k113_12 k113_13 k113_14 k113_15 k113_16 k113_17 k113_18 k113_19 k113_20 k113_21 k113_22 k113_23 k113_24 k113_25 k113_26 k113_27 k113_28 k113_29 k113_30 k113_31 k113_32 k113_33 k113_34 k113_35 k113_36 k113_37 k113_38 k113_39 k113_40 k113_41 k113_42 k113_43 k113_44 k113_45 k113_46 k113_47 k113_48 k113_49 k113_50 k113_51 k113_52 hm hw hl
          have lx113_2 := Int32.le_toInt x113_2
          have ux113_2 := Int32.toInt_lt x113_2
          have lx113_3 := Int32.le_toInt x113_3
          have ux113_3 := Int32.toInt_lt x113_3
          have lx113_4 := Int32.le_toInt x113_4
          have ux113_4 := Int32.toInt_lt x113_4
          have lx113_5 := Int32.le_toInt x113_5
          have ux113_5 := Int32.toInt_lt x113_5
          have lx113_6 := Int32.le_toInt x113_6
          have ux113_6 := Int32.toInt_lt x113_6
          have hwr := k113_1
          have hw0_k113_1 := hwr.1
          have hkt := k113_19
          have hk11_k113_19 := hkt.1
          have hks := k113_20
          have hcg := k113_21
          have hft := hft0.cg k113_21
          have hfp := hfp0.cg k113_21
          have hsr := k113_22
          have han := k113_23
          have hfc := k113_24
          have hka := k113_36
          have hrs := k113_48
          have hrd := k113_49
          have hre := k113_50
          have hzts := k113_51
          exact absurd hm (by omega)
        | succ n_113 ih113 =>
          intro ma_113 cf_113 ca_113 mid_113 wr_113 cnt_113 mdi_113 wvi_113 mm_113 x113_2 x113_3 x113_4 x113_5 x113_6 H locs ls k113_0 k113_1 k113_2 k113_3 k113_4 k113_5 k113_6 k113_7 k113_8 k113_9 k113_10 k113_11 k113_12 k113_13 k113_14 k113_15 k113_16 k113_17 k113_18 k113_19 k113_20 k113_21 k113_22 k113_23 k113_24 k113_25 k113_26 k113_27 k113_28 k113_29 k113_30 k113_31 k113_32 k113_33 k113_34 k113_35 k113_36 k113_37 k113_38 k113_39 k113_40 k113_41 k113_42 k113_43 k113_44 k113_45 k113_46 k113_47 k113_48 k113_49 k113_50 k113_51 k113_52 hm hw hl
          have lx113_2 := Int32.le_toInt x113_2
          have ux113_2 := Int32.toInt_lt x113_2
          have lx113_3 := Int32.le_toInt x113_3
          have ux113_3 := Int32.toInt_lt x113_3
          have lx113_4 := Int32.le_toInt x113_4
          have ux113_4 := Int32.toInt_lt x113_4
          have lx113_5 := Int32.le_toInt x113_5
          have ux113_5 := Int32.toInt_lt x113_5
          have lx113_6 := Int32.le_toInt x113_6
          have ux113_6 := Int32.toInt_lt x113_6
          have hwr := k113_1
          have hw0_k113_1 := hwr.1
          have hkt := k113_19
          have hk11_k113_19 := hkt.1
          have hks := k113_20
          have hcg := k113_21
          have hft := hft0.cg k113_21
          have hfp := hfp0.cg k113_21
          have hsr := k113_22
          have han := k113_23
          have hfc := k113_24
          have hka := k113_36
          have hrs := k113_48
          have hrd := k113_49
          have hre := k113_50
          have hzts := k113_51
          refine lv_iload S.x S.b d_Mpg_checkSwitch_113 (lv_at hl 6 rfl) ?_
          refine lv_iload S.x S.b d_Mpg_checkSwitch_115 (lv_at hl 5 rfl) ?_
          refine lv_icmp_eq (tgt := 196) S.x S.b d_Mpg_checkSwitch_117 (by decide) (fun c1 => ?_) (fun c1 => ?_)
          · have nc1 : x113_6.toInt = x113_5.toInt := (i_eq (x := x113_6) (y := x113_5)).mp c1
            refine lv_goto (tgt := 241) S.x S.b d_Mpg_checkSwitch_196 (by decide) ?_
            refine lv_aload_n S.x S.b d_Mpg_checkSwitch_241 rfl (lv_at hl 0 rfl) ?_
            refine px_get S k_Mpg hT hw 0 0 21 (v := .ref (r 21)) rfl rfl rfl (by decide) m10_7 d_Mpg_checkSwitch_242 ?_
            refine lv_iload S.x S.b d_Mpg_checkSwitch_245 (lv_at hl 5 rfl) ?_
            refine px_iald S hT hw 0 17 (n := 2100) (f := (na 21)) rfl gp_21 (x := x113_5) (vp_in_iff.mpr (by first | exact oz_caf67f0162 k113_38 k113_39 k113_41 g1 g2 | (constructor <;> omega))) d_Mpg_checkSwitch_247 ?_
            refine lv_topi (fun z3 ez3 => ?_)
            have lz3 := Int32.le_toInt z3
            have uz3 := Int32.toInt_lt z3
            refine lv_istore (lv' := [(5, .int z3), (0, .ref h), (1, .int p0), (2, .int x113_2), (3, .int x113_3), (4, .int x113_4), (6, .int x113_6)]) S.x S.b d_Mpg_checkSwitch_248 hl (by decide) rfl (fun ls hl => ?_)
            refine lv_goto (tgt := 51) S.x S.b d_Mpg_checkSwitch_250 (by decide) ?_
            exact ih51 ma_113 cf_113 ca_113 mdi_113 (wr_113 - wvi_113) (cnt_113 + 1) x113_2 x113_3 x113_4 z3 _ _ ls (show (cf_113 30).toInt = 0 → (cf 30).toInt = 0 from by first | exact k113_0 | omega) (show WrV cf_113 (tf 6).toInt from hwr) (show (cf_113 38).toInt = (cf 38).toInt from by first | exact k113_2 | omega) (show (cf_113 43).toInt = (cf 43).toInt from by first | exact k113_3 | omega) (show (cf_113 44).toInt = (cf 44).toInt from by first | exact k113_4 | omega) (show (cf_113 46).toInt = (cf 46).toInt from by first | exact k113_5 | omega) (show (cf_113 47).toInt = (cf 47).toInt from by first | exact k113_6 | omega) (show (cf_113 41).toInt = (cf 41).toInt from by first | exact k113_7 | omega) (show (cf_113 55).toInt = (cf 55).toInt from by first | exact k113_8 | omega) (show (cf_113 59).toInt = (cf 59).toInt from by first | exact k113_9 | omega) (show (cf 33).toInt ≤ (cf_113 33).toInt from by first | exact k113_10 | omega) (show 6 * (cf_113 33).toInt ≤ 6 * (cf 33).toInt + (w1 + (w2 - (wr_113 - wvi_113))) from by first | exact oz_d6f7d432cd k113_11 k113_42 | omega) (show (cf 48).toInt ≤ (cf_113 48).toInt from by first | exact k113_12 | omega) (show 6 * (cf_113 48).toInt ≤ 6 * (cf 48).toInt + (w1 + (w2 - (wr_113 - wvi_113))) from by first | exact oz_d6f7d432cd k113_13 k113_42 | omega) (show (cf 54).toInt ≤ (cf_113 54).toInt from by first | exact k113_14 | omega) (show (cf 42).toInt ≤ (cf_113 42).toInt from by first | exact k113_15 | omega) (show (cf_113 54).toInt - (cf 54).toInt ≤ 4 * ((cf_113 42).toInt - (cf 42).toInt) from by first | exact k113_16 | omega) (show (cf_113 54).toInt - (cf 54).toInt ≤ 4096 * ((cf_113 48).toInt - (cf 48).toInt) from by first | exact k113_17 | omega) (show (cf_113 42).toInt - (cf 42).toInt ≤ 4096 * ((cf_113 48).toInt - (cf 48).toInt) from by first | exact k113_18 | omega) (show KnT (tf 6).toInt ca_113 (cf_113 33).toInt from (KnT.eq hkt (by omega))) (show KnS ca_113 (cf_113 33).toInt (cf_113 48).toInt ys from (KnS.eq hks (by omega) (by omega))) (show CaG ca ca_113 (cf 33).toInt (cf 48).toInt from (hcg.le (by omega) (by omega))) (show SyR ca_113 ys (cf_113 48).toInt (cf_113 54).toInt tx from (SyR.eq hsr (by omega) (by omega))) (show Ann na ma0 ma_113 from han) (show FrC lo hi ma ma_113 from hfc) (show (cf_113 37).toInt = (cf 33).toInt from by first | exact k113_25 | omega) (show (cf_113 45).toInt = (cf 45).toInt + 1 from by first | exact k113_26 | omega) (show x113_2.toInt = (cf 33).toInt from by first | exact k113_27 | omega) (show x113_3.toInt = (cf 37).toInt from by first | exact k113_28 | omega) (show 0 ≤ x113_4.toInt from by first | exact k113_29 | omega) (show x113_4.toInt ≤ 1 from by first | exact k113_30 | omega) (show m1 ≤ mdi_113 from by first | exact oz_8ecff1de6a k113_31 k113_39 k113_40 | omega) (show mdi_113 ≤ hi from by first | exact k113_41 | omega) (show 0 ≤ (wr_113 - wvi_113) from by first | exact oz_e1c59a9aac k113_43 | omega) (show (wr_113 - wvi_113) ≤ w2 from by first | exact oz_59ed07f53b k113_34 k113_42 | omega) (show 0 ≤ (cnt_113 + 1) from by first | exact oz_c12c169b81 k113_35 | omega) (show ZTe cf_113 ta ca_113 na ma0 (cf_113 48).toInt ys nf ma_113 (p0.toInt + 1) m1 (na 17 p0.toNatClampNeg) 0 from (ZTe.to hka (fun q => by omega) (by omega) (Int.le_refl _) (Int.le_refl _) rfl)) (show RvS ta (tf 6).toInt na ma0 d mdi_113 hi (wr_113 - wvi_113) z3 from (by rw [ez3]; exact hrs)) (show RlD na (ma0 18 p0.toNatClampNeg) z3 (cnt_113 + 1) from (RlD.nx hrd (by omega) (by omega) (by omega) ez3 (by omega))) (show ZTs cf_113 ta ca_113 na ma0 (cf_113 48).toInt ys nf ma_113 m1 mdi_113 (ma0 18 p0.toNatClampNeg) z3 (if tgv (cf 44).toInt (cf 45).toInt = 4 then 4 else 3) from (ZTs.nx (ZTs.to hzts (fun q => by omega) (by omega) (Int.le_refl _) (by omega) rfl) (show ZTe cf_113 ta ca_113 na ma0 (cf_113 48).toInt ys nf ma_113 m1 mdi_113 x113_5 (if tgv (cf 44).toInt (cf 45).toInt = 4 then 4 else 3) from fun zz => tys_0 ⟨by omega, by omega, by omega⟩ tsw_rng (by omega)) (by omega) ez3)) (show K_mp_checkSwitch_51 (RL_mp_checkStatement d) tf ta na p0 ma cf ca ma_113 cf_113 ca_113 x113_2 x113_3 x113_4 z3 from (fun y_f0 y_f1 y_f2 k hE => k113_52 y_f0 y_f1 y_f2 (k + 1) (Or.inr (Or.inr (Or.inl ⟨rfl, x113_2, x113_3, x113_4, x113_5, x113_6, rfl, rfl, rfl, rfl, rfl, Or.inl ⟨nc1, z3, ez3, hE⟩⟩))))) (show hi - mdi_113 < (n_51 : Int) from by omega) hw (lv_sub hl [1, 2, 3, 4, 5, 0] rfl)
          · have nc1 : ¬ x113_6.toInt = x113_5.toInt := mt (i_eq (x := x113_6) (y := x113_5)).mpr c1
            refine lv_aload_n S.x S.b d_Mpg_checkSwitch_120 rfl (lv_at hl 0 rfl) ?_
            obtain ⟨hg1, hg2, hg3, hg4⟩ := RlD.go hre (by omega) (by omega)
            refine px_get S k_Mpg hT hw 0 0 14 (v := .ref (r 14)) rfl rfl rfl (by decide) m9_238 d_Mpg_checkSwitch_121 ?_
            refine lv_iload S.x S.b d_Mpg_checkSwitch_124 (lv_at hl 6 rfl) ?_
            refine px_bald S hT hw 0 10 (n := 2100) (f := (na 14)) rfl gp_14 (x := x113_6) (vp_in_iff.mpr (by constructor <;> omega)) d_Mpg_checkSwitch_126 ?_
            refine lv_topi (fun z4 ez4 => ?_)
            have lz4 := Int32.le_toInt z4
            have uz4 := Int32.toInt_lt z4
            have rz4 : z4.toInt = (na 14 x113_6.toNatClampNeg).toInt := (by rw [ez4])
            refine lv_bipush (v := 29) S.x S.b d_Mpg_checkSwitch_127 (by decide) ?_
            refine lv_icmp_ne (tgt := 184) S.x S.b d_Mpg_checkSwitch_129 (by decide) (fun c5 => ?_) (fun c5 => ?_)
            · have nc5 : ¬ z4.toInt = (29 : Int) := mt (i_eq (x := z4) (y := 29)).mpr c5
              refine lv_aload_n S.x S.b d_Mpg_checkSwitch_184 rfl (lv_at hl 0 rfl) ?_
              refine px_get S k_Mpg hT hw 0 0 21 (v := .ref (r 21)) rfl rfl rfl (by decide) m10_7 d_Mpg_checkSwitch_185 ?_
              refine lv_iload S.x S.b d_Mpg_checkSwitch_188 (lv_at hl 6 rfl) ?_
              refine px_iald S hT hw 0 17 (n := 2100) (f := (na 21)) rfl gp_21 (x := x113_6) (vp_in_iff.mpr (by constructor <;> omega)) d_Mpg_checkSwitch_190 ?_
              refine lv_topi (fun z7 ez7 => ?_)
              have lz7 := Int32.le_toInt z7
              have uz7 := Int32.toInt_lt z7
              refine lv_istore (lv' := [(6, .int z7), (0, .ref h), (1, .int p0), (2, .int x113_2), (3, .int x113_3), (4, .int x113_4), (5, .int x113_5)]) S.x S.b d_Mpg_checkSwitch_191 hl (by decide) rfl (fun ls hl => ?_)
              refine lv_goto (tgt := 113) S.x S.b d_Mpg_checkSwitch_193 (by decide) ?_
              exact ih113 ma_113 cf_113 ca_113 mid_113 wr_113 cnt_113 mdi_113 wvi_113 (mm_113 - 1) x113_2 x113_3 x113_4 x113_5 z7 _ _ ls (show (cf_113 30).toInt = 0 → (cf 30).toInt = 0 from by first | exact k113_0 | omega) (show WrV cf_113 (tf 6).toInt from hwr) (show (cf_113 38).toInt = (cf 38).toInt from by first | exact k113_2 | omega) (show (cf_113 43).toInt = (cf 43).toInt from by first | exact k113_3 | omega) (show (cf_113 44).toInt = (cf 44).toInt from by first | exact k113_4 | omega) (show (cf_113 46).toInt = (cf 46).toInt from by first | exact k113_5 | omega) (show (cf_113 47).toInt = (cf 47).toInt from by first | exact k113_6 | omega) (show (cf_113 41).toInt = (cf 41).toInt from by first | exact k113_7 | omega) (show (cf_113 55).toInt = (cf 55).toInt from by first | exact k113_8 | omega) (show (cf_113 59).toInt = (cf 59).toInt from by first | exact k113_9 | omega) (show (cf 33).toInt ≤ (cf_113 33).toInt from by first | exact k113_10 | omega) (show 6 * (cf_113 33).toInt ≤ 6 * (cf 33).toInt + (w1 + (w2 - wr_113)) from by first | exact k113_11 | omega) (show (cf 48).toInt ≤ (cf_113 48).toInt from by first | exact k113_12 | omega) (show 6 * (cf_113 48).toInt ≤ 6 * (cf 48).toInt + (w1 + (w2 - wr_113)) from by first | exact k113_13 | omega) (show (cf 54).toInt ≤ (cf_113 54).toInt from by first | exact k113_14 | omega) (show (cf 42).toInt ≤ (cf_113 42).toInt from by first | exact k113_15 | omega) (show (cf_113 54).toInt - (cf 54).toInt ≤ 4 * ((cf_113 42).toInt - (cf 42).toInt) from by first | exact k113_16 | omega) (show (cf_113 54).toInt - (cf 54).toInt ≤ 4096 * ((cf_113 48).toInt - (cf 48).toInt) from by first | exact k113_17 | omega) (show (cf_113 42).toInt - (cf 42).toInt ≤ 4096 * ((cf_113 48).toInt - (cf 48).toInt) from by first | exact k113_18 | omega) (show KnT (tf 6).toInt ca_113 (cf_113 33).toInt from (KnT.eq hkt (by omega))) (show KnS ca_113 (cf_113 33).toInt (cf_113 48).toInt ys from (KnS.eq hks (by omega) (by omega))) (show CaG ca ca_113 (cf 33).toInt (cf 48).toInt from (hcg.le (by omega) (by omega))) (show SyR ca_113 ys (cf_113 48).toInt (cf_113 54).toInt tx from (SyR.eq hsr (by omega) (by omega))) (show Ann na ma0 ma_113 from han) (show FrC lo hi ma ma_113 from hfc) (show (cf_113 37).toInt = (cf 33).toInt from by first | exact k113_25 | omega) (show (cf_113 45).toInt = (cf 45).toInt + 1 from by first | exact k113_26 | omega) (show x113_2.toInt = (cf 33).toInt from by first | exact k113_27 | omega) (show x113_3.toInt = (cf 37).toInt from by first | exact k113_28 | omega) (show 0 ≤ x113_4.toInt from by first | exact k113_29 | omega) (show x113_4.toInt ≤ 1 from by first | exact k113_30 | omega) (show m1 ≤ mid_113 from by first | exact k113_31 | omega) (show mid_113 ≤ hi from by first | exact k113_32 | omega) (show 0 ≤ wr_113 from by first | exact k113_33 | omega) (show wr_113 ≤ w2 from by first | exact k113_34 | omega) (show 0 ≤ cnt_113 from by first | exact k113_35 | omega) (show ZTe cf_113 ta ca_113 na ma0 (cf_113 48).toInt ys nf ma_113 (p0.toInt + 1) m1 (na 17 p0.toNatClampNeg) 0 from (ZTe.to hka (fun q => by omega) (by omega) (Int.le_refl _) (Int.le_refl _) rfl)) (show mid_51 ≤ mid_113 from by first | exact k113_37 | omega) (show 0 ≤ x113_5.toInt from by first | exact k113_38 | omega) (show x113_5.toInt < mdi_113 from by first | exact k113_39 | omega) (show mid_113 ≤ x113_5.toInt from by first | exact k113_40 | omega) (show mdi_113 ≤ hi from by first | exact k113_41 | omega) (show 0 ≤ wvi_113 from by first | exact k113_42 | omega) (show wvi_113 ≤ wr_113 from by first | exact k113_43 | omega) (show 0 ≤ (mm_113 - 1) from by omega) (show (na 14 x113_5.toNatClampNeg).toInt = 29 from by first | exact k113_45 | omega) (show 0 ≤ (na 15 x113_5.toNatClampNeg).toInt from by first | exact k113_46 | omega) (show (na 15 x113_5.toNatClampNeg).toInt < (tf 6).toInt from by first | exact k113_47 | omega) (show RvS ta (tf 6).toInt na ma0 d mdi_113 hi (wr_113 - wvi_113) (na 21 x113_5.toNatClampNeg) from hrs) (show RlD na (ma0 18 p0.toNatClampNeg) x113_5 cnt_113 from hrd) (show RlE na z7 x113_5 (mm_113 - 1) from (by rw [ez7]; exact hg4)) (show ZTs cf_113 ta ca_113 na ma0 (cf_113 48).toInt ys nf ma_113 m1 mid_113 (ma0 18 p0.toNatClampNeg) x113_5 (if tgv (cf 44).toInt (cf 45).toInt = 4 then 4 else 3) from (ZTs.to hzts (fun q => by omega) (by omega) (Int.le_refl _) (Int.le_refl _) rfl)) (show K_mp_checkSwitch_113 (RL_mp_checkStatement d) tf ta na p0 ma cf ca ma_113 cf_113 ca_113 x113_2 x113_3 x113_4 x113_5 z7 from (fun y_f0 y_f1 y_f2 k hE => k113_52 y_f0 y_f1 y_f2 (k + 1) (Or.inr (Or.inr (Or.inl ⟨rfl, x113_2, x113_3, x113_4, x113_5, x113_6, rfl, rfl, rfl, rfl, rfl, Or.inr ⟨nc1, z4, ez4, Or.inl ⟨nc5, z7, ez7, hE⟩⟩⟩))))) (show (mm_113 - 1) < (n_113 : Int) from by first | exact oz_0c9cab56e9 hm | omega) hw (lv_sub hl [1, 2, 3, 4, 5, 6, 0] rfl)
            · have nc5 : z4.toInt = (29 : Int) := (i_eq (x := z4) (y := 29)).mp c5
              refine lv_aload_n S.x S.b d_Mpg_checkSwitch_132 rfl (lv_at hl 0 rfl) ?_
              refine px_get S k_Mpg hT hw 0 0 22 (v := .ref (r 22)) rfl rfl rfl (by decide) m10_9 d_Mpg_checkSwitch_133 ?_
              refine lv_iload S.x S.b d_Mpg_checkSwitch_136 (lv_at hl 6 rfl) ?_
              refine px_iald S hT hw 0 18 (n := 2100) (f := (ma_113 22)) rfl gp_22 (x := x113_6) (vp_in_iff.mpr (by constructor <;> omega)) d_Mpg_checkSwitch_138 ?_
              refine lv_topi (fun z8 ez8 => ?_)
              have lz8 := Int32.le_toInt z8
              have uz8 := Int32.toInt_lt z8
              refine lv_iconst (v := 1) S.x S.b d_Mpg_checkSwitch_139 (by decide) ?_
              refine lv_icmp_ne (tgt := 184) S.x S.b d_Mpg_checkSwitch_140 (by decide) (fun c9 => ?_) (fun c9 => ?_)
              · have nc9 : ¬ z8.toInt = (1 : Int) := mt (i_eq (x := z8) (y := 1)).mpr c9
                refine lv_aload_n S.x S.b d_Mpg_checkSwitch_184 rfl (lv_at hl 0 rfl) ?_
                refine px_get S k_Mpg hT hw 0 0 21 (v := .ref (r 21)) rfl rfl rfl (by decide) m10_7 d_Mpg_checkSwitch_185 ?_
                refine lv_iload S.x S.b d_Mpg_checkSwitch_188 (lv_at hl 6 rfl) ?_
                refine px_iald S hT hw 0 17 (n := 2100) (f := (na 21)) rfl gp_21 (x := x113_6) (vp_in_iff.mpr (by constructor <;> omega)) d_Mpg_checkSwitch_190 ?_
                refine lv_topi (fun z11 ez11 => ?_)
                have lz11 := Int32.le_toInt z11
                have uz11 := Int32.toInt_lt z11
                refine lv_istore (lv' := [(6, .int z11), (0, .ref h), (1, .int p0), (2, .int x113_2), (3, .int x113_3), (4, .int x113_4), (5, .int x113_5)]) S.x S.b d_Mpg_checkSwitch_191 hl (by decide) rfl (fun ls hl => ?_)
                refine lv_goto (tgt := 113) S.x S.b d_Mpg_checkSwitch_193 (by decide) ?_
                exact ih113 ma_113 cf_113 ca_113 mid_113 wr_113 cnt_113 mdi_113 wvi_113 (mm_113 - 1) x113_2 x113_3 x113_4 x113_5 z11 _ _ ls (show (cf_113 30).toInt = 0 → (cf 30).toInt = 0 from by first | exact k113_0 | omega) (show WrV cf_113 (tf 6).toInt from hwr) (show (cf_113 38).toInt = (cf 38).toInt from by first | exact k113_2 | omega) (show (cf_113 43).toInt = (cf 43).toInt from by first | exact k113_3 | omega) (show (cf_113 44).toInt = (cf 44).toInt from by first | exact k113_4 | omega) (show (cf_113 46).toInt = (cf 46).toInt from by first | exact k113_5 | omega) (show (cf_113 47).toInt = (cf 47).toInt from by first | exact k113_6 | omega) (show (cf_113 41).toInt = (cf 41).toInt from by first | exact k113_7 | omega) (show (cf_113 55).toInt = (cf 55).toInt from by first | exact k113_8 | omega) (show (cf_113 59).toInt = (cf 59).toInt from by first | exact k113_9 | omega) (show (cf 33).toInt ≤ (cf_113 33).toInt from by first | exact k113_10 | omega) (show 6 * (cf_113 33).toInt ≤ 6 * (cf 33).toInt + (w1 + (w2 - wr_113)) from by first | exact k113_11 | omega) (show (cf 48).toInt ≤ (cf_113 48).toInt from by first | exact k113_12 | omega) (show 6 * (cf_113 48).toInt ≤ 6 * (cf 48).toInt + (w1 + (w2 - wr_113)) from by first | exact k113_13 | omega) (show (cf 54).toInt ≤ (cf_113 54).toInt from by first | exact k113_14 | omega) (show (cf 42).toInt ≤ (cf_113 42).toInt from by first | exact k113_15 | omega) (show (cf_113 54).toInt - (cf 54).toInt ≤ 4 * ((cf_113 42).toInt - (cf 42).toInt) from by first | exact k113_16 | omega) (show (cf_113 54).toInt - (cf 54).toInt ≤ 4096 * ((cf_113 48).toInt - (cf 48).toInt) from by first | exact k113_17 | omega) (show (cf_113 42).toInt - (cf 42).toInt ≤ 4096 * ((cf_113 48).toInt - (cf 48).toInt) from by first | exact k113_18 | omega) (show KnT (tf 6).toInt ca_113 (cf_113 33).toInt from (KnT.eq hkt (by omega))) (show KnS ca_113 (cf_113 33).toInt (cf_113 48).toInt ys from (KnS.eq hks (by omega) (by omega))) (show CaG ca ca_113 (cf 33).toInt (cf 48).toInt from (hcg.le (by omega) (by omega))) (show SyR ca_113 ys (cf_113 48).toInt (cf_113 54).toInt tx from (SyR.eq hsr (by omega) (by omega))) (show Ann na ma0 ma_113 from han) (show FrC lo hi ma ma_113 from hfc) (show (cf_113 37).toInt = (cf 33).toInt from by first | exact k113_25 | omega) (show (cf_113 45).toInt = (cf 45).toInt + 1 from by first | exact k113_26 | omega) (show x113_2.toInt = (cf 33).toInt from by first | exact k113_27 | omega) (show x113_3.toInt = (cf 37).toInt from by first | exact k113_28 | omega) (show 0 ≤ x113_4.toInt from by first | exact k113_29 | omega) (show x113_4.toInt ≤ 1 from by first | exact k113_30 | omega) (show m1 ≤ mid_113 from by first | exact k113_31 | omega) (show mid_113 ≤ hi from by first | exact k113_32 | omega) (show 0 ≤ wr_113 from by first | exact k113_33 | omega) (show wr_113 ≤ w2 from by first | exact k113_34 | omega) (show 0 ≤ cnt_113 from by first | exact k113_35 | omega) (show ZTe cf_113 ta ca_113 na ma0 (cf_113 48).toInt ys nf ma_113 (p0.toInt + 1) m1 (na 17 p0.toNatClampNeg) 0 from (ZTe.to hka (fun q => by omega) (by omega) (Int.le_refl _) (Int.le_refl _) rfl)) (show mid_51 ≤ mid_113 from by first | exact k113_37 | omega) (show 0 ≤ x113_5.toInt from by first | exact k113_38 | omega) (show x113_5.toInt < mdi_113 from by first | exact k113_39 | omega) (show mid_113 ≤ x113_5.toInt from by first | exact k113_40 | omega) (show mdi_113 ≤ hi from by first | exact k113_41 | omega) (show 0 ≤ wvi_113 from by first | exact k113_42 | omega) (show wvi_113 ≤ wr_113 from by first | exact k113_43 | omega) (show 0 ≤ (mm_113 - 1) from by omega) (show (na 14 x113_5.toNatClampNeg).toInt = 29 from by first | exact k113_45 | omega) (show 0 ≤ (na 15 x113_5.toNatClampNeg).toInt from by first | exact k113_46 | omega) (show (na 15 x113_5.toNatClampNeg).toInt < (tf 6).toInt from by first | exact k113_47 | omega) (show RvS ta (tf 6).toInt na ma0 d mdi_113 hi (wr_113 - wvi_113) (na 21 x113_5.toNatClampNeg) from hrs) (show RlD na (ma0 18 p0.toNatClampNeg) x113_5 cnt_113 from hrd) (show RlE na z11 x113_5 (mm_113 - 1) from (by rw [ez11]; exact hg4)) (show ZTs cf_113 ta ca_113 na ma0 (cf_113 48).toInt ys nf ma_113 m1 mid_113 (ma0 18 p0.toNatClampNeg) x113_5 (if tgv (cf 44).toInt (cf 45).toInt = 4 then 4 else 3) from (ZTs.to hzts (fun q => by omega) (by omega) (Int.le_refl _) (Int.le_refl _) rfl)) (show K_mp_checkSwitch_113 (RL_mp_checkStatement d) tf ta na p0 ma cf ca ma_113 cf_113 ca_113 x113_2 x113_3 x113_4 x113_5 z11 from (fun y_f0 y_f1 y_f2 k hE => k113_52 y_f0 y_f1 y_f2 (k + 1) (Or.inr (Or.inr (Or.inl ⟨rfl, x113_2, x113_3, x113_4, x113_5, x113_6, rfl, rfl, rfl, rfl, rfl, Or.inr ⟨nc1, z4, ez4, Or.inr ⟨nc5, z8, ez8, Or.inl ⟨nc9, z11, ez11, hE⟩⟩⟩⟩))))) (show (mm_113 - 1) < (n_113 : Int) from by first | exact oz_0c9cab56e9 hm | omega) hw (lv_sub hl [1, 2, 3, 4, 5, 6, 0] rfl)
              · have nc9 : z8.toInt = (1 : Int) := (i_eq (x := z8) (y := 1)).mp c9
                refine lv_aload_n S.x S.b d_Mpg_checkSwitch_143 rfl (lv_at hl 0 rfl) ?_
                refine px_get S k_Mpg hT hw 0 0 22 (v := .ref (r 22)) rfl rfl rfl (by decide) m10_9 d_Mpg_checkSwitch_144 ?_
                refine lv_iload S.x S.b d_Mpg_checkSwitch_147 (lv_at hl 5 rfl) ?_
                refine px_iald S hT hw 0 18 (n := 2100) (f := (ma_113 22)) rfl gp_22 (x := x113_5) (vp_in_iff.mpr (by first | exact oz_caf67f0162 k113_38 k113_39 k113_41 g1 g2 | (constructor <;> omega))) d_Mpg_checkSwitch_149 ?_
                refine lv_topi (fun z12 ez12 => ?_)
                have lz12 := Int32.le_toInt z12
                have uz12 := Int32.toInt_lt z12
                refine lv_iconst (v := 1) S.x S.b d_Mpg_checkSwitch_150 (by decide) ?_
                refine lv_icmp_ne (tgt := 184) S.x S.b d_Mpg_checkSwitch_151 (by decide) (fun c13 => ?_) (fun c13 => ?_)
                · have nc13 : ¬ z12.toInt = (1 : Int) := mt (i_eq (x := z12) (y := 1)).mpr c13
                  refine lv_aload_n S.x S.b d_Mpg_checkSwitch_184 rfl (lv_at hl 0 rfl) ?_
                  refine px_get S k_Mpg hT hw 0 0 21 (v := .ref (r 21)) rfl rfl rfl (by decide) m10_7 d_Mpg_checkSwitch_185 ?_
                  refine lv_iload S.x S.b d_Mpg_checkSwitch_188 (lv_at hl 6 rfl) ?_
                  refine px_iald S hT hw 0 17 (n := 2100) (f := (na 21)) rfl gp_21 (x := x113_6) (vp_in_iff.mpr (by constructor <;> omega)) d_Mpg_checkSwitch_190 ?_
                  refine lv_topi (fun z15 ez15 => ?_)
                  have lz15 := Int32.le_toInt z15
                  have uz15 := Int32.toInt_lt z15
                  refine lv_istore (lv' := [(6, .int z15), (0, .ref h), (1, .int p0), (2, .int x113_2), (3, .int x113_3), (4, .int x113_4), (5, .int x113_5)]) S.x S.b d_Mpg_checkSwitch_191 hl (by decide) rfl (fun ls hl => ?_)
                  refine lv_goto (tgt := 113) S.x S.b d_Mpg_checkSwitch_193 (by decide) ?_
                  exact ih113 ma_113 cf_113 ca_113 mid_113 wr_113 cnt_113 mdi_113 wvi_113 (mm_113 - 1) x113_2 x113_3 x113_4 x113_5 z15 _ _ ls (show (cf_113 30).toInt = 0 → (cf 30).toInt = 0 from by first | exact k113_0 | omega) (show WrV cf_113 (tf 6).toInt from hwr) (show (cf_113 38).toInt = (cf 38).toInt from by first | exact k113_2 | omega) (show (cf_113 43).toInt = (cf 43).toInt from by first | exact k113_3 | omega) (show (cf_113 44).toInt = (cf 44).toInt from by first | exact k113_4 | omega) (show (cf_113 46).toInt = (cf 46).toInt from by first | exact k113_5 | omega) (show (cf_113 47).toInt = (cf 47).toInt from by first | exact k113_6 | omega) (show (cf_113 41).toInt = (cf 41).toInt from by first | exact k113_7 | omega) (show (cf_113 55).toInt = (cf 55).toInt from by first | exact k113_8 | omega) (show (cf_113 59).toInt = (cf 59).toInt from by first | exact k113_9 | omega) (show (cf 33).toInt ≤ (cf_113 33).toInt from by first | exact k113_10 | omega) (show 6 * (cf_113 33).toInt ≤ 6 * (cf 33).toInt + (w1 + (w2 - wr_113)) from by first | exact k113_11 | omega) (show (cf 48).toInt ≤ (cf_113 48).toInt from by first | exact k113_12 | omega) (show 6 * (cf_113 48).toInt ≤ 6 * (cf 48).toInt + (w1 + (w2 - wr_113)) from by first | exact k113_13 | omega) (show (cf 54).toInt ≤ (cf_113 54).toInt from by first | exact k113_14 | omega) (show (cf 42).toInt ≤ (cf_113 42).toInt from by first | exact k113_15 | omega) (show (cf_113 54).toInt - (cf 54).toInt ≤ 4 * ((cf_113 42).toInt - (cf 42).toInt) from by first | exact k113_16 | omega) (show (cf_113 54).toInt - (cf 54).toInt ≤ 4096 * ((cf_113 48).toInt - (cf 48).toInt) from by first | exact k113_17 | omega) (show (cf_113 42).toInt - (cf 42).toInt ≤ 4096 * ((cf_113 48).toInt - (cf 48).toInt) from by first | exact k113_18 | omega) (show KnT (tf 6).toInt ca_113 (cf_113 33).toInt from (KnT.eq hkt (by omega))) (show KnS ca_113 (cf_113 33).toInt (cf_113 48).toInt ys from (KnS.eq hks (by omega) (by omega))) (show CaG ca ca_113 (cf 33).toInt (cf 48).toInt from (hcg.le (by omega) (by omega))) (show SyR ca_113 ys (cf_113 48).toInt (cf_113 54).toInt tx from (SyR.eq hsr (by omega) (by omega))) (show Ann na ma0 ma_113 from han) (show FrC lo hi ma ma_113 from hfc) (show (cf_113 37).toInt = (cf 33).toInt from by first | exact k113_25 | omega) (show (cf_113 45).toInt = (cf 45).toInt + 1 from by first | exact k113_26 | omega) (show x113_2.toInt = (cf 33).toInt from by first | exact k113_27 | omega) (show x113_3.toInt = (cf 37).toInt from by first | exact k113_28 | omega) (show 0 ≤ x113_4.toInt from by first | exact k113_29 | omega) (show x113_4.toInt ≤ 1 from by first | exact k113_30 | omega) (show m1 ≤ mid_113 from by first | exact k113_31 | omega) (show mid_113 ≤ hi from by first | exact k113_32 | omega) (show 0 ≤ wr_113 from by first | exact k113_33 | omega) (show wr_113 ≤ w2 from by first | exact k113_34 | omega) (show 0 ≤ cnt_113 from by first | exact k113_35 | omega) (show ZTe cf_113 ta ca_113 na ma0 (cf_113 48).toInt ys nf ma_113 (p0.toInt + 1) m1 (na 17 p0.toNatClampNeg) 0 from (ZTe.to hka (fun q => by omega) (by omega) (Int.le_refl _) (Int.le_refl _) rfl)) (show mid_51 ≤ mid_113 from by first | exact k113_37 | omega) (show 0 ≤ x113_5.toInt from by first | exact k113_38 | omega) (show x113_5.toInt < mdi_113 from by first | exact k113_39 | omega) (show mid_113 ≤ x113_5.toInt from by first | exact k113_40 | omega) (show mdi_113 ≤ hi from by first | exact k113_41 | omega) (show 0 ≤ wvi_113 from by first | exact k113_42 | omega) (show wvi_113 ≤ wr_113 from by first | exact k113_43 | omega) (show 0 ≤ (mm_113 - 1) from by omega) (show (na 14 x113_5.toNatClampNeg).toInt = 29 from by first | exact k113_45 | omega) (show 0 ≤ (na 15 x113_5.toNatClampNeg).toInt from by first | exact k113_46 | omega) (show (na 15 x113_5.toNatClampNeg).toInt < (tf 6).toInt from by first | exact k113_47 | omega) (show RvS ta (tf 6).toInt na ma0 d mdi_113 hi (wr_113 - wvi_113) (na 21 x113_5.toNatClampNeg) from hrs) (show RlD na (ma0 18 p0.toNatClampNeg) x113_5 cnt_113 from hrd) (show RlE na z15 x113_5 (mm_113 - 1) from (by rw [ez15]; exact hg4)) (show ZTs cf_113 ta ca_113 na ma0 (cf_113 48).toInt ys nf ma_113 m1 mid_113 (ma0 18 p0.toNatClampNeg) x113_5 (if tgv (cf 44).toInt (cf 45).toInt = 4 then 4 else 3) from (ZTs.to hzts (fun q => by omega) (by omega) (Int.le_refl _) (Int.le_refl _) rfl)) (show K_mp_checkSwitch_113 (RL_mp_checkStatement d) tf ta na p0 ma cf ca ma_113 cf_113 ca_113 x113_2 x113_3 x113_4 x113_5 z15 from (fun y_f0 y_f1 y_f2 k hE => k113_52 y_f0 y_f1 y_f2 (k + 1) (Or.inr (Or.inr (Or.inl ⟨rfl, x113_2, x113_3, x113_4, x113_5, x113_6, rfl, rfl, rfl, rfl, rfl, Or.inr ⟨nc1, z4, ez4, Or.inr ⟨nc5, z8, ez8, Or.inr ⟨nc9, z12, ez12, Or.inl ⟨nc13, z15, ez15, hE⟩⟩⟩⟩⟩))))) (show (mm_113 - 1) < (n_113 : Int) from by first | exact oz_0c9cab56e9 hm | omega) hw (lv_sub hl [1, 2, 3, 4, 5, 6, 0] rfl)
                · have nc13 : z12.toInt = (1 : Int) := (i_eq (x := z12) (y := 1)).mp c13
                  refine lv_aload_n S.x S.b d_Mpg_checkSwitch_154 rfl (lv_at hl 0 rfl) ?_
                  refine px_get S k_Mpg hT hw 0 0 18 (v := .ref (r 18)) rfl rfl rfl (by decide) m10_3 d_Mpg_checkSwitch_155 ?_
                  refine lv_iload S.x S.b d_Mpg_checkSwitch_158 (lv_at hl 6 rfl) ?_
                  refine px_iald S hT hw 0 14 (n := 2100) (f := (ma_113 18)) rfl gp_18 (x := x113_6) (vp_in_iff.mpr (by constructor <;> omega)) d_Mpg_checkSwitch_160 ?_
                  refine lv_topi (fun z16 ez16 => ?_)
                  have lz16 := Int32.le_toInt z16
                  have uz16 := Int32.toInt_lt z16
                  refine lv_aload_n S.x S.b d_Mpg_checkSwitch_161 rfl (lv_at hl 0 rfl) ?_
                  refine px_get S k_Mpg hT hw 0 0 18 (v := .ref (r 18)) rfl rfl rfl (by decide) m10_3 d_Mpg_checkSwitch_162 ?_
                  refine lv_iload S.x S.b d_Mpg_checkSwitch_165 (lv_at hl 5 rfl) ?_
                  refine px_iald S hT hw 0 14 (n := 2100) (f := (ma_113 18)) rfl gp_18 (x := x113_5) (vp_in_iff.mpr (by first | exact oz_caf67f0162 k113_38 k113_39 k113_41 g1 g2 | (constructor <;> omega))) d_Mpg_checkSwitch_167 ?_
                  refine lv_topi (fun z17 ez17 => ?_)
                  have lz17 := Int32.le_toInt z17
                  have uz17 := Int32.toInt_lt z17
                  refine lv_icmp_ne (tgt := 184) S.x S.b d_Mpg_checkSwitch_168 (by decide) (fun c18 => ?_) (fun c18 => ?_)
                  · have nc18 : ¬ z16.toInt = z17.toInt := mt (i_eq (x := z16) (y := z17)).mpr c18
                    refine lv_aload_n S.x S.b d_Mpg_checkSwitch_184 rfl (lv_at hl 0 rfl) ?_
                    refine px_get S k_Mpg hT hw 0 0 21 (v := .ref (r 21)) rfl rfl rfl (by decide) m10_7 d_Mpg_checkSwitch_185 ?_
                    refine lv_iload S.x S.b d_Mpg_checkSwitch_188 (lv_at hl 6 rfl) ?_
                    refine px_iald S hT hw 0 17 (n := 2100) (f := (na 21)) rfl gp_21 (x := x113_6) (vp_in_iff.mpr (by constructor <;> omega)) d_Mpg_checkSwitch_190 ?_
                    refine lv_topi (fun z20 ez20 => ?_)
                    have lz20 := Int32.le_toInt z20
                    have uz20 := Int32.toInt_lt z20
                    refine lv_istore (lv' := [(6, .int z20), (0, .ref h), (1, .int p0), (2, .int x113_2), (3, .int x113_3), (4, .int x113_4), (5, .int x113_5)]) S.x S.b d_Mpg_checkSwitch_191 hl (by decide) rfl (fun ls hl => ?_)
                    refine lv_goto (tgt := 113) S.x S.b d_Mpg_checkSwitch_193 (by decide) ?_
                    exact ih113 ma_113 cf_113 ca_113 mid_113 wr_113 cnt_113 mdi_113 wvi_113 (mm_113 - 1) x113_2 x113_3 x113_4 x113_5 z20 _ _ ls (show (cf_113 30).toInt = 0 → (cf 30).toInt = 0 from by first | exact k113_0 | omega) (show WrV cf_113 (tf 6).toInt from hwr) (show (cf_113 38).toInt = (cf 38).toInt from by first | exact k113_2 | omega) (show (cf_113 43).toInt = (cf 43).toInt from by first | exact k113_3 | omega) (show (cf_113 44).toInt = (cf 44).toInt from by first | exact k113_4 | omega) (show (cf_113 46).toInt = (cf 46).toInt from by first | exact k113_5 | omega) (show (cf_113 47).toInt = (cf 47).toInt from by first | exact k113_6 | omega) (show (cf_113 41).toInt = (cf 41).toInt from by first | exact k113_7 | omega) (show (cf_113 55).toInt = (cf 55).toInt from by first | exact k113_8 | omega) (show (cf_113 59).toInt = (cf 59).toInt from by first | exact k113_9 | omega) (show (cf 33).toInt ≤ (cf_113 33).toInt from by first | exact k113_10 | omega) (show 6 * (cf_113 33).toInt ≤ 6 * (cf 33).toInt + (w1 + (w2 - wr_113)) from by first | exact k113_11 | omega) (show (cf 48).toInt ≤ (cf_113 48).toInt from by first | exact k113_12 | omega) (show 6 * (cf_113 48).toInt ≤ 6 * (cf 48).toInt + (w1 + (w2 - wr_113)) from by first | exact k113_13 | omega) (show (cf 54).toInt ≤ (cf_113 54).toInt from by first | exact k113_14 | omega) (show (cf 42).toInt ≤ (cf_113 42).toInt from by first | exact k113_15 | omega) (show (cf_113 54).toInt - (cf 54).toInt ≤ 4 * ((cf_113 42).toInt - (cf 42).toInt) from by first | exact k113_16 | omega) (show (cf_113 54).toInt - (cf 54).toInt ≤ 4096 * ((cf_113 48).toInt - (cf 48).toInt) from by first | exact k113_17 | omega) (show (cf_113 42).toInt - (cf 42).toInt ≤ 4096 * ((cf_113 48).toInt - (cf 48).toInt) from by first | exact k113_18 | omega) (show KnT (tf 6).toInt ca_113 (cf_113 33).toInt from (KnT.eq hkt (by omega))) (show KnS ca_113 (cf_113 33).toInt (cf_113 48).toInt ys from (KnS.eq hks (by omega) (by omega))) (show CaG ca ca_113 (cf 33).toInt (cf 48).toInt from (hcg.le (by omega) (by omega))) (show SyR ca_113 ys (cf_113 48).toInt (cf_113 54).toInt tx from (SyR.eq hsr (by omega) (by omega))) (show Ann na ma0 ma_113 from han) (show FrC lo hi ma ma_113 from hfc) (show (cf_113 37).toInt = (cf 33).toInt from by first | exact k113_25 | omega) (show (cf_113 45).toInt = (cf 45).toInt + 1 from by first | exact k113_26 | omega) (show x113_2.toInt = (cf 33).toInt from by first | exact k113_27 | omega) (show x113_3.toInt = (cf 37).toInt from by first | exact k113_28 | omega) (show 0 ≤ x113_4.toInt from by first | exact k113_29 | omega) (show x113_4.toInt ≤ 1 from by first | exact k113_30 | omega) (show m1 ≤ mid_113 from by first | exact k113_31 | omega) (show mid_113 ≤ hi from by first | exact k113_32 | omega) (show 0 ≤ wr_113 from by first | exact k113_33 | omega) (show wr_113 ≤ w2 from by first | exact k113_34 | omega) (show 0 ≤ cnt_113 from by first | exact k113_35 | omega) (show ZTe cf_113 ta ca_113 na ma0 (cf_113 48).toInt ys nf ma_113 (p0.toInt + 1) m1 (na 17 p0.toNatClampNeg) 0 from (ZTe.to hka (fun q => by omega) (by omega) (Int.le_refl _) (Int.le_refl _) rfl)) (show mid_51 ≤ mid_113 from by first | exact k113_37 | omega) (show 0 ≤ x113_5.toInt from by first | exact k113_38 | omega) (show x113_5.toInt < mdi_113 from by first | exact k113_39 | omega) (show mid_113 ≤ x113_5.toInt from by first | exact k113_40 | omega) (show mdi_113 ≤ hi from by first | exact k113_41 | omega) (show 0 ≤ wvi_113 from by first | exact k113_42 | omega) (show wvi_113 ≤ wr_113 from by first | exact k113_43 | omega) (show 0 ≤ (mm_113 - 1) from by omega) (show (na 14 x113_5.toNatClampNeg).toInt = 29 from by first | exact k113_45 | omega) (show 0 ≤ (na 15 x113_5.toNatClampNeg).toInt from by first | exact k113_46 | omega) (show (na 15 x113_5.toNatClampNeg).toInt < (tf 6).toInt from by first | exact k113_47 | omega) (show RvS ta (tf 6).toInt na ma0 d mdi_113 hi (wr_113 - wvi_113) (na 21 x113_5.toNatClampNeg) from hrs) (show RlD na (ma0 18 p0.toNatClampNeg) x113_5 cnt_113 from hrd) (show RlE na z20 x113_5 (mm_113 - 1) from (by rw [ez20]; exact hg4)) (show ZTs cf_113 ta ca_113 na ma0 (cf_113 48).toInt ys nf ma_113 m1 mid_113 (ma0 18 p0.toNatClampNeg) x113_5 (if tgv (cf 44).toInt (cf 45).toInt = 4 then 4 else 3) from (ZTs.to hzts (fun q => by omega) (by omega) (Int.le_refl _) (Int.le_refl _) rfl)) (show K_mp_checkSwitch_113 (RL_mp_checkStatement d) tf ta na p0 ma cf ca ma_113 cf_113 ca_113 x113_2 x113_3 x113_4 x113_5 z20 from (fun y_f0 y_f1 y_f2 k hE => k113_52 y_f0 y_f1 y_f2 (k + 1) (Or.inr (Or.inr (Or.inl ⟨rfl, x113_2, x113_3, x113_4, x113_5, x113_6, rfl, rfl, rfl, rfl, rfl, Or.inr ⟨nc1, z4, ez4, Or.inr ⟨nc5, z8, ez8, Or.inr ⟨nc9, z12, ez12, Or.inr ⟨nc13, z16, ez16, z17, ez17, Or.inl ⟨nc18, z20, ez20, hE⟩⟩⟩⟩⟩⟩))))) (show (mm_113 - 1) < (n_113 : Int) from by first | exact oz_0c9cab56e9 hm | omega) hw (lv_sub hl [1, 2, 3, 4, 5, 6, 0] rfl)
                  · have nc18 : z16.toInt = z17.toInt := (i_eq (x := z16) (y := z17)).mp c18
                    refine lv_aload_n S.x S.b d_Mpg_checkSwitch_171 rfl (lv_at hl 0 rfl) ?_
                    refine lv_bipush (v := 10) S.x S.b d_Mpg_checkSwitch_172 (by decide) ?_
                    refine lv_aload_n S.x S.b d_Mpg_checkSwitch_174 rfl (lv_at hl 0 rfl) ?_
                    refine px_get S k_Mpg hT hw 0 0 15 (v := .ref (r 15)) rfl rfl rfl (by decide) m9_239 d_Mpg_checkSwitch_175 ?_
                    refine lv_iload S.x S.b d_Mpg_checkSwitch_178 (lv_at hl 5 rfl) ?_
                    refine px_iald S hT hw 0 11 (n := 2100) (f := (na 15)) rfl gp_15 (x := x113_5) (vp_in_iff.mpr (by first | exact oz_caf67f0162 k113_38 k113_39 k113_41 g1 g2 | (constructor <;> omega))) d_Mpg_checkSwitch_180 ?_
                    refine lv_topi (fun z21 ez21 => ?_)
                    have lz21 := Int32.le_toInt z21
                    have uz21 := Int32.toInt_lt z21
                    have rz21 : z21.toInt = (na 15 x113_5.toNatClampNeg).toInt := by rw [ez21]
                    refine px_callv (pr := []) (px_runV (As := [.int 10, .int z21]) (rest := []) S (c_mp_bad l D cs h r g tf ta pf na ma_113 wa ca_113 ef ea xf xa cf_113 10 z21  (show 1 ≤ (10 : Int) from by first | exact oz_9dc6140a65 | omega) (show 0 ≤ z21.toInt from by first | exact oz_f3ebed1ad0 rz21 k113_46 | omega) (show z21.toInt < (tf 6).toInt from by first | exact oz_5d2fbac15b k113_47 rz21 | omega) htk hwr _) hT (pr := []) (pcs := [wdP cs h r g tf ta pf na ma_113 wa cf_113 ca_113 ef ea xf xa]) hw px_X.tt (px_recv hT hw 0 0 rfl rfl rfl) m12_173 m12_170 m12_172 ms_11_12 m1_21 q_Mpg_bad ⟨show 0 + 1 ≤ (6 * d + 29) from (by first | exact oz_cfa904bb27 | omega), show 8 + (3 + 11) + 0 ≤ (260 * d + 1020) from (by first | exact oz_480c6b4fdb | omega)⟩ hl.1 rfl (Nat.le_of_ble_eq_true rfl) d_Mpg_checkSwitch_181 ⟨Nat.le_of_ble_eq_true rfl, Nat.le_of_ble_eq_true rfl⟩) hw hA (fun p24 H locs hp24 hw => ?_)
                    obtain ⟨cf23, rfl, e26, e27, e28, e29, e30, e31, e32, e33, e34, e35, e36, e37, e38, e39, e40, e41, e42, e43, e44, e45⟩ := hp24
                    have e26 : KpE cf_113 cf23 := e26
                    have hkz_e26 := e26.2
                    have e27 : WrV cf23 (tf 6).toInt := e27
                    have hwr := e27
                    have hw0_e27 := hwr.1
                    have e28 : 1 ≤ (cf23 30).toInt := e28
                    have e29 : (cf23 33).toInt = (cf_113 33).toInt := e29
                    have e30 : (cf23 38).toInt = (cf_113 38).toInt := e30
                    have e31 : (cf23 48).toInt = (cf_113 48).toInt := e31
                    have e32 : (cf23 46).toInt = (cf_113 46).toInt := e32
                    have e33 : (cf23 47).toInt = (cf_113 47).toInt := e33
                    have e34 : (cf23 57).toInt = (cf_113 57).toInt := e34
                    have e35 : (cf23 37).toInt = (cf_113 37).toInt := e35
                    have e36 : (cf23 42).toInt = (cf_113 42).toInt := e36
                    have e37 : (cf23 43).toInt = (cf_113 43).toInt := e37
                    have e38 : (cf23 44).toInt = (cf_113 44).toInt := e38
                    have e39 : (cf23 45).toInt = (cf_113 45).toInt := e39
                    have e40 : (cf23 54).toInt = (cf_113 54).toInt := e40
                    have e41 : (cf23 55).toInt = (cf_113 55).toInt := e41
                    have e42 : (cf23 58).toInt = (cf_113 58).toInt := e42
                    have e43 : (cf23 59).toInt = (cf_113 59).toInt := e43
                    have e44 : (cf23 41).toInt = (cf_113 41).toInt := e44
                    have e45 : R_mp_bad (10 : Int32) z21 cf_113 cf23 := e45
                    have hka : ZTe cf23 ta ca_113 na ma0 (cf23 48).toInt ys nf ma_113 (p0.toInt + 1) m1 (na 17 p0.toNatClampNeg) 0 := ZTe.to hka (fun q => by omega) (by omega) (Int.le_refl _) (Int.le_refl _) rfl
                    have hzts : ZTs cf23 ta ca_113 na ma0 (cf23 48).toInt ys nf ma_113 m1 mid_113 (ma0 18 p0.toNatClampNeg) x113_5 (if tgv (cf 44).toInt (cf 45).toInt = 4 then 4 else 3) := ZTs.to hzts (fun q => by omega) (by omega) (Int.le_refl _) (Int.le_refl _) rfl
                    have hw : pw D A s.heap H locs [wdP cs h r g tf ta pf na ma_113 wa cf23 ca_113 ef ea xf xa] := hw
                    refine lv_aload_n S.x S.b d_Mpg_checkSwitch_184 rfl (lv_at hl 0 rfl) ?_
                    refine px_get S k_Mpg hT hw 0 0 21 (v := .ref (r 21)) rfl rfl rfl (by decide) m10_7 d_Mpg_checkSwitch_185 ?_
                    refine lv_iload S.x S.b d_Mpg_checkSwitch_188 (lv_at hl 6 rfl) ?_
                    refine px_iald S hT hw 0 17 (n := 2100) (f := (na 21)) rfl gp_21 (x := x113_6) (vp_in_iff.mpr (by constructor <;> omega)) d_Mpg_checkSwitch_190 ?_
                    refine lv_topi (fun z46 ez46 => ?_)
                    have lz46 := Int32.le_toInt z46
                    have uz46 := Int32.toInt_lt z46
                    refine lv_istore (lv' := [(6, .int z46), (0, .ref h), (1, .int p0), (2, .int x113_2), (3, .int x113_3), (4, .int x113_4), (5, .int x113_5)]) S.x S.b d_Mpg_checkSwitch_191 hl (by decide) rfl (fun ls hl => ?_)
                    refine lv_goto (tgt := 113) S.x S.b d_Mpg_checkSwitch_193 (by decide) ?_
                    exact ih113 ma_113 cf23 ca_113 mid_113 wr_113 cnt_113 mdi_113 wvi_113 (mm_113 - 1) x113_2 x113_3 x113_4 x113_5 z46 _ _ ls (show (cf23 30).toInt = 0 → (cf 30).toInt = 0 from by omega) (show WrV cf23 (tf 6).toInt from hwr) (show (cf23 38).toInt = (cf 38).toInt from by first | exact oz_1687f4cc65 k113_2 e30 | omega) (show (cf23 43).toInt = (cf 43).toInt from by first | exact oz_1687f4cc65 k113_3 e37 | omega) (show (cf23 44).toInt = (cf 44).toInt from by first | exact oz_1687f4cc65 k113_4 e38 | omega) (show (cf23 46).toInt = (cf 46).toInt from by first | exact oz_1687f4cc65 k113_5 e32 | omega) (show (cf23 47).toInt = (cf 47).toInt from by first | exact oz_1687f4cc65 k113_6 e33 | omega) (show (cf23 41).toInt = (cf 41).toInt from by first | exact oz_1687f4cc65 k113_7 e44 | omega) (show (cf23 55).toInt = (cf 55).toInt from by first | exact oz_1687f4cc65 k113_8 e41 | omega) (show (cf23 59).toInt = (cf 59).toInt from by first | exact oz_1687f4cc65 k113_9 e43 | omega) (show (cf 33).toInt ≤ (cf23 33).toInt from by first | exact oz_b1a9dcfb4c k113_10 e29 | omega) (show 6 * (cf23 33).toInt ≤ 6 * (cf 33).toInt + (w1 + (w2 - wr_113)) from by first | exact oz_838785b4c6 k113_11 e29 | omega) (show (cf 48).toInt ≤ (cf23 48).toInt from by first | exact oz_73dc218776 k113_18 e31 k113_14 k113_16 | omega) (show 6 * (cf23 48).toInt ≤ 6 * (cf 48).toInt + (w1 + (w2 - wr_113)) from by first | exact oz_838785b4c6 k113_13 e31 | omega) (show (cf 54).toInt ≤ (cf23 54).toInt from by first | exact oz_b1a9dcfb4c k113_14 e40 | omega) (show (cf 42).toInt ≤ (cf23 42).toInt from by first | exact oz_94ff7ee8ed k113_16 e36 k113_14 | omega) (show (cf23 54).toInt - (cf 54).toInt ≤ 4 * ((cf23 42).toInt - (cf 42).toInt) from by first | exact oz_4001d13b45 k113_16 e36 e40 | omega) (show (cf23 54).toInt - (cf 54).toInt ≤ 4096 * ((cf23 48).toInt - (cf 48).toInt) from by first | exact oz_761fc723f5 k113_17 e31 e40 | omega) (show (cf23 42).toInt - (cf 42).toInt ≤ 4096 * ((cf23 48).toInt - (cf 48).toInt) from by first | exact oz_761fc723f5 k113_18 e31 e36 | omega) (show KnT (tf 6).toInt ca_113 (cf23 33).toInt from (KnT.eq hkt (by omega))) (show KnS ca_113 (cf23 33).toInt (cf23 48).toInt ys from (KnS.eq hks (by omega) (by omega))) (show CaG ca ca_113 (cf 33).toInt (cf 48).toInt from (hcg.le (by omega) (by omega))) (show SyR ca_113 ys (cf23 48).toInt (cf23 54).toInt tx from (SyR.eq hsr (by omega) (by omega))) (show Ann na ma0 ma_113 from han) (show FrC lo hi ma ma_113 from hfc) (show (cf23 37).toInt = (cf 33).toInt from by first | exact oz_1687f4cc65 k113_25 e35 | omega) (show (cf23 45).toInt = (cf 45).toInt + 1 from by first | exact oz_d71c8747a8 k113_26 e39 | omega) (show x113_2.toInt = (cf 33).toInt from by first | exact k113_27 | omega) (show x113_3.toInt = (cf 37).toInt from by first | exact k113_28 | omega) (show 0 ≤ x113_4.toInt from by first | exact k113_29 | omega) (show x113_4.toInt ≤ 1 from by first | exact k113_30 | omega) (show m1 ≤ mid_113 from by first | exact k113_31 | omega) (show mid_113 ≤ hi from by first | exact k113_32 | omega) (show 0 ≤ wr_113 from by first | exact k113_33 | omega) (show wr_113 ≤ w2 from by first | exact k113_34 | omega) (show 0 ≤ cnt_113 from by first | exact k113_35 | omega) (show ZTe cf23 ta ca_113 na ma0 (cf23 48).toInt ys nf ma_113 (p0.toInt + 1) m1 (na 17 p0.toNatClampNeg) 0 from (ZTe.to hka (fun q => by omega) (by omega) (Int.le_refl _) (Int.le_refl _) rfl)) (show mid_51 ≤ mid_113 from by first | exact k113_37 | omega) (show 0 ≤ x113_5.toInt from by first | exact k113_38 | omega) (show x113_5.toInt < mdi_113 from by first | exact k113_39 | omega) (show mid_113 ≤ x113_5.toInt from by first | exact k113_40 | omega) (show mdi_113 ≤ hi from by first | exact k113_41 | omega) (show 0 ≤ wvi_113 from by first | exact k113_42 | omega) (show wvi_113 ≤ wr_113 from by first | exact k113_43 | omega) (show 0 ≤ (mm_113 - 1) from by omega) (show (na 14 x113_5.toNatClampNeg).toInt = 29 from by first | exact k113_45 | omega) (show 0 ≤ (na 15 x113_5.toNatClampNeg).toInt from by first | exact k113_46 | omega) (show (na 15 x113_5.toNatClampNeg).toInt < (tf 6).toInt from by first | exact k113_47 | omega) (show RvS ta (tf 6).toInt na ma0 d mdi_113 hi (wr_113 - wvi_113) (na 21 x113_5.toNatClampNeg) from hrs) (show RlD na (ma0 18 p0.toNatClampNeg) x113_5 cnt_113 from hrd) (show RlE na z46 x113_5 (mm_113 - 1) from (by rw [ez46]; exact hg4)) (show ZTs cf23 ta ca_113 na ma0 (cf23 48).toInt ys nf ma_113 m1 mid_113 (ma0 18 p0.toNatClampNeg) x113_5 (if tgv (cf 44).toInt (cf 45).toInt = 4 then 4 else 3) from (ZTs.to hzts (fun q => by omega) (by omega) (Int.le_refl _) (Int.le_refl _) rfl)) (show K_mp_checkSwitch_113 (RL_mp_checkStatement d) tf ta na p0 ma cf ca ma_113 cf23 ca_113 x113_2 x113_3 x113_4 x113_5 z46 from (fun y_f0 y_f1 y_f2 k hE => k113_52 y_f0 y_f1 y_f2 (k + 1) (Or.inr (Or.inr (Or.inl ⟨rfl, x113_2, x113_3, x113_4, x113_5, x113_6, rfl, rfl, rfl, rfl, rfl, Or.inr ⟨nc1, z4, ez4, Or.inr ⟨nc5, z8, ez8, Or.inr ⟨nc9, z12, ez12, Or.inr ⟨nc13, z16, ez16, z17, ez17, Or.inr ⟨nc18, z21, ez21, cf23, e45, z46, ez46, hE⟩⟩⟩⟩⟩⟩))))) (show (mm_113 - 1) < (n_113 : Int) from by first | exact oz_0c9cab56e9 hm | omega) hw (lv_sub hl [1, 2, 3, 4, 5, 6, 0] rfl)
      refine lv_iload S.x S.b d_Mpg_checkSwitch_51 (lv_at hl 5 rfl) ?_
      refine lv_if_lt (tgt := 253) S.x S.b d_Mpg_checkSwitch_53 (by decide) (fun c47 => ?_) (fun c47 => ?_)
      · have nc47 : x51_5.toInt < (0 : Int) := (i_lt (x := x51_5) (y := 0)).mp c47
        refine lv_aload_n S.x S.b d_Mpg_checkSwitch_253 rfl (lv_at hl 0 rfl) ?_
        refine lv_dup S.x S.b d_Mpg_checkSwitch_254 rfl ?_
        refine px_get S k_Mpg hT hw 0 0 45 (v := .int (cf_51 45)) rfl rfl rfl (by decide) m10_36 d_Mpg_checkSwitch_255 ?_
        refine lv_iconst (v := 1) S.x S.b d_Mpg_checkSwitch_258 (by decide) ?_
        refine lv_isub S.x S.b d_Mpg_checkSwitch_259 ?_
        have lr49 := Int32.le_toInt (cf_51 45)
        have ur49 := Int32.toInt_lt (cf_51 45)
        refine lv_topi (fun z50 ez50 => ?_)
        have tz50 : z50.toInt = ((cf_51 45).toInt - (1 : Int) + 2147483648) % 4294967296 - 2147483648 := by rw [ez50]; exact i_sub (cf_51 45) 1
        have lz50 := Int32.le_toInt z50
        have uz50 := Int32.toInt_lt z50
        try replace tz50 : z50.toInt = (cf_51 45).toInt - (1 : Int) := by omega
        refine px_put S k_Mpg hT hw 0 0 45 rfl rfl (by decide) m10_36 rfl rfl rfl (Nat.le_of_ble_eq_true rfl) d_Mpg_checkSwitch_260 (w' := wdP cs h r g tf ta pf na ma_51 wa (upd cf_51 45 z50) ca_51 ef ea xf xa) (ps' := [wdP cs h r g tf ta pf na ma_51 wa (upd cf_51 45 z50) ca_51 ef ea xf xa]) rfl rfl (fun H locs hw => ?_)
        refine lv_aload_n S.x S.b d_Mpg_checkSwitch_263 rfl (lv_at hl 0 rfl) ?_
        refine lv_iload_n S.x S.b d_Mpg_checkSwitch_264 rfl (lv_at hl 2 rfl) ?_
        refine lv_iload_n S.x S.b d_Mpg_checkSwitch_265 rfl (lv_at hl 3 rfl) ?_
        refine px_callv (pr := []) (px_runV (As := [.int x51_2, .int x51_3]) (rest := []) S (c_mp_leave l D cs h r g tf ta pf na ma_51 wa ca_51 ef ea xf xa (upd cf_51 45 z50) x51_2 x51_3  htk _) hT (pr := []) (pcs := [wdP cs h r g tf ta pf na ma_51 wa (upd cf_51 45 z50) ca_51 ef ea xf xa]) hw px_X.tt (px_recv hT hw 0 0 rfl rfl rfl) m12_209 m12_206 m12_208 ms_12_5 m1_21 q_Mpg_leave ⟨show 0 + 1 ≤ (6 * d + 29) from (by first | exact oz_cfa904bb27 | omega), show 8 + (3 + 11) + 0 ≤ (260 * d + 1020) from (by first | exact oz_480c6b4fdb | omega)⟩ hl.1 rfl (Nat.le_of_ble_eq_true rfl) d_Mpg_checkSwitch_266 ⟨Nat.le_of_ble_eq_true rfl, Nat.le_of_ble_eq_true rfl⟩) hw hA (fun p53 H locs hp53 hw => ?_)
        obtain ⟨cf52, rfl, e55, e56, e57, e58, e59, e60, e61, e62, e63, e64, e65, e66, e67, e68, e69, e70, e71, e72, e73⟩ := hp53
        have e55 : (cf52 33).toInt = x51_2.toInt := e55
        have e56 : (cf52 37).toInt = x51_3.toInt := e56
        have e57 : (cf52 30).toInt = (cf_51 30).toInt := e57
        have e58 : (cf52 31).toInt = (cf_51 31).toInt := e58
        have e59 : (cf52 38).toInt = (cf_51 38).toInt := e59
        have e60 : (cf52 41).toInt = (cf_51 41).toInt := e60
        have e61 : (cf52 42).toInt = (cf_51 42).toInt := e61
        have e62 : (cf52 43).toInt = (cf_51 43).toInt := e62
        have e63 : (cf52 44).toInt = (cf_51 44).toInt := e63
        have e64 : (cf52 45).toInt = z50.toInt := e64
        have e65 : (cf52 46).toInt = (cf_51 46).toInt := e65
        have e66 : (cf52 47).toInt = (cf_51 47).toInt := e66
        have e67 : (cf52 48).toInt = (cf_51 48).toInt := e67
        have e68 : (cf52 54).toInt = (cf_51 54).toInt := e68
        have e69 : (cf52 55).toInt = (cf_51 55).toInt := e69
        have e70 : (cf52 57).toInt = (cf_51 57).toInt := e70
        have e71 : (cf52 58).toInt = (cf_51 58).toInt := e71
        have e72 : (cf52 59).toInt = (cf_51 59).toInt := e72
        have e73 : R_mp_leave x51_2 x51_3 (upd cf_51 45 z50) cf52 := e73
        have hwr : WrV cf52 (tf 6).toInt := WrV.eq hwr (by omega) (by omega)
        have hkt := KnT.eq (n' := (cf52 33).toInt) (KnT.cg hkt0 hcg (Int.le_refl _)) (by omega)
        have hks := KnS.eq (n' := (cf52 33).toInt) (KnS.cg hks0 hcg (Int.le_refl _) (Int.le_refl _) (n2 := (cf52 48).toInt) (by omega)) (by omega) rfl
        have hka : ZTe cf52 ta ca_51 na ma0 (cf52 48).toInt ys nf ma_51 (p0.toInt + 1) m1 (na 17 p0.toNatClampNeg) 0 := ZTe.to hka (fun q => by omega) (by omega) (Int.le_refl _) (Int.le_refl _) rfl
        have hzts : ZTs cf52 ta ca_51 na ma0 (cf52 48).toInt ys nf ma_51 m1 mid_51 (ma0 18 p0.toNatClampNeg) x51_5 (if tgv (cf 44).toInt (cf 45).toInt = 4 then 4 else 3) := ZTs.to hzts (fun q => by omega) (by omega) (Int.le_refl _) (Int.le_refl _) rfl
        have hw : pw D A s.heap H locs [wdP cs h r g tf ta pf na ma_51 wa cf52 ca_51 ef ea xf xa] := hw
        exact px_vret S hr hlk hAe hw (Nat.le_of_ble_eq_true rfl) (Nat.le_of_ble_eq_true rfl) (⟨ma_51, cf52, ca_51, rfl, (show (cf52 30).toInt = 0 → (cf 30).toInt = 0 from by omega), (show WrV cf52 (tf 6).toInt from hwr), (show (cf52 37).toInt = (cf 37).toInt from by first | exact oz_1687f4cc65 k51_28 e56 | omega), (show (cf52 38).toInt = (cf 38).toInt from by first | exact oz_1687f4cc65 k51_2 e59 | omega), (show (cf52 43).toInt = (cf 43).toInt from by first | exact oz_1687f4cc65 k51_3 e62 | omega), (show (cf52 44).toInt = (cf 44).toInt from by first | exact oz_1687f4cc65 k51_4 e63 | omega), (show (cf52 45).toInt = (cf 45).toInt from by first | exact oz_07f91154f4 k51_26 e64 tz50 | omega), (show (cf52 46).toInt = (cf 46).toInt from by first | exact oz_1687f4cc65 k51_5 e65 | omega), (show (cf52 47).toInt = (cf 47).toInt from by first | exact oz_1687f4cc65 k51_6 e66 | omega), (show (cf52 41).toInt = (cf 41).toInt from by first | exact oz_1687f4cc65 k51_7 e60 | omega), (show (cf52 55).toInt = (cf 55).toInt from by first | exact oz_1687f4cc65 k51_8 e69 | omega), (show (cf52 59).toInt = (cf 59).toInt from by first | exact oz_1687f4cc65 k51_9 e72 | omega), (show (cf52 33).toInt = (cf 33).toInt from by first | exact oz_1687f4cc65 k51_27 e55 | omega), (show (cf 48).toInt ≤ (cf52 48).toInt from by first | exact oz_73dc218776 k51_18 e67 k51_14 k51_16 | omega), (show 6 * (cf52 48).toInt ≤ 6 * (cf 48).toInt + (w) from by first | exact oz_ac081cd12c hws k51_13 e67 k51_33 | omega), (show (cf 54).toInt ≤ (cf52 54).toInt from by first | exact oz_b1a9dcfb4c k51_14 e68 | omega), (show (cf 42).toInt ≤ (cf52 42).toInt from by first | exact oz_94ff7ee8ed k51_16 e61 k51_14 | omega), (show (cf52 54).toInt - (cf 54).toInt ≤ 4 * ((cf52 42).toInt - (cf 42).toInt) from by first | exact oz_4001d13b45 k51_16 e61 e68 | omega), (show (cf52 54).toInt - (cf 54).toInt ≤ 4096 * ((cf52 48).toInt - (cf 48).toInt) from by first | exact oz_761fc723f5 k51_17 e67 e68 | omega), (show (cf52 42).toInt - (cf 42).toInt ≤ 4096 * ((cf52 48).toInt - (cf 48).toInt) from by first | exact oz_0e7a26fe4a k51_18 e61 e67 | omega), (show KnT (tf 6).toInt ca_51 (cf52 33).toInt from (KnT.eq hkt (by omega))), (show KnS ca_51 (cf52 33).toInt (cf52 48).toInt ys from (KnS.eq hks (by omega) (by omega))), (show CaG ca ca_51 (cf 33).toInt (cf 48).toInt from (hcg.le (by omega) (by omega))), (show SyR ca_51 ys (cf52 48).toInt (cf52 54).toInt tx from (SyR.eq hsr (by omega) (by omega))), (show Ann na ma0 ma_51 from han), (show FrC lo hi ma ma_51 from hfc), (show ZTe cf52 ta ca_51 na ma0 (cf52 48).toInt ys nf ma_51 lo hi p0 (tgv (cf 44).toInt (cf 45).toInt) from (fun zz => by exact tys_28 ⟨by omega, by omega, by omega⟩ tgv_rng (by omega) rfl (Ann.b18 han (by omega)).symm (ZTe.at hka (by omega) (by omega) (by omega) (by omega) rfl) (ZTs.at hzts (by omega) (by omega) (by omega) (by omega) rfl) (by omega))), (show R_mp_checkSwitch (RL_mp_checkStatement d) tf ta na p0 ma cf ca ma_51 cf52 ca_51 from (k51_40 _ _ _ 1 (Or.inr (Or.inl ⟨rfl, x51_2, x51_3, x51_4, x51_5, rfl, rfl, rfl, rfl, rfl, Or.inl ⟨nc47, z50, ez50, cf52, e73, rfl, rfl, rfl⟩⟩))))⟩) d_Mpg_checkSwitch_269
      · have nc47 : ¬ x51_5.toInt < (0 : Int) := mt (i_lt (x := x51_5) (y := 0)).mpr c47
        refine lv_aload_n S.x S.b d_Mpg_checkSwitch_56 rfl (lv_at hl 0 rfl) ?_
        obtain ⟨md74, wv75, hm1_md74, hm2_md74, hm3_md74, hsc_x51_5, hx3_md74, hrs2⟩ := RvE.step hrs (by omega); have hwp2 := RvE.wp hrs2; have hsr_x51_5 := ScV.rng hsc_x51_5; have hkq := ScV.kind hsc_x51_5
        refine px_get S k_Mpg hT hw 0 0 14 (v := .ref (r 14)) rfl rfl rfl (by decide) m9_238 d_Mpg_checkSwitch_57 ?_
        refine lv_iload S.x S.b d_Mpg_checkSwitch_60 (lv_at hl 5 rfl) ?_
        refine px_bald S hT hw 0 10 (n := 2100) (f := (na 14)) rfl gp_14 (x := x51_5) (vp_in_iff.mpr (by constructor <;> omega)) d_Mpg_checkSwitch_62 ?_
        refine lv_topi (fun z76 ez76 => ?_)
        have lz76 := Int32.le_toInt z76
        have uz76 := Int32.toInt_lt z76
        have rz76 : z76.toInt = (na 14 x51_5.toNatClampNeg).toInt := (by rw [ez76])
        refine lv_bipush (v := 29) S.x S.b d_Mpg_checkSwitch_63 (by decide) ?_
        refine lv_icmp_ne (tgt := 199) S.x S.b d_Mpg_checkSwitch_65 (by decide) (fun c77 => ?_) (fun c77 => ?_)
        · have nc77 : ¬ z76.toInt = (29 : Int) := mt (i_eq (x := z76) (y := 29)).mpr c77
          refine lv_aload_n S.x S.b d_Mpg_checkSwitch_199 rfl (lv_at hl 0 rfl) ?_
          refine px_get S k_Mpg hT hw 0 0 14 (v := .ref (r 14)) rfl rfl rfl (by decide) m9_238 d_Mpg_checkSwitch_200 ?_
          refine lv_iload S.x S.b d_Mpg_checkSwitch_203 (lv_at hl 5 rfl) ?_
          refine px_bald S hT hw 0 10 (n := 2100) (f := (na 14)) rfl gp_14 (x := x51_5) (vp_in_iff.mpr (by constructor <;> omega)) d_Mpg_checkSwitch_205 ?_
          refine lv_topi (fun z79 ez79 => ?_)
          have lz79 := Int32.le_toInt z79
          have uz79 := Int32.toInt_lt z79
          have rz79 : z79.toInt = (na 14 x51_5.toNatClampNeg).toInt := (by rw [ez79])
          refine lv_bipush (v := 30) S.x S.b d_Mpg_checkSwitch_206 (by decide) ?_
          refine lv_icmp_ne (tgt := 235) S.x S.b d_Mpg_checkSwitch_208 (by decide) (fun c80 => ?_) (fun c80 => ?_)
          · have nc80 : ¬ z79.toInt = (30 : Int) := mt (i_eq (x := z79) (y := 30)).mpr c80
            refine lv_aload_n S.x S.b d_Mpg_checkSwitch_235 rfl (lv_at hl 0 rfl) ?_
            refine lv_iload S.x S.b d_Mpg_checkSwitch_236 (lv_at hl 5 rfl) ?_
            refine px_callv (pr := []) (px_runV (As := [.int x51_5]) (rest := []) S (hLS ma0 ys nf tx mid_51 md74 wv75 h r g tf ta pf na wa ef ea xf xa ma_51 cf_51 ca_51 x51_5 (show 0 ≤ mid_51 from by first | exact oz_8df2b9da5a k51_31 hm1 hsr0.2.2.1 | omega) (show md74 ≤ (pf 13).toInt from by first | exact oz_bbb5b20c1a g1 hm2_md74 | omega) (show (pf 13).toInt ≤ 2100 from by first | exact g2 | omega) (show (tf 6).toInt ≤ 2049 from by first | exact g3 | omega) (show 0 ≤ (cf_51 33).toInt from by first | exact oz_16d7fa9f32 k51_10 g4 | omega) (show 0 ≤ wv75 from by first | exact hm3_md74 | omega) (show 6 * (cf_51 33).toInt + wv75 ≤ 6540 from by omega) (show 0 ≤ (cf_51 48).toInt from by first | exact oz_6a9f12b40a k51_18 g14 g15 k51_15 | omega) (show 6 * (cf_51 48).toInt + wv75 ≤ 6540 from by omega) (show (cf_51 38).toInt = nf from by first | exact oz_1687f4cc65 g9 k51_2 | omega) (show 0 ≤ nf from by first | exact g10 | omega) (show 0 ≤ (cf_51 37).toInt from by first | exact oz_f3ebed1ad0 k51_25 g4 | omega) (show 0 ≤ (cf_51 54).toInt from by first | exact oz_16d7fa9f32 k51_14 g12 | omega) (show (cf_51 54).toInt ≤ 4096 * (cf_51 48).toInt from by first | exact oz_c501c098b4 k51_17 g13 | omega) (show 0 ≤ (cf_51 42).toInt from by first | exact oz_16d7fa9f32 k51_15 g14 | omega) (show (cf_51 42).toInt ≤ 4 + 4096 * (cf_51 48).toInt from by first | exact oz_658acb1b4c k51_18 g15 | omega) (show 0 ≤ (cf_51 44).toInt from by first | exact oz_f3ebed1ad0 k51_4 g16 | omega) (show 0 ≤ (cf_51 45).toInt from by first | exact oz_ae613611c0 k51_26 g17 | omega) (show ys ≤ (cf_51 48).toInt ∨ tx = 1 from by omega) (show 0 ≤ (cf_51 46).toInt from by first | exact oz_f3ebed1ad0 k51_5 g19 | omega) (show (cf_51 46).toInt ≤ 1 from by first | exact oz_878017becc k51_5 g20 | omega) (show 0 ≤ (cf_51 47).toInt from by first | exact oz_f3ebed1ad0 k51_6 g21 | omega) (show (cf_51 47).toInt ≤ 1 from by first | exact oz_878017becc k51_6 g22 | omega) (show (cf_51 44).toInt + (d : Int) ≤ 400 from by first | exact oz_d272872612 g29 k51_4 | omega) (show (cf_51 45).toInt + (d : Int) ≤ 400 from by first | exact oz_c44fb009a5 g30 k51_26 | omega) (show 0 ≤ (cf_51 43).toInt from by first | exact oz_f3ebed1ad0 k51_3 g25 | omega) (show (cf_51 43).toInt < 2100 from by first | exact oz_b365134983 k51_3 g26 | omega) (show tx = 0 from by first | exact g27 | omega) htk (FsI.le (N' := (pf 13).toInt) hfs (by omega)) hwr (KnT.eq hkt (by omega)) (FnT.eq hft (by omega)) (KnS.eq hks (by omega) (by omega)) hfp (SyR.eq hsr (by omega) (by omega)) han (show txo (cf_51 43).toInt = tx from by rw [show (cf_51 43).toInt = (cf 43).toInt by omega]; exact htx) hsc_x51_5 _) hT (pr := []) (pcs := [wdP cs h r g tf ta pf na ma_51 wa cf_51 ca_51 ef ea xf xa]) hw (oX_call (P := (fun A U H => (oP A g U H))) (pr := []) oG_P hw hA hP) (px_recv hT hw 0 0 rfl rfl rfl) m12_201 m12_198 m12_200 ms_12_3 m1_21 q_Mpg_checkStatement ⟨show (6 * d + 26) + 1 ≤ (6 * d + 29) from (by first | exact oz_00b995d557 | omega), show 8 + (3 + 11) + (260 * d + 900) ≤ (260 * d + 1020) from (by first | exact oz_feae7da00e | omega)⟩ hl.1 rfl (Nat.le_of_ble_eq_true rfl) d_Mpg_checkSwitch_238 ⟨Nat.le_of_ble_eq_true rfl, Nat.le_of_ble_eq_true rfl⟩) hw hA (fun p88 H locs hp88 hw => ?_)
            obtain ⟨ma85, cf86, ca87, rfl, e90, e91, e92, e93, e94, e95, e96, e97, e98, e99, e100, e101, e102, e103, e104, e105, e106, e107, e108, e109, e110, e111, e112, e113, e114, e115, e116, e117, e118⟩ := hp88
            have e90 : (cf86 30).toInt = 0 → (cf_51 30).toInt = 0 := e90
            have e91 : WrV cf86 (tf 6).toInt := e91
            have hwr := e91
            have hw0_e91 := hwr.1
            have e92 : (cf86 37).toInt = (cf_51 37).toInt := e92
            have e93 : (cf86 38).toInt = (cf_51 38).toInt := e93
            have e94 : (cf86 43).toInt = (cf_51 43).toInt := e94
            have e95 : (cf86 44).toInt = (cf_51 44).toInt := e95
            have e96 : (cf86 45).toInt = (cf_51 45).toInt := e96
            have e97 : (cf86 46).toInt = (cf_51 46).toInt := e97
            have e98 : (cf86 47).toInt = (cf_51 47).toInt := e98
            have e99 : (cf86 41).toInt = (cf_51 41).toInt := e99
            have e100 : (cf86 55).toInt = (cf_51 55).toInt := e100
            have e101 : (cf86 59).toInt = (cf_51 59).toInt := e101
            have e102 : (cf_51 33).toInt ≤ (cf86 33).toInt := e102
            have e103 : 6 * (cf86 33).toInt ≤ 6 * (cf_51 33).toInt + (wv75) := e103
            have e104 : (cf_51 48).toInt ≤ (cf86 48).toInt := e104
            have e105 : 6 * (cf86 48).toInt ≤ 6 * (cf_51 48).toInt + (wv75) := e105
            have e106 : (cf_51 54).toInt ≤ (cf86 54).toInt := e106
            have e107 : (cf_51 42).toInt ≤ (cf86 42).toInt := e107
            have e108 : (cf86 54).toInt - (cf_51 54).toInt ≤ 4 * ((cf86 42).toInt - (cf_51 42).toInt) := e108
            have e109 : (cf86 54).toInt - (cf_51 54).toInt ≤ 4096 * ((cf86 48).toInt - (cf_51 48).toInt) := e109
            have e110 : (cf86 42).toInt - (cf_51 42).toInt ≤ 4096 * ((cf86 48).toInt - (cf_51 48).toInt) := e110
            have e111 : KnT (tf 6).toInt ca87 (cf86 33).toInt := e111
            have hkt := e111
            have hk11_e111 := hkt.1
            have e112 : KnS ca87 (cf86 33).toInt (cf86 48).toInt ys := e112
            have hks := e112
            have e113 : CaG ca_51 ca87 (cf_51 33).toInt (cf_51 48).toInt := e113
            have hcg := hcg.tr e113 (by omega) (by omega)
            have hft := hft.cg e113
            have hfp := hfp.cg e113
            have e114 : SyR ca87 ys (cf86 48).toInt (cf86 54).toInt tx := e114
            have hsr := e114
            have e115 : Ann na ma0 ma85 := e115
            have han := e115
            have e116 : FrC mid_51 md74 ma_51 ma85 := e116
            have hfc := hfc.tr e116 (by omega) (by omega)
            have hka : ZTe cf86 ta ca87 na ma0 (cf86 48).toInt ys nf ma85 (p0.toInt + 1) m1 (na 17 p0.toNatClampNeg) 0 := ZTe.tr hka (fun q => by omega) e116 (by omega) e113 (by omega) (by omega)
            have hzts : ZTs cf86 ta ca87 na ma0 (cf86 48).toInt ys nf ma85 m1 mid_51 (ma0 18 p0.toNatClampNeg) x51_5 (if tgv (cf 44).toInt (cf 45).toInt = 4 then 4 else 3) := ZTs.tr hzts (fun q => by omega) e116 (by omega) e113 (by omega) (by omega)
            have e117 : ZTe cf86 ta ca87 na ma0 (cf86 48).toInt ys nf ma85 mid_51 md74 x51_5 (tgv (cf_51 44).toInt (cf_51 45).toInt) := e117
            have hts_x51_5 : ZTe cf86 ta ca87 na ma0 (cf86 48).toInt ys nf ma85 mid_51 md74 x51_5 (if tgv (cf 44).toInt (cf 45).toInt = 4 then 4 else 3) := ZTe.to e117 (fun q => by omega) (by omega) (Int.le_refl _) (Int.le_refl _) (tgv_sw (by omega) (by omega) (by omega))
            have e118 : RL_mp_checkStatement d tf ta na x51_5 ma_51 cf_51 ca_51 ma85 cf86 ca87 := e118
            have hw : pw D A s.heap H locs [wdP cs h r g tf ta pf na ma85 wa cf86 ca87 ef ea xf xa] := hw
            refine lv_aload_n S.x S.b d_Mpg_checkSwitch_241 rfl (lv_at hl 0 rfl) ?_
            refine px_get S k_Mpg hT hw 0 0 21 (v := .ref (r 21)) rfl rfl rfl (by decide) m10_7 d_Mpg_checkSwitch_242 ?_
            refine lv_iload S.x S.b d_Mpg_checkSwitch_245 (lv_at hl 5 rfl) ?_
            refine px_iald S hT hw 0 17 (n := 2100) (f := (na 21)) rfl gp_21 (x := x51_5) (vp_in_iff.mpr (by constructor <;> omega)) d_Mpg_checkSwitch_247 ?_
            refine lv_topi (fun z119 ez119 => ?_)
            have lz119 := Int32.le_toInt z119
            have uz119 := Int32.toInt_lt z119
            refine lv_istore (lv' := [(5, .int z119), (0, .ref h), (1, .int p0), (2, .int x51_2), (3, .int x51_3), (4, .int x51_4)]) S.x S.b d_Mpg_checkSwitch_248 hl (by decide) rfl (fun ls hl => ?_)
            refine lv_goto (tgt := 51) S.x S.b d_Mpg_checkSwitch_250 (by decide) ?_
            exact ih51 ma85 cf86 ca87 md74 (wr_51 - wv75) (cnt_51 + 1) x51_2 x51_3 x51_4 z119 _ _ ls (show (cf86 30).toInt = 0 → (cf 30).toInt = 0 from by omega) (show WrV cf86 (tf 6).toInt from hwr) (show (cf86 38).toInt = (cf 38).toInt from by first | exact oz_1687f4cc65 k51_2 e93 | omega) (show (cf86 43).toInt = (cf 43).toInt from by first | exact oz_1687f4cc65 k51_3 e94 | omega) (show (cf86 44).toInt = (cf 44).toInt from by first | exact oz_1687f4cc65 k51_4 e95 | omega) (show (cf86 46).toInt = (cf 46).toInt from by first | exact oz_1687f4cc65 k51_5 e97 | omega) (show (cf86 47).toInt = (cf 47).toInt from by first | exact oz_1687f4cc65 k51_6 e98 | omega) (show (cf86 41).toInt = (cf 41).toInt from by first | exact oz_1687f4cc65 k51_7 e99 | omega) (show (cf86 55).toInt = (cf 55).toInt from by first | exact oz_1687f4cc65 k51_8 e100 | omega) (show (cf86 59).toInt = (cf 59).toInt from by first | exact oz_1687f4cc65 k51_9 e101 | omega) (show (cf 33).toInt ≤ (cf86 33).toInt from by first | exact oz_be764f19f0 k51_10 e102 | omega) (show 6 * (cf86 33).toInt ≤ 6 * (cf 33).toInt + (w1 + (w2 - (wr_51 - wv75))) from by first | exact oz_b9f1b5d567 k51_11 e103 | omega) (show (cf 48).toInt ≤ (cf86 48).toInt from by first | exact oz_b78d9f65b9 k51_18 e110 k51_15 e107 | omega) (show 6 * (cf86 48).toInt ≤ 6 * (cf 48).toInt + (w1 + (w2 - (wr_51 - wv75))) from by first | exact oz_b9f1b5d567 k51_13 e105 | omega) (show (cf 54).toInt ≤ (cf86 54).toInt from by first | exact oz_be764f19f0 k51_14 e106 | omega) (show (cf 42).toInt ≤ (cf86 42).toInt from by first | exact oz_be764f19f0 k51_15 e107 | omega) (show (cf86 54).toInt - (cf 54).toInt ≤ 4 * ((cf86 42).toInt - (cf 42).toInt) from by first | exact oz_7f5bac6b34 k51_16 e108 | omega) (show (cf86 54).toInt - (cf 54).toInt ≤ 4096 * ((cf86 48).toInt - (cf 48).toInt) from by first | exact oz_f877ead219 k51_17 e109 | omega) (show (cf86 42).toInt - (cf 42).toInt ≤ 4096 * ((cf86 48).toInt - (cf 48).toInt) from by first | exact oz_f877ead219 k51_18 e110 | omega) (show KnT (tf 6).toInt ca87 (cf86 33).toInt from (KnT.eq hkt (by omega))) (show KnS ca87 (cf86 33).toInt (cf86 48).toInt ys from (KnS.eq hks (by omega) (by omega))) (show CaG ca ca87 (cf 33).toInt (cf 48).toInt from (hcg.le (by omega) (by omega))) (show SyR ca87 ys (cf86 48).toInt (cf86 54).toInt tx from (SyR.eq hsr (by omega) (by omega))) (show Ann na ma0 ma85 from han) (show FrC lo hi ma ma85 from hfc) (show (cf86 37).toInt = (cf 33).toInt from by first | exact oz_1687f4cc65 k51_25 e92 | omega) (show (cf86 45).toInt = (cf 45).toInt + 1 from by first | exact oz_d71c8747a8 k51_26 e96 | omega) (show x51_2.toInt = (cf 33).toInt from by first | exact k51_27 | omega) (show x51_3.toInt = (cf 37).toInt from by first | exact k51_28 | omega) (show 0 ≤ x51_4.toInt from by first | exact k51_29 | omega) (show x51_4.toInt ≤ 1 from by first | exact k51_30 | omega) (show m1 ≤ md74 from by omega) (show md74 ≤ hi from by first | exact hm2_md74 | omega) (show 0 ≤ (wr_51 - wv75) from by omega) (show (wr_51 - wv75) ≤ w2 from by first | exact oz_c50697fa88 k51_34 e105 e104 | omega) (show 0 ≤ (cnt_51 + 1) from by first | exact oz_c12c169b81 k51_35 | omega) (show ZTe cf86 ta ca87 na ma0 (cf86 48).toInt ys nf ma85 (p0.toInt + 1) m1 (na 17 p0.toNatClampNeg) 0 from (ZTe.to hka (fun q => by omega) (by omega) (Int.le_refl _) (Int.le_refl _) rfl)) (show RvS ta (tf 6).toInt na ma0 d md74 hi (wr_51 - wv75) z119 from (by rw [ez119]; exact hrs2)) (show RlD na (ma0 18 p0.toNatClampNeg) z119 (cnt_51 + 1) from (RlD.nx hrd (by omega) (by omega) (by omega) ez119 (by omega))) (show ZTs cf86 ta ca87 na ma0 (cf86 48).toInt ys nf ma85 m1 md74 (ma0 18 p0.toNatClampNeg) z119 (if tgv (cf 44).toInt (cf 45).toInt = 4 then 4 else 3) from (ZTs.nx (ZTs.to hzts (fun q => by omega) (by omega) (Int.le_refl _) (by omega) rfl) (ZTe.to hts_x51_5 (fun q => by omega) (by omega) (by omega) (Int.le_refl _) rfl) (by omega) ez119)) (show K_mp_checkSwitch_51 (RL_mp_checkStatement d) tf ta na p0 ma cf ca ma85 cf86 ca87 x51_2 x51_3 x51_4 z119 from (fun y_f0 y_f1 y_f2 k hE => k51_40 y_f0 y_f1 y_f2 (k + 1) (Or.inr (Or.inl ⟨rfl, x51_2, x51_3, x51_4, x51_5, rfl, rfl, rfl, rfl, rfl, Or.inr ⟨nc47, z76, ez76, Or.inl ⟨nc77, z79, ez79, Or.inl ⟨nc80, ma85, cf86, ca87, e118, z119, ez119, hE⟩⟩⟩⟩)))) (show hi - md74 < (n_51 : Int) from by omega) hw (lv_sub hl [1, 2, 3, 4, 5, 0] rfl)
          · have nc80 : z79.toInt = (30 : Int) := (i_eq (x := z79) (y := 30)).mp c80
            refine lv_iload S.x S.b d_Mpg_checkSwitch_211 (lv_at hl 4 rfl) ?_
            refine lv_if_eq (tgt := 229) S.x S.b d_Mpg_checkSwitch_213 (by decide) (fun c120 => ?_) (fun c120 => ?_)
            · have nc120 : x51_4.toInt = (0 : Int) := (i_eq (x := x51_4) (y := 0)).mp c120
              refine lv_iconst (v := 1) S.x S.b d_Mpg_checkSwitch_229 (by decide) ?_
              refine lv_istore (lv' := [(4, .int 1), (0, .ref h), (1, .int p0), (2, .int x51_2), (3, .int x51_3), (5, .int x51_5)]) S.x S.b d_Mpg_checkSwitch_230 hl (by decide) rfl (fun ls hl => ?_)
              refine lv_goto (tgt := 241) S.x S.b d_Mpg_checkSwitch_232 (by decide) ?_
              refine lv_aload_n S.x S.b d_Mpg_checkSwitch_241 rfl (lv_at hl 1 rfl) ?_
              refine px_get S k_Mpg hT hw 0 0 21 (v := .ref (r 21)) rfl rfl rfl (by decide) m10_7 d_Mpg_checkSwitch_242 ?_
              refine lv_iload S.x S.b d_Mpg_checkSwitch_245 (lv_at hl 5 rfl) ?_
              refine px_iald S hT hw 0 17 (n := 2100) (f := (na 21)) rfl gp_21 (x := x51_5) (vp_in_iff.mpr (by constructor <;> omega)) d_Mpg_checkSwitch_247 ?_
              refine lv_topi (fun z122 ez122 => ?_)
              have lz122 := Int32.le_toInt z122
              have uz122 := Int32.toInt_lt z122
              refine lv_istore (lv' := [(5, .int z122), (4, .int 1), (0, .ref h), (1, .int p0), (2, .int x51_2), (3, .int x51_3)]) S.x S.b d_Mpg_checkSwitch_248 hl (by decide) rfl (fun ls hl => ?_)
              refine lv_goto (tgt := 51) S.x S.b d_Mpg_checkSwitch_250 (by decide) ?_
              exact ih51 ma_51 cf_51 ca_51 md74 (wr_51 - wv75) (cnt_51 + 1) x51_2 x51_3 (1 : Int32) z122 _ _ ls (show (cf_51 30).toInt = 0 → (cf 30).toInt = 0 from by first | exact k51_0 | omega) (show WrV cf_51 (tf 6).toInt from hwr) (show (cf_51 38).toInt = (cf 38).toInt from by first | exact k51_2 | omega) (show (cf_51 43).toInt = (cf 43).toInt from by first | exact k51_3 | omega) (show (cf_51 44).toInt = (cf 44).toInt from by first | exact k51_4 | omega) (show (cf_51 46).toInt = (cf 46).toInt from by first | exact k51_5 | omega) (show (cf_51 47).toInt = (cf 47).toInt from by first | exact k51_6 | omega) (show (cf_51 41).toInt = (cf 41).toInt from by first | exact k51_7 | omega) (show (cf_51 55).toInt = (cf 55).toInt from by first | exact k51_8 | omega) (show (cf_51 59).toInt = (cf 59).toInt from by first | exact k51_9 | omega) (show (cf 33).toInt ≤ (cf_51 33).toInt from by first | exact k51_10 | omega) (show 6 * (cf_51 33).toInt ≤ 6 * (cf 33).toInt + (w1 + (w2 - (wr_51 - wv75))) from by omega) (show (cf 48).toInt ≤ (cf_51 48).toInt from by first | exact k51_12 | omega) (show 6 * (cf_51 48).toInt ≤ 6 * (cf 48).toInt + (w1 + (w2 - (wr_51 - wv75))) from by omega) (show (cf 54).toInt ≤ (cf_51 54).toInt from by first | exact k51_14 | omega) (show (cf 42).toInt ≤ (cf_51 42).toInt from by first | exact k51_15 | omega) (show (cf_51 54).toInt - (cf 54).toInt ≤ 4 * ((cf_51 42).toInt - (cf 42).toInt) from by first | exact k51_16 | omega) (show (cf_51 54).toInt - (cf 54).toInt ≤ 4096 * ((cf_51 48).toInt - (cf 48).toInt) from by first | exact k51_17 | omega) (show (cf_51 42).toInt - (cf 42).toInt ≤ 4096 * ((cf_51 48).toInt - (cf 48).toInt) from by first | exact k51_18 | omega) (show KnT (tf 6).toInt ca_51 (cf_51 33).toInt from (KnT.eq hkt (by omega))) (show KnS ca_51 (cf_51 33).toInt (cf_51 48).toInt ys from (KnS.eq hks (by omega) (by omega))) (show CaG ca ca_51 (cf 33).toInt (cf 48).toInt from (hcg.le (by omega) (by omega))) (show SyR ca_51 ys (cf_51 48).toInt (cf_51 54).toInt tx from (SyR.eq hsr (by omega) (by omega))) (show Ann na ma0 ma_51 from han) (show FrC lo hi ma ma_51 from hfc) (show (cf_51 37).toInt = (cf 33).toInt from by first | exact k51_25 | omega) (show (cf_51 45).toInt = (cf 45).toInt + 1 from by first | exact k51_26 | omega) (show x51_2.toInt = (cf 33).toInt from by first | exact k51_27 | omega) (show x51_3.toInt = (cf 37).toInt from by first | exact k51_28 | omega) (show 0 ≤ (1 : Int) from by first | exact oz_19c3a41681 | omega) (show (1 : Int) ≤ 1 from by first | exact oz_f9181dc4bb | omega) (show m1 ≤ md74 from by omega) (show md74 ≤ hi from by first | exact hm2_md74 | omega) (show 0 ≤ (wr_51 - wv75) from by omega) (show (wr_51 - wv75) ≤ w2 from by omega) (show 0 ≤ (cnt_51 + 1) from by first | exact oz_c12c169b81 k51_35 | omega) (show ZTe cf_51 ta ca_51 na ma0 (cf_51 48).toInt ys nf ma_51 (p0.toInt + 1) m1 (na 17 p0.toNatClampNeg) 0 from (ZTe.to hka (fun q => by omega) (by omega) (Int.le_refl _) (Int.le_refl _) rfl)) (show RvS ta (tf 6).toInt na ma0 d md74 hi (wr_51 - wv75) z122 from (by rw [ez122]; exact hrs2)) (show RlD na (ma0 18 p0.toNatClampNeg) z122 (cnt_51 + 1) from (RlD.nx hrd (by omega) (by omega) (by omega) ez122 (by omega))) (show ZTs cf_51 ta ca_51 na ma0 (cf_51 48).toInt ys nf ma_51 m1 md74 (ma0 18 p0.toNatClampNeg) z122 (if tgv (cf 44).toInt (cf 45).toInt = 4 then 4 else 3) from (ZTs.nx (ZTs.to hzts (fun q => by omega) (by omega) (Int.le_refl _) (by omega) rfl) (show ZTe cf_51 ta ca_51 na ma0 (cf_51 48).toInt ys nf ma_51 m1 md74 x51_5 (if tgv (cf 44).toInt (cf 45).toInt = 4 then 4 else 3) from fun zz => tys_0 ⟨by omega, by omega, by omega⟩ tsw_rng (by omega)) (by omega) ez122)) (show K_mp_checkSwitch_51 (RL_mp_checkStatement d) tf ta na p0 ma cf ca ma_51 cf_51 ca_51 x51_2 x51_3 1 z122 from (fun y_f0 y_f1 y_f2 k hE => k51_40 y_f0 y_f1 y_f2 (k + 1) (Or.inr (Or.inl ⟨rfl, x51_2, x51_3, x51_4, x51_5, rfl, rfl, rfl, rfl, rfl, Or.inr ⟨nc47, z76, ez76, Or.inl ⟨nc77, z79, ez79, Or.inr ⟨nc80, Or.inl ⟨nc120, z122, ez122, hE⟩⟩⟩⟩⟩)))) (show hi - md74 < (n_51 : Int) from by omega) hw (lv_sub hl [2, 3, 4, 5, 1, 0] rfl)
            · have nc120 : ¬ x51_4.toInt = (0 : Int) := mt (i_eq (x := x51_4) (y := 0)).mpr c120
              refine lv_aload_n S.x S.b d_Mpg_checkSwitch_216 rfl (lv_at hl 0 rfl) ?_
              refine lv_bipush (v := 10) S.x S.b d_Mpg_checkSwitch_217 (by decide) ?_
              refine lv_aload_n S.x S.b d_Mpg_checkSwitch_219 rfl (lv_at hl 0 rfl) ?_
              refine px_get S k_Mpg hT hw 0 0 15 (v := .ref (r 15)) rfl rfl rfl (by decide) m9_239 d_Mpg_checkSwitch_220 ?_
              refine lv_iload S.x S.b d_Mpg_checkSwitch_223 (lv_at hl 5 rfl) ?_
              refine px_iald S hT hw 0 11 (n := 2100) (f := (na 15)) rfl gp_15 (x := x51_5) (vp_in_iff.mpr (by constructor <;> omega)) d_Mpg_checkSwitch_225 ?_
              refine lv_topi (fun z123 ez123 => ?_)
              have lz123 := Int32.le_toInt z123
              have uz123 := Int32.toInt_lt z123
              have rz123 : z123.toInt = (na 15 x51_5.toNatClampNeg).toInt := by rw [ez123]
              refine px_callv (pr := []) (px_runV (As := [.int 10, .int z123]) (rest := []) S (c_mp_bad l D cs h r g tf ta pf na ma_51 wa ca_51 ef ea xf xa cf_51 10 z123  (show 1 ≤ (10 : Int) from by first | exact oz_9dc6140a65 | omega) (show 0 ≤ z123.toInt from by omega) (show z123.toInt < (tf 6).toInt from by omega) htk hwr _) hT (pr := []) (pcs := [wdP cs h r g tf ta pf na ma_51 wa cf_51 ca_51 ef ea xf xa]) hw px_X.tt (px_recv hT hw 0 0 rfl rfl rfl) m12_173 m12_170 m12_172 ms_11_12 m1_21 q_Mpg_bad ⟨show 0 + 1 ≤ (6 * d + 29) from (by first | exact oz_cfa904bb27 | omega), show 8 + (3 + 11) + 0 ≤ (260 * d + 1020) from (by first | exact oz_480c6b4fdb | omega)⟩ hl.1 rfl (Nat.le_of_ble_eq_true rfl) d_Mpg_checkSwitch_226 ⟨Nat.le_of_ble_eq_true rfl, Nat.le_of_ble_eq_true rfl⟩) hw hA (fun p126 H locs hp126 hw => ?_)
              obtain ⟨cf125, rfl, e128, e129, e130, e131, e132, e133, e134, e135, e136, e137, e138, e139, e140, e141, e142, e143, e144, e145, e146, e147⟩ := hp126
              have e128 : KpE cf_51 cf125 := e128
              have hkz_e128 := e128.2
              have e129 : WrV cf125 (tf 6).toInt := e129
              have hwr := e129
              have hw0_e129 := hwr.1
              have e130 : 1 ≤ (cf125 30).toInt := e130
              have e131 : (cf125 33).toInt = (cf_51 33).toInt := e131
              have e132 : (cf125 38).toInt = (cf_51 38).toInt := e132
              have e133 : (cf125 48).toInt = (cf_51 48).toInt := e133
              have e134 : (cf125 46).toInt = (cf_51 46).toInt := e134
              have e135 : (cf125 47).toInt = (cf_51 47).toInt := e135
              have e136 : (cf125 57).toInt = (cf_51 57).toInt := e136
              have e137 : (cf125 37).toInt = (cf_51 37).toInt := e137
              have e138 : (cf125 42).toInt = (cf_51 42).toInt := e138
              have e139 : (cf125 43).toInt = (cf_51 43).toInt := e139
              have e140 : (cf125 44).toInt = (cf_51 44).toInt := e140
              have e141 : (cf125 45).toInt = (cf_51 45).toInt := e141
              have e142 : (cf125 54).toInt = (cf_51 54).toInt := e142
              have e143 : (cf125 55).toInt = (cf_51 55).toInt := e143
              have e144 : (cf125 58).toInt = (cf_51 58).toInt := e144
              have e145 : (cf125 59).toInt = (cf_51 59).toInt := e145
              have e146 : (cf125 41).toInt = (cf_51 41).toInt := e146
              have e147 : R_mp_bad (10 : Int32) z123 cf_51 cf125 := e147
              have hka : ZTe cf125 ta ca_51 na ma0 (cf125 48).toInt ys nf ma_51 (p0.toInt + 1) m1 (na 17 p0.toNatClampNeg) 0 := ZTe.to hka (fun q => by omega) (by omega) (Int.le_refl _) (Int.le_refl _) rfl
              have hzts : ZTs cf125 ta ca_51 na ma0 (cf125 48).toInt ys nf ma_51 m1 mid_51 (ma0 18 p0.toNatClampNeg) x51_5 (if tgv (cf 44).toInt (cf 45).toInt = 4 then 4 else 3) := ZTs.to hzts (fun q => by omega) (by omega) (Int.le_refl _) (Int.le_refl _) rfl
              have hw : pw D A s.heap H locs [wdP cs h r g tf ta pf na ma_51 wa cf125 ca_51 ef ea xf xa] := hw
              refine lv_iconst (v := 1) S.x S.b d_Mpg_checkSwitch_229 (by decide) ?_
              refine lv_istore (lv' := [(4, .int 1), (0, .ref h), (1, .int p0), (2, .int x51_2), (3, .int x51_3), (5, .int x51_5)]) S.x S.b d_Mpg_checkSwitch_230 hl (by decide) rfl (fun ls hl => ?_)
              refine lv_goto (tgt := 241) S.x S.b d_Mpg_checkSwitch_232 (by decide) ?_
              refine lv_aload_n S.x S.b d_Mpg_checkSwitch_241 rfl (lv_at hl 1 rfl) ?_
              refine px_get S k_Mpg hT hw 0 0 21 (v := .ref (r 21)) rfl rfl rfl (by decide) m10_7 d_Mpg_checkSwitch_242 ?_
              refine lv_iload S.x S.b d_Mpg_checkSwitch_245 (lv_at hl 5 rfl) ?_
              refine px_iald S hT hw 0 17 (n := 2100) (f := (na 21)) rfl gp_21 (x := x51_5) (vp_in_iff.mpr (by constructor <;> omega)) d_Mpg_checkSwitch_247 ?_
              refine lv_topi (fun z148 ez148 => ?_)
              have lz148 := Int32.le_toInt z148
              have uz148 := Int32.toInt_lt z148
              refine lv_istore (lv' := [(5, .int z148), (4, .int 1), (0, .ref h), (1, .int p0), (2, .int x51_2), (3, .int x51_3)]) S.x S.b d_Mpg_checkSwitch_248 hl (by decide) rfl (fun ls hl => ?_)
              refine lv_goto (tgt := 51) S.x S.b d_Mpg_checkSwitch_250 (by decide) ?_
              exact ih51 ma_51 cf125 ca_51 md74 (wr_51 - wv75) (cnt_51 + 1) x51_2 x51_3 (1 : Int32) z148 _ _ ls (show (cf125 30).toInt = 0 → (cf 30).toInt = 0 from by omega) (show WrV cf125 (tf 6).toInt from hwr) (show (cf125 38).toInt = (cf 38).toInt from by first | exact oz_1687f4cc65 k51_2 e132 | omega) (show (cf125 43).toInt = (cf 43).toInt from by first | exact oz_1687f4cc65 k51_3 e139 | omega) (show (cf125 44).toInt = (cf 44).toInt from by first | exact oz_1687f4cc65 k51_4 e140 | omega) (show (cf125 46).toInt = (cf 46).toInt from by first | exact oz_1687f4cc65 k51_5 e134 | omega) (show (cf125 47).toInt = (cf 47).toInt from by first | exact oz_1687f4cc65 k51_6 e135 | omega) (show (cf125 41).toInt = (cf 41).toInt from by first | exact oz_1687f4cc65 k51_7 e146 | omega) (show (cf125 55).toInt = (cf 55).toInt from by first | exact oz_1687f4cc65 k51_8 e143 | omega) (show (cf125 59).toInt = (cf 59).toInt from by first | exact oz_1687f4cc65 k51_9 e145 | omega) (show (cf 33).toInt ≤ (cf125 33).toInt from by first | exact oz_b1a9dcfb4c k51_10 e131 | omega) (show 6 * (cf125 33).toInt ≤ 6 * (cf 33).toInt + (w1 + (w2 - (wr_51 - wv75))) from by omega) (show (cf 48).toInt ≤ (cf125 48).toInt from by first | exact oz_73dc218776 k51_18 e133 k51_14 k51_16 | omega) (show 6 * (cf125 48).toInt ≤ 6 * (cf 48).toInt + (w1 + (w2 - (wr_51 - wv75))) from by omega) (show (cf 54).toInt ≤ (cf125 54).toInt from by first | exact oz_b1a9dcfb4c k51_14 e142 | omega) (show (cf 42).toInt ≤ (cf125 42).toInt from by first | exact oz_94ff7ee8ed k51_16 e138 k51_14 | omega) (show (cf125 54).toInt - (cf 54).toInt ≤ 4 * ((cf125 42).toInt - (cf 42).toInt) from by first | exact oz_4001d13b45 k51_16 e138 e142 | omega) (show (cf125 54).toInt - (cf 54).toInt ≤ 4096 * ((cf125 48).toInt - (cf 48).toInt) from by first | exact oz_761fc723f5 k51_17 e133 e142 | omega) (show (cf125 42).toInt - (cf 42).toInt ≤ 4096 * ((cf125 48).toInt - (cf 48).toInt) from by first | exact oz_761fc723f5 k51_18 e133 e138 | omega) (show KnT (tf 6).toInt ca_51 (cf125 33).toInt from (KnT.eq hkt (by omega))) (show KnS ca_51 (cf125 33).toInt (cf125 48).toInt ys from (KnS.eq hks (by omega) (by omega))) (show CaG ca ca_51 (cf 33).toInt (cf 48).toInt from (hcg.le (by omega) (by omega))) (show SyR ca_51 ys (cf125 48).toInt (cf125 54).toInt tx from (SyR.eq hsr (by omega) (by omega))) (show Ann na ma0 ma_51 from han) (show FrC lo hi ma ma_51 from hfc) (show (cf125 37).toInt = (cf 33).toInt from by first | exact oz_1687f4cc65 k51_25 e137 | omega) (show (cf125 45).toInt = (cf 45).toInt + 1 from by first | exact oz_d71c8747a8 k51_26 e141 | omega) (show x51_2.toInt = (cf 33).toInt from by first | exact k51_27 | omega) (show x51_3.toInt = (cf 37).toInt from by first | exact k51_28 | omega) (show 0 ≤ (1 : Int) from by first | exact oz_19c3a41681 | omega) (show (1 : Int) ≤ 1 from by first | exact oz_f9181dc4bb | omega) (show m1 ≤ md74 from by omega) (show md74 ≤ hi from by first | exact hm2_md74 | omega) (show 0 ≤ (wr_51 - wv75) from by omega) (show (wr_51 - wv75) ≤ w2 from by omega) (show 0 ≤ (cnt_51 + 1) from by first | exact oz_c12c169b81 k51_35 | omega) (show ZTe cf125 ta ca_51 na ma0 (cf125 48).toInt ys nf ma_51 (p0.toInt + 1) m1 (na 17 p0.toNatClampNeg) 0 from (ZTe.to hka (fun q => by omega) (by omega) (Int.le_refl _) (Int.le_refl _) rfl)) (show RvS ta (tf 6).toInt na ma0 d md74 hi (wr_51 - wv75) z148 from (by rw [ez148]; exact hrs2)) (show RlD na (ma0 18 p0.toNatClampNeg) z148 (cnt_51 + 1) from (RlD.nx hrd (by omega) (by omega) (by omega) ez148 (by omega))) (show ZTs cf125 ta ca_51 na ma0 (cf125 48).toInt ys nf ma_51 m1 md74 (ma0 18 p0.toNatClampNeg) z148 (if tgv (cf 44).toInt (cf 45).toInt = 4 then 4 else 3) from (ZTs.nx (ZTs.to hzts (fun q => by omega) (by omega) (Int.le_refl _) (by omega) rfl) (show ZTe cf125 ta ca_51 na ma0 (cf125 48).toInt ys nf ma_51 m1 md74 x51_5 (if tgv (cf 44).toInt (cf 45).toInt = 4 then 4 else 3) from fun zz => tys_0 ⟨by omega, by omega, by omega⟩ tsw_rng (by omega)) (by omega) ez148)) (show K_mp_checkSwitch_51 (RL_mp_checkStatement d) tf ta na p0 ma cf ca ma_51 cf125 ca_51 x51_2 x51_3 1 z148 from (fun y_f0 y_f1 y_f2 k hE => k51_40 y_f0 y_f1 y_f2 (k + 1) (Or.inr (Or.inl ⟨rfl, x51_2, x51_3, x51_4, x51_5, rfl, rfl, rfl, rfl, rfl, Or.inr ⟨nc47, z76, ez76, Or.inl ⟨nc77, z79, ez79, Or.inr ⟨nc80, Or.inr ⟨nc120, z123, ez123, cf125, e147, z148, ez148, hE⟩⟩⟩⟩⟩)))) (show hi - md74 < (n_51 : Int) from by omega) hw (lv_sub hl [2, 3, 4, 5, 1, 0] rfl)
        · have nc77 : z76.toInt = (29 : Int) := (i_eq (x := z76) (y := 29)).mp c77
          refine lv_aload_n S.x S.b d_Mpg_checkSwitch_68 rfl (lv_at hl 0 rfl) ?_
          refine px_get S k_Mpg hT hw 0 0 22 (v := .ref (r 22)) rfl rfl rfl (by decide) m10_9 d_Mpg_checkSwitch_69 ?_
          refine lv_iload S.x S.b d_Mpg_checkSwitch_72 (lv_at hl 5 rfl) ?_
          refine lv_aload_n S.x S.b d_Mpg_checkSwitch_74 rfl (lv_at hl 0 rfl) ?_
          refine lv_aload_n S.x S.b d_Mpg_checkSwitch_75 rfl (lv_at hl 0 rfl) ?_
          refine px_get S k_Mpg hT hw 0 0 17 (v := .ref (r 17)) rfl rfl rfl (by decide) m10_1 d_Mpg_checkSwitch_76 ?_
          refine lv_iload S.x S.b d_Mpg_checkSwitch_79 (lv_at hl 5 rfl) ?_
          refine px_iald S hT hw 0 13 (n := 2100) (f := (na 17)) rfl gp_17 (x := x51_5) (vp_in_iff.mpr (by constructor <;> omega)) d_Mpg_checkSwitch_81 ?_
          refine lv_topi (fun z149 ez149 => ?_)
          have lz149 := Int32.le_toInt z149
          have uz149 := Int32.toInt_lt z149
          have ha_z149 : z149 = na 17 x51_5.toNatClampNeg := ez149; have hn_z149 : z149.toInt = (na 17 x51_5.toNatClampNeg).toInt := (by rw [ha_z149]); have hev_z149 : ErV ta (tf 6).toInt na ma0 d (x51_5.toInt + 1) md74 (wv75 - 1) z149 := (by rw [ha_z149]; exact (ScV.t29 hsc_x51_5 (by omega) rfl)); obtain ⟨hec_z149, h20_z149, hw_z149⟩ := hev_z149.ec; have hrg_z149 := EcV.rng hec_z149
          refine px_calli (pr := []) (px_runV (As := [.int z149]) (rest := [.int x51_5, .ref (r 22)]) S (c_mp_checkConstant l D cs ma0 ys (cf_51 48).toInt nf (cf_51 33).toInt d (x51_5.toInt + 1) md74 h r g tf ta pf na wa ca_51 ef ea xf xa ma_51 cf_51 z149  (show 0 ≤ (x51_5.toInt + 1) from by first | exact oz_0073e084eb nc47 | omega) (show md74 ≤ (pf 13).toInt from by first | exact oz_bbb5b20c1a g1 hm2_md74 | omega) (show (pf 13).toInt ≤ 2100 from by first | exact g2 | omega) (show (tf 6).toInt ≤ 2049 from by first | exact g3 | omega) (show (cf_51 33).toInt = (cf_51 33).toInt from rfl) (show 0 ≤ (cf_51 33).toInt from by first | exact oz_16d7fa9f32 k51_10 g4 | omega) (show (cf_51 48).toInt = (cf_51 48).toInt from rfl) (show (cf_51 38).toInt = nf from by first | exact oz_1687f4cc65 g9 k51_2 | omega) (show 0 ≤ nf from by first | exact g10 | omega) (show 0 ≤ (cf_51 46).toInt from by first | exact oz_f3ebed1ad0 k51_5 g19 | omega) (show (cf_51 46).toInt ≤ 1 from by first | exact oz_878017becc k51_5 g20 | omega) (show 0 ≤ (cf_51 47).toInt from by first | exact oz_f3ebed1ad0 k51_6 g21 | omega) (show (cf_51 47).toInt ≤ 1 from by first | exact oz_878017becc k51_6 g22 | omega) htk (FsI.le (N' := (pf 13).toInt) hfs (by omega)) hwr (KnT.eq hkt (by omega)) (FnT.eq hft (by omega)) (KnS.eq hks (by omega) (by omega)) hfp han hec_z149 (by first | assumption | omega) _) hT (pr := []) (pcs := [wdP cs h r g tf ta pf na ma_51 wa cf_51 ca_51 ef ea xf xa]) hw (oX_call (P := (fun A U H => (oP A g U H))) (pr := []) oG_P hw hA hP) (px_recv hT hw 0 0 rfl rfl rfl) m12_237 m12_234 m12_236 ms_12_12 m1_21 q_Mpg_checkConstant ⟨show (4 * d + 18) + 1 ≤ (6 * d + 29) from (by first | exact oz_155d61c1c9 | omega), show 8 + (5 + 11) + (200 * d + 640) ≤ (260 * d + 1020) from (by first | exact oz_bcab61c671 | omega)⟩ hl.1 rfl (Nat.le_of_ble_eq_true rfl) d_Mpg_checkSwitch_82 ⟨Nat.le_of_ble_eq_true rfl, Nat.le_of_ble_eq_true rfl⟩) hw hA (fun v155 p154 H locs hp154 hw => ?_)
          obtain ⟨ma152, cf153, rfl, e156, e157, e158, e159, e160, e161, e162, e163, e164, e165, e166, e167⟩ := hp154
          have e156 : KpE cf_51 cf153 := e156
          have hkz_e156 := e156.2
          have hkk37_e156 : (cf153 37).toInt = (cf_51 37).toInt := (by rw [e156.1 37 (by decide) (by decide) (by decide) (by decide) (by decide)] <;> rfl)
          have hkk43_e156 : (cf153 43).toInt = (cf_51 43).toInt := (by rw [e156.1 43 (by decide) (by decide) (by decide) (by decide) (by decide)] <;> rfl)
          have hkk44_e156 : (cf153 44).toInt = (cf_51 44).toInt := (by rw [e156.1 44 (by decide) (by decide) (by decide) (by decide) (by decide)] <;> rfl)
          have hkk45_e156 : (cf153 45).toInt = (cf_51 45).toInt := (by rw [e156.1 45 (by decide) (by decide) (by decide) (by decide) (by decide)] <;> rfl)
          have hkk41_e156 : (cf153 41).toInt = (cf_51 41).toInt := (by rw [e156.1 41 (by decide) (by decide) (by decide) (by decide) (by decide)] <;> rfl)
          have hkk55_e156 : (cf153 55).toInt = (cf_51 55).toInt := (by rw [e156.1 55 (by decide) (by decide) (by decide) (by decide) (by decide)] <;> rfl)
          have hkk59_e156 : (cf153 59).toInt = (cf_51 59).toInt := (by rw [e156.1 59 (by decide) (by decide) (by decide) (by decide) (by decide)] <;> rfl)
          have hkk42_e156 : (cf153 42).toInt = (cf_51 42).toInt := (by rw [e156.1 42 (by decide) (by decide) (by decide) (by decide) (by decide)] <;> rfl)
          have hkk54_e156 : (cf153 54).toInt = (cf_51 54).toInt := (by rw [e156.1 54 (by decide) (by decide) (by decide) (by decide) (by decide)] <;> rfl)
          have hkk58_e156 : (cf153 58).toInt = (cf_51 58).toInt := (by rw [e156.1 58 (by decide) (by decide) (by decide) (by decide) (by decide)] <;> rfl)
          have e157 : WrV cf153 (tf 6).toInt := e157
          have hwr := e157
          have hw0_e157 := hwr.1
          have e158 : (cf153 33).toInt = (cf_51 33).toInt := e158
          have e159 : (cf153 38).toInt = (cf_51 38).toInt := e159
          have e160 : (cf153 48).toInt = (cf_51 48).toInt := e160
          have e161 : (cf153 46).toInt = (cf_51 46).toInt := e161
          have e162 : (cf153 47).toInt = (cf_51 47).toInt := e162
          have e163 : Ann na ma0 ma152 := e163
          have han := e163
          have e164 : FrC (x51_5.toInt + 1) md74 ma_51 ma152 := e164
          have hfc := hfc.tr e164 (by omega) (by omega)
          have hka : ZTe cf153 ta ca_51 na ma0 (cf153 48).toInt ys nf ma152 (p0.toInt + 1) m1 (na 17 p0.toNatClampNeg) 0 := ZTe.tr hka (fun q => by omega) e164 (by omega) (CaG.rf (kn := 0) (ns := 5000)) (by omega) (by omega)
          have hzts : ZTs cf153 ta ca_51 na ma0 (cf153 48).toInt ys nf ma152 m1 mid_51 (ma0 18 p0.toNatClampNeg) x51_5 (if tgv (cf 44).toInt (cf 45).toInt = 4 then 4 else 3) := ZTs.tr hzts (fun q => by omega) e164 (by omega) (CaG.rf (kn := 0) (ns := 5000)) (by omega) (by omega)
          have e165 := z_rng e165
          have e166 : v155.toInt = 0 → 1 ≤ (cf153 30).toInt := e166
          have e167 : R_mp_checkConstant tf ta na ca_51 z149 ma_51 cf_51 ma152 cf153 v155 := e167
          have hw : pw D A s.heap H locs [wdP cs h r g tf ta pf na ma152 wa cf153 ca_51 ef ea xf xa] := hw
          have lv155 := Int32.le_toInt v155
          have uv155 := Int32.toInt_lt v155
          refine lv_if_eq (tgt := 92) S.x S.b d_Mpg_checkSwitch_85 (by decide) (fun c168 => ?_) (fun c168 => ?_)
          · have nc168 : v155.toInt = (0 : Int) := (i_eq (x := v155) (y := 0)).mp c168
            refine lv_iconst (v := 0) S.x S.b d_Mpg_checkSwitch_92 (by decide) ?_
            refine px_iast S hT hw 0 18 (n := 2100) (f := (ma152 22)) (x := x51_5) (y := 0) rfl gp_22 (vp_in_iff.mpr (by constructor <;> omega)) d_Mpg_checkSwitch_93 (w' := wdP cs h r g tf ta pf na (va_up ma152 22 (upd (ma152 22) x51_5.toNatClampNeg 0)) wa cf153 ca_51 ef ea xf xa) (ps' := [wdP cs h r g tf ta pf na (va_up ma152 22 (upd (ma152 22) x51_5.toNatClampNeg 0)) wa cf153 ca_51 ef ea xf xa]) sp_22 rfl (fun H locs hw => ?_)
            obtain ⟨ma170, hu_ma170⟩ : ∃ y : Nat → Nat → Int32, y = va_up ma152 22 (upd (ma152 22) x51_5.toNatClampNeg 0) := ⟨_, rfl⟩
            have hw : pw D A s.heap _ _ [wdP cs h r g tf ta pf na ma170 wa cf153 ca_51 ef ea xf xa] := (by rw [hu_ma170]; exact hw)
            have hf1_ma170 : FrC x51_5.toInt (x51_5.toInt + 1) ma152 ma170 := (by rw [hu_ma170]; exact FrC.w FrC.rf (by omega) (by omega) (by omega))
            have han : Ann na ma0 ma170 := (by rw [hu_ma170]; exact Ann.w22 han (by omega))
            have hfc := hfc.tr hf1_ma170 (by omega) (by omega)
            have hka : ZTe cf153 ta ca_51 na ma0 (cf153 48).toInt ys nf ma170 (p0.toInt + 1) m1 (na 17 p0.toNatClampNeg) 0 := ZTe.tr hka (fun q => by omega) hf1_ma170 (by omega) (CaG.rf (kn := 0) (ns := 5000)) (by omega) (by omega)
            have hzts : ZTs cf153 ta ca_51 na ma0 (cf153 48).toInt ys nf ma170 m1 mid_51 (ma0 18 p0.toNatClampNeg) x51_5 (if tgv (cf 44).toInt (cf 45).toInt = 4 then 4 else 3) := ZTs.tr hzts (fun q => by omega) hf1_ma170 (by omega) (CaG.rf (kn := 0) (ns := 5000)) (by omega) (by omega)
            have hv_22_x51_5 : ma170 22 x51_5.toNatClampNeg = (0 : Int32) := (by rw [hu_ma170, va_up_s, pk_us])
            have hnhv_22_x51_5 : (ma170 22 x51_5.toNatClampNeg).toInt = (0 : Int) := (by rw [hv_22_x51_5]; rfl)
            refine lv_aload_n S.x S.b d_Mpg_checkSwitch_94 rfl (lv_at hl 0 rfl) ?_
            refine px_get S k_Mpg hT hw 0 0 18 (v := .ref (r 18)) rfl rfl rfl (by decide) m10_3 d_Mpg_checkSwitch_95 ?_
            refine lv_iload S.x S.b d_Mpg_checkSwitch_98 (lv_at hl 5 rfl) ?_
            refine lv_aload_n S.x S.b d_Mpg_checkSwitch_100 rfl (lv_at hl 0 rfl) ?_
            refine px_get S k_Mpg hT hw 0 0 57 (v := .int (cf153 57)) rfl rfl rfl (by decide) m10_54 d_Mpg_checkSwitch_101 ?_
            refine px_iast S hT hw 0 14 (n := 2100) (f := (ma170 18)) (x := x51_5) (y := (cf153 57)) rfl gp_18 (vp_in_iff.mpr (by constructor <;> omega)) d_Mpg_checkSwitch_104 (w' := wdP cs h r g tf ta pf na (va_up ma170 18 (upd (ma170 18) x51_5.toNatClampNeg (cf153 57))) wa cf153 ca_51 ef ea xf xa) (ps' := [wdP cs h r g tf ta pf na (va_up ma170 18 (upd (ma170 18) x51_5.toNatClampNeg (cf153 57))) wa cf153 ca_51 ef ea xf xa]) sp_18 rfl (fun H locs hw => ?_)
            obtain ⟨ma171, hu_ma171⟩ : ∃ y : Nat → Nat → Int32, y = va_up ma170 18 (upd (ma170 18) x51_5.toNatClampNeg (cf153 57)) := ⟨_, rfl⟩
            have hw : pw D A s.heap _ _ [wdP cs h r g tf ta pf na ma171 wa cf153 ca_51 ef ea xf xa] := (by rw [hu_ma171]; exact hw)
            have hf1_ma171 : FrC x51_5.toInt (x51_5.toInt + 1) ma170 ma171 := (by rw [hu_ma171]; exact FrC.w FrC.rf (by omega) (by omega) (by omega))
            have han : Ann na ma0 ma171 := (by rw [hu_ma171]; exact Ann.w18 han (by omega))
            have hfc := hfc.tr hf1_ma171 (by omega) (by omega)
            have hka : ZTe cf153 ta ca_51 na ma0 (cf153 48).toInt ys nf ma171 (p0.toInt + 1) m1 (na 17 p0.toNatClampNeg) 0 := ZTe.tr hka (fun q => by omega) hf1_ma171 (by omega) (CaG.rf (kn := 0) (ns := 5000)) (by omega) (by omega)
            have hzts : ZTs cf153 ta ca_51 na ma0 (cf153 48).toInt ys nf ma171 m1 mid_51 (ma0 18 p0.toNatClampNeg) x51_5 (if tgv (cf 44).toInt (cf 45).toInt = 4 then 4 else 3) := ZTs.tr hzts (fun q => by omega) hf1_ma171 (by omega) (CaG.rf (kn := 0) (ns := 5000)) (by omega) (by omega)
            have hqhv_22_x51_5 : (ma171 22 x51_5.toNatClampNeg).toInt = (ma170 22 x51_5.toNatClampNeg).toInt := (by rw [hu_ma171, va_up_n (by decide)])
            have hv_22_x51_5 := (show ma171 22 x51_5.toNatClampNeg = ma170 22 x51_5.toNatClampNeg by rw [hu_ma171, va_up_n (by decide)]).trans hv_22_x51_5
            have hv_18_x51_5 : ma171 18 x51_5.toNatClampNeg = (cf153 57) := (by rw [hu_ma171, va_up_s, pk_us])
            have hnhv_18_x51_5 : (ma171 18 x51_5.toNatClampNeg).toInt = (cf153 57).toInt := (by rw [hv_18_x51_5])
            refine lv_aload_n S.x S.b d_Mpg_checkSwitch_105 rfl (lv_at hl 0 rfl) ?_
            refine px_get S k_Mpg hT hw 0 0 18 (v := .ref (r 18)) rfl rfl rfl (by decide) m10_3 d_Mpg_checkSwitch_106 ?_
            refine lv_iload_n S.x S.b d_Mpg_checkSwitch_109 rfl (lv_at hl 1 rfl) ?_
            refine px_iald S hT hw 0 14 (n := 2100) (f := (ma171 18)) rfl gp_18 (x := p0) (vp_in_iff.mpr (by first | exact oz_a7e05de1cd hsr0.2.2.1 hsr0.2.1 g1 g2 | (constructor <;> omega))) d_Mpg_checkSwitch_110 ?_
            refine lv_topi (fun z172 ez172 => ?_)
            have lz172 := Int32.le_toInt z172
            have uz172 := Int32.toInt_lt z172
            have ha_z172 : z172 = ma0 18 p0.toNatClampNeg := ez172.trans (Ann.b18 han (by omega)); have hn_z172 : z172.toInt = (ma0 18 p0.toNatClampNeg).toInt := (by rw [ha_z172])
            refine lv_istore (lv' := [(6, .int z172), (0, .ref h), (1, .int p0), (2, .int x51_2), (3, .int x51_3), (4, .int x51_4), (5, .int x51_5)]) S.x S.b d_Mpg_checkSwitch_111 hl (by decide) rfl (fun ls hl => ?_)
            exact J113 ((cnt_51).toNat + 1) ma171 cf153 ca_51 mid_51 wr_51 cnt_51 md74 wv75 cnt_51 x51_2 x51_3 x51_4 x51_5 z172 _ _ ls (show (cf153 30).toInt = 0 → (cf 30).toInt = 0 from by omega) (show WrV cf153 (tf 6).toInt from hwr) (show (cf153 38).toInt = (cf 38).toInt from by first | exact oz_1687f4cc65 k51_2 e159 | omega) (show (cf153 43).toInt = (cf 43).toInt from by first | exact oz_1687f4cc65 k51_3 hkk43_e156 | omega) (show (cf153 44).toInt = (cf 44).toInt from by first | exact oz_1687f4cc65 k51_4 hkk44_e156 | omega) (show (cf153 46).toInt = (cf 46).toInt from by first | exact oz_1687f4cc65 k51_5 e161 | omega) (show (cf153 47).toInt = (cf 47).toInt from by first | exact oz_1687f4cc65 k51_6 e162 | omega) (show (cf153 41).toInt = (cf 41).toInt from by first | exact oz_1687f4cc65 k51_7 hkk41_e156 | omega) (show (cf153 55).toInt = (cf 55).toInt from by first | exact oz_1687f4cc65 k51_8 hkk55_e156 | omega) (show (cf153 59).toInt = (cf 59).toInt from by first | exact oz_1687f4cc65 k51_9 hkk59_e156 | omega) (show (cf 33).toInt ≤ (cf153 33).toInt from by first | exact oz_b1a9dcfb4c k51_10 e158 | omega) (show 6 * (cf153 33).toInt ≤ 6 * (cf 33).toInt + (w1 + (w2 - wr_51)) from by first | exact oz_838785b4c6 k51_11 e158 | omega) (show (cf 48).toInt ≤ (cf153 48).toInt from by first | exact oz_73dc218776 k51_18 e160 k51_14 k51_16 | omega) (show 6 * (cf153 48).toInt ≤ 6 * (cf 48).toInt + (w1 + (w2 - wr_51)) from by first | exact oz_838785b4c6 k51_13 e160 | omega) (show (cf 54).toInt ≤ (cf153 54).toInt from by first | exact oz_b1a9dcfb4c k51_14 hkk54_e156 | omega) (show (cf 42).toInt ≤ (cf153 42).toInt from by first | exact oz_94ff7ee8ed k51_16 hkk42_e156 k51_14 | omega) (show (cf153 54).toInt - (cf 54).toInt ≤ 4 * ((cf153 42).toInt - (cf 42).toInt) from by first | exact oz_4001d13b45 k51_16 hkk42_e156 hkk54_e156 | omega) (show (cf153 54).toInt - (cf 54).toInt ≤ 4096 * ((cf153 48).toInt - (cf 48).toInt) from by first | exact oz_761fc723f5 k51_17 e160 hkk54_e156 | omega) (show (cf153 42).toInt - (cf 42).toInt ≤ 4096 * ((cf153 48).toInt - (cf 48).toInt) from by first | exact oz_761fc723f5 k51_18 e160 hkk42_e156 | omega) (show KnT (tf 6).toInt ca_51 (cf153 33).toInt from (KnT.eq hkt (by omega))) (show KnS ca_51 (cf153 33).toInt (cf153 48).toInt ys from (KnS.eq hks (by omega) (by omega))) (show CaG ca ca_51 (cf 33).toInt (cf 48).toInt from (hcg.le (by omega) (by omega))) (show SyR ca_51 ys (cf153 48).toInt (cf153 54).toInt tx from (SyR.eq hsr (by omega) (by omega))) (show Ann na ma0 ma171 from han) (show FrC lo hi ma ma171 from hfc) (show (cf153 37).toInt = (cf 33).toInt from by first | exact oz_1687f4cc65 k51_25 hkk37_e156 | omega) (show (cf153 45).toInt = (cf 45).toInt + 1 from by first | exact oz_d71c8747a8 k51_26 hkk45_e156 | omega) (show x51_2.toInt = (cf 33).toInt from by first | exact k51_27 | omega) (show x51_3.toInt = (cf 37).toInt from by first | exact k51_28 | omega) (show 0 ≤ x51_4.toInt from by first | exact k51_29 | omega) (show x51_4.toInt ≤ 1 from by first | exact k51_30 | omega) (show m1 ≤ mid_51 from by first | exact k51_31 | omega) (show mid_51 ≤ hi from by first | exact k51_32 | omega) (show 0 ≤ wr_51 from by first | exact k51_33 | omega) (show wr_51 ≤ w2 from by first | exact k51_34 | omega) (show 0 ≤ cnt_51 from by first | exact k51_35 | omega) (show ZTe cf153 ta ca_51 na ma0 (cf153 48).toInt ys nf ma171 (p0.toInt + 1) m1 (na 17 p0.toNatClampNeg) 0 from (ZTe.to hka (fun q => by omega) (by omega) (Int.le_refl _) (Int.le_refl _) rfl)) (show mid_51 ≤ mid_51 from by first | exact oz_1cb5f934a5 | omega) (show 0 ≤ x51_5.toInt from by first | exact oz_18a5c06a28 nc47 | omega) (show x51_5.toInt < md74 from by omega) (show mid_51 ≤ x51_5.toInt from by omega) (show md74 ≤ hi from by first | exact hm2_md74 | omega) (show 0 ≤ wv75 from by first | exact hm3_md74 | omega) (show wv75 ≤ wr_51 from by omega) (show 0 ≤ cnt_51 from by first | exact k51_35 | omega) (show (na 14 x51_5.toNatClampNeg).toInt = 29 from by first | exact oz_8d9edf7b92 rz76 nc77 | omega) (show 0 ≤ (na 15 x51_5.toNatClampNeg).toInt from by omega) (show (na 15 x51_5.toNatClampNeg).toInt < (tf 6).toInt from by omega) (show RvS ta (tf 6).toInt na ma0 d md74 hi (wr_51 - wv75) (na 21 x51_5.toNatClampNeg) from hrs2) (show RlD na (ma0 18 p0.toNatClampNeg) x51_5 cnt_51 from hrd) (show RlE na z172 x51_5 cnt_51 from (by rw [ha_z172]; exact hrd)) (show ZTs cf153 ta ca_51 na ma0 (cf153 48).toInt ys nf ma171 m1 mid_51 (ma0 18 p0.toNatClampNeg) x51_5 (if tgv (cf 44).toInt (cf 45).toInt = 4 then 4 else 3) from (ZTs.to hzts (fun q => by omega) (by omega) (Int.le_refl _) (Int.le_refl _) rfl)) (show K_mp_checkSwitch_113 (RL_mp_checkStatement d) tf ta na p0 ma cf ca ma171 cf153 ca_51 x51_2 x51_3 x51_4 x51_5 z172 from (fun y_f0 y_f1 y_f2 k hE => k51_40 y_f0 y_f1 y_f2 (k + 1) (Or.inr (Or.inl ⟨rfl, x51_2, x51_3, x51_4, x51_5, rfl, rfl, rfl, rfl, rfl, Or.inr ⟨nc47, z76, ez76, Or.inr ⟨nc77, z149, ez149, ma152, cf153, v155, e167, Or.inl ⟨nc168, ma170, hu_ma170, ma171, hu_ma171, z172, ez172, hE⟩⟩⟩⟩)))) (show cnt_51 < ((((cnt_51).toNat + 1 : Nat) : Int) : Int) from by first | exact oz_natlt | omega) hw (lv_sub hl [1, 2, 3, 4, 5, 6, 0] rfl)
          · have nc168 : ¬ v155.toInt = (0 : Int) := mt (i_eq (x := v155) (y := 0)).mpr c168
            refine lv_iconst (v := 1) S.x S.b d_Mpg_checkSwitch_88 (by decide) ?_
            refine lv_goto (tgt := 93) S.x S.b d_Mpg_checkSwitch_89 (by decide) ?_
            refine px_iast S hT hw 0 18 (n := 2100) (f := (ma152 22)) (x := x51_5) (y := 1) rfl gp_22 (vp_in_iff.mpr (by constructor <;> omega)) d_Mpg_checkSwitch_93 (w' := wdP cs h r g tf ta pf na (va_up ma152 22 (upd (ma152 22) x51_5.toNatClampNeg 1)) wa cf153 ca_51 ef ea xf xa) (ps' := [wdP cs h r g tf ta pf na (va_up ma152 22 (upd (ma152 22) x51_5.toNatClampNeg 1)) wa cf153 ca_51 ef ea xf xa]) sp_22 rfl (fun H locs hw => ?_)
            obtain ⟨ma173, hu_ma173⟩ : ∃ y : Nat → Nat → Int32, y = va_up ma152 22 (upd (ma152 22) x51_5.toNatClampNeg 1) := ⟨_, rfl⟩
            have hw : pw D A s.heap _ _ [wdP cs h r g tf ta pf na ma173 wa cf153 ca_51 ef ea xf xa] := (by rw [hu_ma173]; exact hw)
            have hf1_ma173 : FrC x51_5.toInt (x51_5.toInt + 1) ma152 ma173 := (by rw [hu_ma173]; exact FrC.w FrC.rf (by omega) (by omega) (by omega))
            have han : Ann na ma0 ma173 := (by rw [hu_ma173]; exact Ann.w22 han (by omega))
            have hfc := hfc.tr hf1_ma173 (by omega) (by omega)
            have hka : ZTe cf153 ta ca_51 na ma0 (cf153 48).toInt ys nf ma173 (p0.toInt + 1) m1 (na 17 p0.toNatClampNeg) 0 := ZTe.tr hka (fun q => by omega) hf1_ma173 (by omega) (CaG.rf (kn := 0) (ns := 5000)) (by omega) (by omega)
            have hzts : ZTs cf153 ta ca_51 na ma0 (cf153 48).toInt ys nf ma173 m1 mid_51 (ma0 18 p0.toNatClampNeg) x51_5 (if tgv (cf 44).toInt (cf 45).toInt = 4 then 4 else 3) := ZTs.tr hzts (fun q => by omega) hf1_ma173 (by omega) (CaG.rf (kn := 0) (ns := 5000)) (by omega) (by omega)
            have hv_22_x51_5 : ma173 22 x51_5.toNatClampNeg = (1 : Int32) := (by rw [hu_ma173, va_up_s, pk_us])
            have hnhv_22_x51_5 : (ma173 22 x51_5.toNatClampNeg).toInt = (1 : Int) := (by rw [hv_22_x51_5]; rfl)
            refine lv_aload_n S.x S.b d_Mpg_checkSwitch_94 rfl (lv_at hl 0 rfl) ?_
            refine px_get S k_Mpg hT hw 0 0 18 (v := .ref (r 18)) rfl rfl rfl (by decide) m10_3 d_Mpg_checkSwitch_95 ?_
            refine lv_iload S.x S.b d_Mpg_checkSwitch_98 (lv_at hl 5 rfl) ?_
            refine lv_aload_n S.x S.b d_Mpg_checkSwitch_100 rfl (lv_at hl 0 rfl) ?_
            refine px_get S k_Mpg hT hw 0 0 57 (v := .int (cf153 57)) rfl rfl rfl (by decide) m10_54 d_Mpg_checkSwitch_101 ?_
            refine px_iast S hT hw 0 14 (n := 2100) (f := (ma173 18)) (x := x51_5) (y := (cf153 57)) rfl gp_18 (vp_in_iff.mpr (by constructor <;> omega)) d_Mpg_checkSwitch_104 (w' := wdP cs h r g tf ta pf na (va_up ma173 18 (upd (ma173 18) x51_5.toNatClampNeg (cf153 57))) wa cf153 ca_51 ef ea xf xa) (ps' := [wdP cs h r g tf ta pf na (va_up ma173 18 (upd (ma173 18) x51_5.toNatClampNeg (cf153 57))) wa cf153 ca_51 ef ea xf xa]) sp_18 rfl (fun H locs hw => ?_)
            obtain ⟨ma174, hu_ma174⟩ : ∃ y : Nat → Nat → Int32, y = va_up ma173 18 (upd (ma173 18) x51_5.toNatClampNeg (cf153 57)) := ⟨_, rfl⟩
            have hw : pw D A s.heap _ _ [wdP cs h r g tf ta pf na ma174 wa cf153 ca_51 ef ea xf xa] := (by rw [hu_ma174]; exact hw)
            have hf1_ma174 : FrC x51_5.toInt (x51_5.toInt + 1) ma173 ma174 := (by rw [hu_ma174]; exact FrC.w FrC.rf (by omega) (by omega) (by omega))
            have han : Ann na ma0 ma174 := (by rw [hu_ma174]; exact Ann.w18 han (by omega))
            have hfc := hfc.tr hf1_ma174 (by omega) (by omega)
            have hka : ZTe cf153 ta ca_51 na ma0 (cf153 48).toInt ys nf ma174 (p0.toInt + 1) m1 (na 17 p0.toNatClampNeg) 0 := ZTe.tr hka (fun q => by omega) hf1_ma174 (by omega) (CaG.rf (kn := 0) (ns := 5000)) (by omega) (by omega)
            have hzts : ZTs cf153 ta ca_51 na ma0 (cf153 48).toInt ys nf ma174 m1 mid_51 (ma0 18 p0.toNatClampNeg) x51_5 (if tgv (cf 44).toInt (cf 45).toInt = 4 then 4 else 3) := ZTs.tr hzts (fun q => by omega) hf1_ma174 (by omega) (CaG.rf (kn := 0) (ns := 5000)) (by omega) (by omega)
            have hqhv_22_x51_5 : (ma174 22 x51_5.toNatClampNeg).toInt = (ma173 22 x51_5.toNatClampNeg).toInt := (by rw [hu_ma174, va_up_n (by decide)])
            have hv_22_x51_5 := (show ma174 22 x51_5.toNatClampNeg = ma173 22 x51_5.toNatClampNeg by rw [hu_ma174, va_up_n (by decide)]).trans hv_22_x51_5
            have hv_18_x51_5 : ma174 18 x51_5.toNatClampNeg = (cf153 57) := (by rw [hu_ma174, va_up_s, pk_us])
            have hnhv_18_x51_5 : (ma174 18 x51_5.toNatClampNeg).toInt = (cf153 57).toInt := (by rw [hv_18_x51_5])
            refine lv_aload_n S.x S.b d_Mpg_checkSwitch_105 rfl (lv_at hl 0 rfl) ?_
            refine px_get S k_Mpg hT hw 0 0 18 (v := .ref (r 18)) rfl rfl rfl (by decide) m10_3 d_Mpg_checkSwitch_106 ?_
            refine lv_iload_n S.x S.b d_Mpg_checkSwitch_109 rfl (lv_at hl 1 rfl) ?_
            refine px_iald S hT hw 0 14 (n := 2100) (f := (ma174 18)) rfl gp_18 (x := p0) (vp_in_iff.mpr (by first | exact oz_a7e05de1cd hsr0.2.2.1 hsr0.2.1 g1 g2 | (constructor <;> omega))) d_Mpg_checkSwitch_110 ?_
            refine lv_topi (fun z175 ez175 => ?_)
            have lz175 := Int32.le_toInt z175
            have uz175 := Int32.toInt_lt z175
            have ha_z175 : z175 = ma0 18 p0.toNatClampNeg := ez175.trans (Ann.b18 han (by omega)); have hn_z175 : z175.toInt = (ma0 18 p0.toNatClampNeg).toInt := (by rw [ha_z175])
            refine lv_istore (lv' := [(6, .int z175), (0, .ref h), (1, .int p0), (2, .int x51_2), (3, .int x51_3), (4, .int x51_4), (5, .int x51_5)]) S.x S.b d_Mpg_checkSwitch_111 hl (by decide) rfl (fun ls hl => ?_)
            exact J113 ((cnt_51).toNat + 1) ma174 cf153 ca_51 mid_51 wr_51 cnt_51 md74 wv75 cnt_51 x51_2 x51_3 x51_4 x51_5 z175 _ _ ls (show (cf153 30).toInt = 0 → (cf 30).toInt = 0 from by omega) (show WrV cf153 (tf 6).toInt from hwr) (show (cf153 38).toInt = (cf 38).toInt from by first | exact oz_1687f4cc65 k51_2 e159 | omega) (show (cf153 43).toInt = (cf 43).toInt from by first | exact oz_1687f4cc65 k51_3 hkk43_e156 | omega) (show (cf153 44).toInt = (cf 44).toInt from by first | exact oz_1687f4cc65 k51_4 hkk44_e156 | omega) (show (cf153 46).toInt = (cf 46).toInt from by first | exact oz_1687f4cc65 k51_5 e161 | omega) (show (cf153 47).toInt = (cf 47).toInt from by first | exact oz_1687f4cc65 k51_6 e162 | omega) (show (cf153 41).toInt = (cf 41).toInt from by first | exact oz_1687f4cc65 k51_7 hkk41_e156 | omega) (show (cf153 55).toInt = (cf 55).toInt from by first | exact oz_1687f4cc65 k51_8 hkk55_e156 | omega) (show (cf153 59).toInt = (cf 59).toInt from by first | exact oz_1687f4cc65 k51_9 hkk59_e156 | omega) (show (cf 33).toInt ≤ (cf153 33).toInt from by first | exact oz_b1a9dcfb4c k51_10 e158 | omega) (show 6 * (cf153 33).toInt ≤ 6 * (cf 33).toInt + (w1 + (w2 - wr_51)) from by first | exact oz_838785b4c6 k51_11 e158 | omega) (show (cf 48).toInt ≤ (cf153 48).toInt from by first | exact oz_73dc218776 k51_18 e160 k51_14 k51_16 | omega) (show 6 * (cf153 48).toInt ≤ 6 * (cf 48).toInt + (w1 + (w2 - wr_51)) from by first | exact oz_838785b4c6 k51_13 e160 | omega) (show (cf 54).toInt ≤ (cf153 54).toInt from by first | exact oz_b1a9dcfb4c k51_14 hkk54_e156 | omega) (show (cf 42).toInt ≤ (cf153 42).toInt from by first | exact oz_94ff7ee8ed k51_16 hkk42_e156 k51_14 | omega) (show (cf153 54).toInt - (cf 54).toInt ≤ 4 * ((cf153 42).toInt - (cf 42).toInt) from by first | exact oz_4001d13b45 k51_16 hkk42_e156 hkk54_e156 | omega) (show (cf153 54).toInt - (cf 54).toInt ≤ 4096 * ((cf153 48).toInt - (cf 48).toInt) from by first | exact oz_761fc723f5 k51_17 e160 hkk54_e156 | omega) (show (cf153 42).toInt - (cf 42).toInt ≤ 4096 * ((cf153 48).toInt - (cf 48).toInt) from by first | exact oz_761fc723f5 k51_18 e160 hkk42_e156 | omega) (show KnT (tf 6).toInt ca_51 (cf153 33).toInt from (KnT.eq hkt (by omega))) (show KnS ca_51 (cf153 33).toInt (cf153 48).toInt ys from (KnS.eq hks (by omega) (by omega))) (show CaG ca ca_51 (cf 33).toInt (cf 48).toInt from (hcg.le (by omega) (by omega))) (show SyR ca_51 ys (cf153 48).toInt (cf153 54).toInt tx from (SyR.eq hsr (by omega) (by omega))) (show Ann na ma0 ma174 from han) (show FrC lo hi ma ma174 from hfc) (show (cf153 37).toInt = (cf 33).toInt from by first | exact oz_1687f4cc65 k51_25 hkk37_e156 | omega) (show (cf153 45).toInt = (cf 45).toInt + 1 from by first | exact oz_d71c8747a8 k51_26 hkk45_e156 | omega) (show x51_2.toInt = (cf 33).toInt from by first | exact k51_27 | omega) (show x51_3.toInt = (cf 37).toInt from by first | exact k51_28 | omega) (show 0 ≤ x51_4.toInt from by first | exact k51_29 | omega) (show x51_4.toInt ≤ 1 from by first | exact k51_30 | omega) (show m1 ≤ mid_51 from by first | exact k51_31 | omega) (show mid_51 ≤ hi from by first | exact k51_32 | omega) (show 0 ≤ wr_51 from by first | exact k51_33 | omega) (show wr_51 ≤ w2 from by first | exact k51_34 | omega) (show 0 ≤ cnt_51 from by first | exact k51_35 | omega) (show ZTe cf153 ta ca_51 na ma0 (cf153 48).toInt ys nf ma174 (p0.toInt + 1) m1 (na 17 p0.toNatClampNeg) 0 from (ZTe.to hka (fun q => by omega) (by omega) (Int.le_refl _) (Int.le_refl _) rfl)) (show mid_51 ≤ mid_51 from by first | exact oz_1cb5f934a5 | omega) (show 0 ≤ x51_5.toInt from by first | exact oz_18a5c06a28 nc47 | omega) (show x51_5.toInt < md74 from by omega) (show mid_51 ≤ x51_5.toInt from by omega) (show md74 ≤ hi from by first | exact hm2_md74 | omega) (show 0 ≤ wv75 from by first | exact hm3_md74 | omega) (show wv75 ≤ wr_51 from by omega) (show 0 ≤ cnt_51 from by first | exact k51_35 | omega) (show (na 14 x51_5.toNatClampNeg).toInt = 29 from by first | exact oz_8d9edf7b92 rz76 nc77 | omega) (show 0 ≤ (na 15 x51_5.toNatClampNeg).toInt from by omega) (show (na 15 x51_5.toNatClampNeg).toInt < (tf 6).toInt from by omega) (show RvS ta (tf 6).toInt na ma0 d md74 hi (wr_51 - wv75) (na 21 x51_5.toNatClampNeg) from hrs2) (show RlD na (ma0 18 p0.toNatClampNeg) x51_5 cnt_51 from hrd) (show RlE na z175 x51_5 cnt_51 from (by rw [ha_z175]; exact hrd)) (show ZTs cf153 ta ca_51 na ma0 (cf153 48).toInt ys nf ma174 m1 mid_51 (ma0 18 p0.toNatClampNeg) x51_5 (if tgv (cf 44).toInt (cf 45).toInt = 4 then 4 else 3) from (ZTs.to hzts (fun q => by omega) (by omega) (Int.le_refl _) (Int.le_refl _) rfl)) (show K_mp_checkSwitch_113 (RL_mp_checkStatement d) tf ta na p0 ma cf ca ma174 cf153 ca_51 x51_2 x51_3 x51_4 x51_5 z175 from (fun y_f0 y_f1 y_f2 k hE => k51_40 y_f0 y_f1 y_f2 (k + 1) (Or.inr (Or.inl ⟨rfl, x51_2, x51_3, x51_4, x51_5, rfl, rfl, rfl, rfl, rfl, Or.inr ⟨nc47, z76, ez76, Or.inr ⟨nc77, z149, ez149, ma152, cf153, v155, e167, Or.inr ⟨nc168, ma173, hu_ma173, ma174, hu_ma174, z175, ez175, hE⟩⟩⟩⟩)))) (show cnt_51 < ((((cnt_51).toNat + 1 : Nat) : Int) : Int) from by first | exact oz_natlt | omega) hw (lv_sub hl [1, 2, 3, 4, 5, 6, 0] rfl)
  refine lv_aload_n S.x S.b d_Mpg_checkSwitch_0 rfl (lv_at hl 0 rfl) ?_
  refine lv_aload_n S.x S.b d_Mpg_checkSwitch_1 rfl (lv_at hl 0 rfl) ?_
  refine px_get S k_Mpg hT hw 0 0 17 (v := .ref (r 17)) rfl rfl rfl (by decide) m10_1 d_Mpg_checkSwitch_2 ?_
  refine lv_iload_n S.x S.b d_Mpg_checkSwitch_5 rfl (lv_at hl 1 rfl) ?_
  refine px_iald S hT hw 0 13 (n := 2100) (f := (na 17)) rfl gp_17 (x := p0) (vp_in_iff.mpr (by first | exact oz_a7e05de1cd hsr0.2.2.1 hsr0.2.1 g1 g2 | (constructor <;> omega))) d_Mpg_checkSwitch_6 ?_
  refine lv_topi (fun z176 ez176 => ?_)
  have lz176 := Int32.le_toInt z176
  have uz176 := Int32.toInt_lt z176
  have ha_z176 : z176 = na 17 p0.toNatClampNeg := ez176; have hn_z176 : z176.toInt = (na 17 p0.toNatClampNeg).toInt := (by rw [ha_z176]); have hev_z176 : ErV ta (tf 6).toInt na ma0 d (p0.toInt + 1) m1 w1 z176 := (by rw [ha_z176]; exact hea); obtain ⟨hec_z176, h20_z176, hw_z176⟩ := hev_z176.ec; have hrg_z176 := EcV.rng hec_z176
  refine lv_iconst (v := 1) S.x S.b d_Mpg_checkSwitch_7 (by decide) ?_
  refine px_calli (pr := []) (px_runV (As := [.int z176, .int 1]) (rest := []) S (c_S_check l D cs ma0 ys (cf 48).toInt nf (cf 33).toInt d (p0.toInt + 1) m1 h r g tf ta pf na wa ca ef ea xf xa ma cf z176 1  (show 0 ≤ (p0.toInt + 1) from by first | exact oz_c12c169b81 hsr0.2.2.1 | omega) (show m1 ≤ (pf 13).toInt from by first | exact oz_bbb5b20c1a g1 hm3 | omega) (show (pf 13).toInt ≤ 2100 from by first | exact g2 | omega) (show (tf 6).toInt ≤ 2049 from by first | exact g3 | omega) (show (cf 33).toInt = (cf 33).toInt from rfl) (show 0 ≤ (cf 33).toInt from by first | exact g4 | omega) (show (cf 48).toInt = (cf 48).toInt from rfl) (show (cf 38).toInt = nf from by first | exact g9 | omega) (show 0 ≤ nf from by first | exact g10 | omega) (show 0 ≤ (1 : Int) from by first | exact oz_19c3a41681 | omega) (show (1 : Int) ≤ 1 from by first | exact oz_f9181dc4bb | omega) htk (FsI.le (N' := (pf 13).toInt) hfs (by omega)) hwr (KnT.eq hkt (by omega)) (FnT.eq hft (by omega)) (KnS.eq hks (by omega) (by omega)) hfp han hec_z176 _) hT (pr := []) (pcs := [wdP cs h r g tf ta pf na ma wa cf ca ef ea xf xa]) hw (oX_call (P := (fun A U H => (oP A g U H))) (pr := []) oG_P hw hA hP) (px_recv hT hw 0 0 rfl rfl rfl) m12_217 m12_214 m12_216 ms_12_7 m1_21 q_Mpg_check ⟨show (4 * d + 12) + 1 ≤ (6 * d + 29) from (by first | exact oz_368b1ff356 | omega), show 8 + (8 + 11) + (200 * d + 420) ≤ (260 * d + 1020) from (by first | exact oz_2a3a86d2be | omega)⟩ hl.1 rfl (Nat.le_of_ble_eq_true rfl) d_Mpg_checkSwitch_8 ⟨Nat.le_of_ble_eq_true rfl, Nat.le_of_ble_eq_true rfl⟩) hw hA (fun v182 p181 H locs hp181 hw => ?_)
  obtain ⟨ma179, cf180, rfl, e183, e184, e185, e186, e187, e188, e189, e190, e191, e192, e193, e194, e195, e196, e197, e198⟩ := hp181
  have e183 : KpE cf cf180 := e183
  have hkz_e183 := e183.2
  have hkk37_e183 : (cf180 37).toInt = (cf 37).toInt := (by rw [e183.1 37 (by decide) (by decide) (by decide) (by decide) (by decide)] <;> rfl)
  have hkk43_e183 : (cf180 43).toInt = (cf 43).toInt := (by rw [e183.1 43 (by decide) (by decide) (by decide) (by decide) (by decide)] <;> rfl)
  have hkk44_e183 : (cf180 44).toInt = (cf 44).toInt := (by rw [e183.1 44 (by decide) (by decide) (by decide) (by decide) (by decide)] <;> rfl)
  have hkk45_e183 : (cf180 45).toInt = (cf 45).toInt := (by rw [e183.1 45 (by decide) (by decide) (by decide) (by decide) (by decide)] <;> rfl)
  have hkk41_e183 : (cf180 41).toInt = (cf 41).toInt := (by rw [e183.1 41 (by decide) (by decide) (by decide) (by decide) (by decide)] <;> rfl)
  have hkk55_e183 : (cf180 55).toInt = (cf 55).toInt := (by rw [e183.1 55 (by decide) (by decide) (by decide) (by decide) (by decide)] <;> rfl)
  have hkk59_e183 : (cf180 59).toInt = (cf 59).toInt := (by rw [e183.1 59 (by decide) (by decide) (by decide) (by decide) (by decide)] <;> rfl)
  have hkk42_e183 : (cf180 42).toInt = (cf 42).toInt := (by rw [e183.1 42 (by decide) (by decide) (by decide) (by decide) (by decide)] <;> rfl)
  have hkk54_e183 : (cf180 54).toInt = (cf 54).toInt := (by rw [e183.1 54 (by decide) (by decide) (by decide) (by decide) (by decide)] <;> rfl)
  have hkk58_e183 : (cf180 58).toInt = (cf 58).toInt := (by rw [e183.1 58 (by decide) (by decide) (by decide) (by decide) (by decide)] <;> rfl)
  have e184 : WrV cf180 (tf 6).toInt := e184
  have hwr := e184
  have hw0_e184 := hwr.1
  have e185 : (cf180 33).toInt = (cf 33).toInt := e185
  have e186 : (cf180 38).toInt = (cf 38).toInt := e186
  have e187 : (cf180 48).toInt = (cf 48).toInt := e187
  have e188 : (cf180 46).toInt = (cf 46).toInt := e188
  have e189 : (cf180 47).toInt = (cf 47).toInt := e189
  have e190 : (cf180 57).toInt = (cf 57).toInt := e190
  have e191 : Ann na ma0 ma179 := e191
  have han := e191
  have e192 : FrC (p0.toInt + 1) m1 ma ma179 := e192
  have hfc := hfc.tr e192 (by omega) (by omega)
  have e193 : 0 ≤ v182.toInt := e193
  have e194 : v182.toInt ≤ 4 := e194
  have e195 : NmJ ta ca na ma179 (cf 33).toInt z176 v182.toInt := e195
  have e196 : ZTy cf180 (Gk ta ca na ma0 (cf 48).toInt ys nf) na ma179 (p0.toInt + 1) m1 z176 v182.toInt := e196
  have e197 : ZNm cf180 (1 : Int) v182.toInt := e197
  have hty_z176 : ZTe cf180 ta ca na ma0 (cf180 48).toInt ys nf ma179 (p0.toInt + 1) m1 z176 0 := ZTe.to (t := 0) (ZTy.num e196 e197) (fun q => by omega) (by omega) (Int.le_refl _) (Int.le_refl _) rfl
  have e198 : RL_mp_check d tf ta na ca z176 (1 : Int32) ma cf ma179 cf180 v182 := e198
  have e198X : RX_mp_check tf ta na ca z176 (1 : Int32) ma cf ma179 cf180 v182 := ⟨d, e198⟩
  have hw : pw D A s.heap H locs [wdP cs h r g tf ta pf na ma179 wa cf180 ca ef ea xf xa] := hw
  have lv182 := Int32.le_toInt v182
  have uv182 := Int32.toInt_lt v182
  refine lv_pop S.x S.b d_Mpg_checkSwitch_11 rfl ?_
  refine lv_aload_n S.x S.b d_Mpg_checkSwitch_12 rfl (lv_at hl 0 rfl) ?_
  refine px_get S k_Mpg hT hw 0 0 33 (v := .int (cf180 33)) rfl rfl rfl (by decide) m10_22 d_Mpg_checkSwitch_13 ?_
  refine lv_istore_n (lv' := [(2, .int (cf180 33)), (0, .ref h), (1, .int p0)]) S.x S.b d_Mpg_checkSwitch_16 rfl hl (by decide) rfl (fun ls hl => ?_)
  refine lv_aload_n S.x S.b d_Mpg_checkSwitch_17 rfl (lv_at hl 1 rfl) ?_
  refine px_get S k_Mpg hT hw 0 0 37 (v := .int (cf180 37)) rfl rfl rfl (by decide) m10_26 d_Mpg_checkSwitch_18 ?_
  refine lv_istore_n (lv' := [(3, .int (cf180 37)), (2, .int (cf180 33)), (0, .ref h), (1, .int p0)]) S.x S.b d_Mpg_checkSwitch_21 rfl hl (by decide) rfl (fun ls hl => ?_)
  refine lv_aload_n S.x S.b d_Mpg_checkSwitch_22 rfl (lv_at hl 2 rfl) ?_
  refine lv_aload_n S.x S.b d_Mpg_checkSwitch_23 rfl (lv_at hl 2 rfl) ?_
  refine px_get S k_Mpg hT hw 0 0 33 (v := .int (cf180 33)) rfl rfl rfl (by decide) m10_22 d_Mpg_checkSwitch_24 ?_
  refine px_put S k_Mpg hT hw 0 0 37 rfl rfl (by decide) m10_26 rfl rfl rfl (Nat.le_of_ble_eq_true rfl) d_Mpg_checkSwitch_27 (w' := wdP cs h r g tf ta pf na ma179 wa (upd cf180 37 (cf180 33)) ca ef ea xf xa) (ps' := [wdP cs h r g tf ta pf na ma179 wa (upd cf180 37 (cf180 33)) ca ef ea xf xa]) rfl rfl (fun H locs hw => ?_)
  refine lv_aload_n S.x S.b d_Mpg_checkSwitch_30 rfl (lv_at hl 2 rfl) ?_
  refine lv_dup S.x S.b d_Mpg_checkSwitch_31 rfl ?_
  refine px_get S k_Mpg hT hw 0 0 45 (v := .int (cf180 45)) rfl rfl rfl (by decide) m10_36 d_Mpg_checkSwitch_32 ?_
  refine lv_iconst (v := 1) S.x S.b d_Mpg_checkSwitch_35 (by decide) ?_
  refine lv_iadd S.x S.b d_Mpg_checkSwitch_36 ?_
  have lr199 := Int32.le_toInt (cf180 45)
  have ur199 := Int32.toInt_lt (cf180 45)
  refine lv_topi (fun z200 ez200 => ?_)
  have tz200 : z200.toInt = ((cf180 45).toInt + (1 : Int) + 2147483648) % 4294967296 - 2147483648 := by rw [ez200]; exact i_add (cf180 45) 1
  have lz200 := Int32.le_toInt z200
  have uz200 := Int32.toInt_lt z200
  try replace tz200 : z200.toInt = (cf180 45).toInt + (1 : Int) := by omega
  refine px_put S k_Mpg hT hw 0 0 45 rfl rfl (by decide) m10_36 rfl rfl rfl (Nat.le_of_ble_eq_true rfl) d_Mpg_checkSwitch_37 (w' := wdP cs h r g tf ta pf na ma179 wa (upd (upd cf180 37 (cf180 33)) 45 z200) ca ef ea xf xa) (ps' := [wdP cs h r g tf ta pf na ma179 wa (upd (upd cf180 37 (cf180 33)) 45 z200) ca ef ea xf xa]) rfl rfl (fun H locs hw => ?_)
  refine lv_iconst (v := 0) S.x S.b d_Mpg_checkSwitch_40 (by decide) ?_
  refine lv_istore (lv' := [(4, .int 0), (3, .int (cf180 37)), (2, .int (cf180 33)), (0, .ref h), (1, .int p0)]) S.x S.b d_Mpg_checkSwitch_41 hl (by decide) rfl (fun ls hl => ?_)
  refine lv_aload_n S.x S.b d_Mpg_checkSwitch_43 rfl (lv_at hl 3 rfl) ?_
  refine px_get S k_Mpg hT hw 0 0 18 (v := .ref (r 18)) rfl rfl rfl (by decide) m10_3 d_Mpg_checkSwitch_44 ?_
  refine lv_iload_n S.x S.b d_Mpg_checkSwitch_47 rfl (lv_at hl 4 rfl) ?_
  refine px_iald S hT hw 0 14 (n := 2100) (f := (ma179 18)) rfl gp_18 (x := p0) (vp_in_iff.mpr (by first | exact oz_a7e05de1cd hsr0.2.2.1 hsr0.2.1 g1 g2 | (constructor <;> omega))) d_Mpg_checkSwitch_48 ?_
  refine lv_topi (fun z201 ez201 => ?_)
  have lz201 := Int32.le_toInt z201
  have uz201 := Int32.toInt_lt z201
  have ha_z201 : z201 = ma0 18 p0.toNatClampNeg := ez201.trans (Ann.b18 han (by omega)); have hn_z201 : z201.toInt = (ma0 18 p0.toNatClampNeg).toInt := (by rw [ha_z201])
  refine lv_istore (lv' := [(5, .int z201), (4, .int 0), (3, .int (cf180 37)), (2, .int (cf180 33)), (0, .ref h), (1, .int p0)]) S.x S.b d_Mpg_checkSwitch_49 hl (by decide) rfl (fun ls hl => ?_)
  exact J51 ((hi - m1).toNat + 1) ma179 (upd (upd cf180 37 (cf180 33)) 45 z200) ca m1 w2 0 (cf180 33) (cf180 37) (0 : Int32) z201 _ _ ls (show (cf180 30).toInt = 0 → (cf 30).toInt = 0 from by first | exact hkz_e183 | omega) (show WrV (upd (upd cf180 37 (cf180 33)) 45 z200) (tf 6).toInt from (WrV.u (WrV.u hwr (by decide) (by decide)) (by decide) (by decide))) (show (cf180 38).toInt = (cf 38).toInt from by first | exact e186 | omega) (show (cf180 43).toInt = (cf 43).toInt from by first | exact hkk43_e183 | omega) (show (cf180 44).toInt = (cf 44).toInt from by first | exact hkk44_e183 | omega) (show (cf180 46).toInt = (cf 46).toInt from by first | exact e188 | omega) (show (cf180 47).toInt = (cf 47).toInt from by first | exact e189 | omega) (show (cf180 41).toInt = (cf 41).toInt from by first | exact hkk41_e183 | omega) (show (cf180 55).toInt = (cf 55).toInt from by first | exact hkk55_e183 | omega) (show (cf180 59).toInt = (cf 59).toInt from by first | exact hkk59_e183 | omega) (show (cf 33).toInt ≤ (cf180 33).toInt from by first | exact oz_f9b42d1b56 e185 | omega) (show 6 * (cf180 33).toInt ≤ 6 * (cf 33).toInt + (w1 + (w2 - w2)) from by first | exact oz_12495c257e hw1 e185 | omega) (show (cf 48).toInt ≤ (cf180 48).toInt from by first | exact oz_f9b42d1b56 e187 | omega) (show 6 * (cf180 48).toInt ≤ 6 * (cf 48).toInt + (w1 + (w2 - w2)) from by first | exact oz_12495c257e hw1 e187 | omega) (show (cf 54).toInt ≤ (cf180 54).toInt from by first | exact oz_f9b42d1b56 hkk54_e183 | omega) (show (cf 42).toInt ≤ (cf180 42).toInt from by first | exact oz_f9b42d1b56 hkk42_e183 | omega) (show (cf180 54).toInt - (cf 54).toInt ≤ 4 * ((cf180 42).toInt - (cf 42).toInt) from by first | exact oz_7f23dbcb5f hkk42_e183 hkk54_e183 | omega) (show (cf180 54).toInt - (cf 54).toInt ≤ 4096 * ((cf180 48).toInt - (cf 48).toInt) from by first | exact oz_a2be20d97d e187 hkk54_e183 | omega) (show (cf180 42).toInt - (cf 42).toInt ≤ 4096 * ((cf180 48).toInt - (cf 48).toInt) from by first | exact oz_a2be20d97d e187 hkk42_e183 | omega) (show KnT (tf 6).toInt ca (cf180 33).toInt from (KnT.eq hkt (by omega))) (show KnS ca (cf180 33).toInt (cf180 48).toInt ys from (KnS.eq hks (by omega) (by omega))) (show CaG ca ca (cf 33).toInt (cf 48).toInt from (hcg.le (by omega) (by omega))) (show SyR ca ys (cf180 48).toInt (cf180 54).toInt tx from (SyR.eq hsr (by omega) (by omega))) (show Ann na ma0 ma179 from han) (show FrC lo hi ma ma179 from hfc) (show (cf180 33).toInt = (cf 33).toInt from by first | exact e185 | omega) (show z200.toInt = (cf 45).toInt + 1 from by first | exact oz_39da5b546a hkk45_e183 tz200 | omega) (show (cf180 33).toInt = (cf 33).toInt from by first | exact e185 | omega) (show (cf180 37).toInt = (cf 37).toInt from by first | exact hkk37_e183 | omega) (show 0 ≤ (0 : Int) from by first | exact oz_5a341f00aa | omega) (show (0 : Int) ≤ 1 from by first | exact oz_6e68cd0f48 | omega) (show m1 ≤ m1 from by first | exact oz_1cb5f934a5 | omega) (show m1 ≤ hi from by first | exact hm3 | omega) (show 0 ≤ w2 from by first | exact hw2 | omega) (show w2 ≤ w2 from by first | exact oz_1cb5f934a5 | omega) (show 0 ≤ 0 from by omega) (show ZTe (upd (upd cf180 37 (cf180 33)) 45 z200) ta ca na ma0 (cf180 48).toInt ys nf ma179 (p0.toInt + 1) m1 (na 17 p0.toNatClampNeg) 0 from (by rw [← ha_z176]; exact ZTe.to hty_z176 (fun q => by rw [pk_un (by decide)] at q; rw [pk_un (by decide)] at q; omega) (by omega) (Int.le_refl _) (Int.le_refl _) rfl)) (show RvS ta (tf 6).toInt na ma0 d m1 hi w2 z201 from (by rw [ha_z201]; exact hrsA)) (show RlD na (ma0 18 p0.toNatClampNeg) z201 0 from (by rw [ha_z201]; exact rld_0)) (show ZTs (upd (upd cf180 37 (cf180 33)) 45 z200) ta ca na ma0 (cf180 48).toInt ys nf ma179 m1 m1 (ma0 18 p0.toNatClampNeg) z201 (if tgv (cf 44).toInt (cf 45).toInt = 4 then 4 else 3) from (zts_0 ha_z201.symm)) (show K_mp_checkSwitch_51 (RL_mp_checkStatement d) tf ta na p0 ma cf ca ma179 (upd (upd cf180 37 (cf180 33)) 45 z200) ca (cf180 33) (cf180 37) 0 z201 from (fun y_f0 y_f1 y_f2 k hE => Exists.intro (k + 1) (Or.inl ⟨rfl, z176, ez176, ma179, cf180, v182, e198X, z200, ez200, z201, ez201, hE⟩))) (show hi - m1 < ((((hi - m1).toNat + 1 : Nat) : Int) : Int) from by first | exact oz_natlt | omega) hw (lv_sub hl [4, 5, 3, 2, 1, 0] rfl)
