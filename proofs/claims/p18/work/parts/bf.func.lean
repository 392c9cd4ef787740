theorem oz_f10fc4399c {a0 a1 a2 : Int} (h0 : a1 - 4 ≤ 4096 * (a0 - a2)) (h1 : 0 ≤ a2) (h2 : 4 ≤ a1) : 0 ≤ a0 := by omega
theorem oz_a0605c1f11 {a0 a1 a2 : Int} (h0 : a0 ≤ 4096 * (a1 - a2)) (h1 : 0 ≤ a2) : a0 ≤ 4096 * a1 := by omega
theorem oz_1996704690 {a0 : Int} (h0 : 4 ≤ a0) : 0 ≤ a0 := by omega
theorem oz_9f0e46e5a4 {a0 a1 a2 : Int} (h0 : a0 - 4 ≤ 4096 * (a1 - a2)) (h1 : 0 ≤ a2) : a0 ≤ 4 + 4096 * a1 := by omega
theorem oz_348f6f8c37 {a0 a2 : Int} {n1 : Nat} (h0 : (n1 : Int) ≤ 300) (h1 : a0 = a2) (h2 : a2 = 0) : a0 + (n1 : Int) ≤ 400 := by omega
theorem oz_ae47b2e413 {a0 : Int} (h0 : a0 = (-1 : Int)) : a0 = -1 := by omega
theorem oz_7d77f9acb2 {a0 a1 a2 a3 a4 a5 : Int} (h0 : a2 - 4 ≤ 4096 * (a3 - a0)) (h1 : a1 = a4) (h2 : 4 ≤ a2) (h3 : a2 ≤ a5) (h4 : a5 - a2 ≤ 4096 * (a4 - a3)) : a0 ≤ a1 := by omega
theorem oz_0f098ad6c4 {a0 a1 a2 : Int} (h0 : 6 * a1 ≤ 6 * a2 + (a0)) (h1 : a2 ≤ a1) : 0 ≤ a0 := by omega
theorem oz_569dc2842b {a0 a1 a2 a3 a4 a5 a6 : Int} (h0 : a2 - 4 ≤ 4096 * (a3 - a0)) (h1 : a1 = a4) (h2 : 4 ≤ a2) (h3 : a2 ≤ a5) (h4 : a5 - a2 ≤ 4096 * (a6 - a3)) (h5 : a4 = a6) : a0 ≤ a1 := by omega
theorem oz_e7154091a6 {a0 a1 a2 a3 : Int} (h0 : a0 = a1) (h1 : a1 = a2) (h2 : a3 < a2) (h3 : 0 ≤ a3) : 0 ≤ a0 := by omega
theorem oz_c0af2c5e34 {a0 a1 a2 a3 : Int} (h0 : a0 = a1) (h1 : a2 - 4 ≤ 4096 * (a1 - a3)) (h2 : 0 ≤ a3) (h3 : 4 ≤ a2) : 0 ≤ a0 := by omega
theorem oz_2da8b60292 {a0 a1 a2 a3 a4 a5 : Int} (h0 : a2 - 4 ≤ 4096 * (a3 - a0)) (h1 : a1 = a4) (h2 : 4 ≤ a2) (h3 : a5 = a3) (h4 : a5 < a4) : a0 ≤ a1 := by omega
theorem oz_6ca5c2d626 {a0 a1 a2 a3 a4 : Int} (h0 : a0 = a1) (h1 : a1 = a2) (h2 : a2 = a3 + (1 : Int)) (h3 : a3 = a4) (h4 : 4 ≤ a4) : 4 ≤ a0 := by omega
theorem oz_ecc8fd4544 {a0 a1 a2 a3 : Int} (h0 : a0 = a1) (h1 : a2 ≤ a1) (h2 : a2 = a3) (h3 : 0 ≤ a3) : 0 ≤ a0 := by omega
theorem oz_534035a21a {a0 a1 a2 a3 a4 a5 a6 a7 a8 : Int} (h0 : a1 = a2) (h1 : a0 = a3) (h2 : a2 = a4) (h3 : (0 : Int) ≤ 3 → a3 = a5 + (1 : Int)) (h4 : a5 = a6) (h5 : a4 = a7 + (1 : Int)) (h6 : a6 ≤ 4 * (a8 - 4)) (h7 : a7 = a8) : a0 ≤ 4 * (a1 - 4) := by omega
theorem oz_8173734d0d {a0 a1 a2 a3 a4 a5 a6 a7 a8 : Int} (h0 : a3 ≤ 4096 * (a4 - a2)) (h1 : a1 = a5) (h2 : a0 = a6) (h3 : a7 = a4) (h4 : a8 = a3) (h5 : a6 ≤ a8 + 4096) (h6 : a7 < a5) : a0 ≤ 4096 * (a1 - a2) := by omega
theorem oz_dffa147a41 {a0 a1 a2 a3 a4 a5 a6 a7 a8 a9 : Int} (h0 : a3 - 4 ≤ 4096 * (a4 - a2)) (h1 : a0 = a5) (h2 : a1 = a6) (h3 : a7 = a4) (h4 : a8 = a3) (h5 : a5 = a9) (h6 : a7 < a6) (h7 : a9 = a8 + (1 : Int)) : a0 - 4 ≤ 4096 * (a1 - a2) := by omega
theorem oz_2184f957c1 {a0 a1 a2 a3 a4 a5 a6 a7 a8 : Int} (h0 : a1 = a2) (h1 : a0 = a3) (h2 : a2 = a4) (h3 : (1 : Int) ≤ 3 → a3 = a5 + (1 : Int)) (h4 : a5 = a6) (h5 : a4 = a7 + (1 : Int)) (h6 : a6 ≤ 4 * (a8 - 4)) (h7 : a7 = a8) : a0 ≤ 4 * (a1 - 4) := by omega
theorem oz_49140f3e75 {a0 : Int} (h0 : a0 = (4 : Int) + (0 : Int)) : 0 ≤ a0 := by omega
theorem oz_c5999268bd {a0 : Int} (h0 : a0 = (4 : Int) + (0 : Int)) : a0 ≤ 5 := by omega
theorem oz_c55b6a1f99 {a0 a1 a2 a3 a4 : Int} (h0 : a0 = a1) (h1 : a1 = a2) (h2 : a2 = a3 + (2 : Int)) (h3 : a3 = a4) (h4 : 4 ≤ a4) : 4 ≤ a0 := by omega
theorem oz_dcdcbe9638 {a0 a1 a2 a3 a4 a5 a6 a7 a8 a9 : Int} (h0 : a1 = a2) (h1 : a0 = a3) (h2 : a2 = a4) (h3 : a5 = (4 : Int) + (0 : Int)) (h4 : 4 ≤ a5 → a3 = a6 + 2) (h5 : a6 = a7) (h6 : a4 = a8 + (2 : Int)) (h7 : a7 ≤ 4 * (a9 - 4)) (h8 : a8 = a9) : a0 ≤ 4 * (a1 - 4) := by omega
theorem oz_22c2709563 {a0 a1 a2 a3 a4 a5 a6 a7 a8 a9 : Int} (h0 : a3 - 4 ≤ 4096 * (a4 - a2)) (h1 : a0 = a5) (h2 : a1 = a6) (h3 : a7 = a4) (h4 : a8 = a3) (h5 : a5 = a9) (h6 : a7 < a6) (h7 : a9 = a8 + (2 : Int)) : a0 - 4 ≤ 4096 * (a1 - a2) := by omega
theorem oz_47940b811e {a0 : Int} (h0 : a0 = (4 : Int) + (1 : Int)) : 0 ≤ a0 := by omega
theorem oz_9d1cbf99c5 {a0 : Int} (h0 : a0 = (4 : Int) + (1 : Int)) : a0 ≤ 5 := by omega
theorem oz_64d2d2f693 {a0 a1 a2 a3 a4 a5 a6 a7 a8 a9 : Int} (h0 : a1 = a2) (h1 : a0 = a3) (h2 : a2 = a4) (h3 : a5 = (4 : Int) + (1 : Int)) (h4 : 4 ≤ a5 → a3 = a6 + 2) (h5 : a6 = a7) (h6 : a4 = a8 + (2 : Int)) (h7 : a7 ≤ 4 * (a9 - 4)) (h8 : a8 = a9) : a0 ≤ 4 * (a1 - 4) := by omega
theorem oz_8e6a47f383 {a0 a1 a2 : Int} (h0 : 0 ≤ a0) (h1 : a0 < a1) (h2 : a2 = a1) (h3 : a2 ≤ 260) : 0 ≤ a0 ∧ a0 < ((260 : Nat) : Int) := by omega
theorem oz_3b2a82b8fc {a0 a1 a2 : Int} (h0 : a0 = a1) : 6 * a0 ≤ 6 * a1 + (a2 - a2) := by omega
theorem oz_53c6623dd4  : (0 : Int) ≤ 4 * ((4 : Int) - 4) := by omega
theorem oz_87aa8a2640 {a0 a1 : Int} (h0 : a0 = a1) : (0 : Int) ≤ 4096 * (a0 - a1) := by omega
theorem oz_fee1adc983 {a0 a1 : Int} (h0 : a0 = a1) : (4 : Int) - 4 ≤ 4096 * (a0 - a1) := by omega
theorem oz_0e660507e8 {a0 : Int}  : (0 : Int) ≤ 4096 * (a0 - a0) := by omega
theorem oz_9715964488 {a0 : Int}  : (4 : Int) - 4 ≤ 4096 * (a0 - a0) := by omega
theorem m10_30 : Cond.fieldLink "HomeSystemModel$Program" 258 "HomeSystemModel$Program" "frames" "[I" ∈ AL := AL_10 (List.mem_of_getElem? (i := 30) rfl) rfl
theorem m10_52 : Cond.fieldLink "HomeSystemModel$Program" 277 "HomeSystemModel$Program" "frameCells" "[I" ∈ AL := AL_10 (List.mem_of_getElem? (i := 52) rfl) rfl
abbrev b_Mpg_checkFunction : ByteArray := prog_16_method_97_code
def y_Mpg_checkFunction : MethodName := ⟨"HomeSystemModel$Program", "checkFunction", "(I)V"⟩
theorem d_Mpg_checkFunction_0 : decode b_Mpg_checkFunction 0 = .ok (.aload_n 0, 1) := by decide +kernel
theorem d_Mpg_checkFunction_1 : decode b_Mpg_checkFunction 1 = .ok (.getfield 255, 3) := by decide +kernel
theorem d_Mpg_checkFunction_4 : decode b_Mpg_checkFunction 4 = .ok (.iload_n 1, 1) := by decide +kernel
theorem d_Mpg_checkFunction_5 : decode b_Mpg_checkFunction 5 = .ok (.iaload, 1) := by decide +kernel
theorem d_Mpg_checkFunction_6 : decode b_Mpg_checkFunction 6 = .ok (.istore_n 2, 1) := by decide +kernel
theorem d_Mpg_checkFunction_7 : decode b_Mpg_checkFunction 7 = .ok (.aload_n 0, 1) := by decide +kernel
theorem d_Mpg_checkFunction_8 : decode b_Mpg_checkFunction 8 = .ok (.getfield 210, 3) := by decide +kernel
theorem d_Mpg_checkFunction_11 : decode b_Mpg_checkFunction 11 = .ok (.iload_n 2, 1) := by decide +kernel
theorem d_Mpg_checkFunction_12 : decode b_Mpg_checkFunction 12 = .ok (.iaload, 1) := by decide +kernel
theorem d_Mpg_checkFunction_13 : decode b_Mpg_checkFunction 13 = .ok (.istore_n 3, 1) := by decide +kernel
theorem d_Mpg_checkFunction_14 : decode b_Mpg_checkFunction 14 = .ok (.aload_n 0, 1) := by decide +kernel
theorem d_Mpg_checkFunction_15 : decode b_Mpg_checkFunction 15 = .ok (.iload_n 3, 1) := by decide +kernel
theorem d_Mpg_checkFunction_16 : decode b_Mpg_checkFunction 16 = .ok (.invokevirtual 544, 3) := by decide +kernel
theorem d_Mpg_checkFunction_19 : decode b_Mpg_checkFunction 19 = .ok (.ifCond .ge 12, 3) := by decide +kernel
theorem d_Mpg_checkFunction_22 : decode b_Mpg_checkFunction 22 = .ok (.aload_n 0, 1) := by decide +kernel
theorem d_Mpg_checkFunction_23 : decode b_Mpg_checkFunction 23 = .ok (.iload_n 3, 1) := by decide +kernel
theorem d_Mpg_checkFunction_24 : decode b_Mpg_checkFunction 24 = .ok (.invokevirtual 541, 3) := by decide +kernel
theorem d_Mpg_checkFunction_27 : decode b_Mpg_checkFunction 27 = .ok (.iload_n 1, 1) := by decide +kernel
theorem d_Mpg_checkFunction_28 : decode b_Mpg_checkFunction 28 = .ok (.if_icmp .eq 9, 3) := by decide +kernel
theorem d_Mpg_checkFunction_31 : decode b_Mpg_checkFunction 31 = .ok (.aload_n 0, 1) := by decide +kernel
theorem d_Mpg_checkFunction_32 : decode b_Mpg_checkFunction 32 = .ok (.iconst 1, 1) := by decide +kernel
theorem d_Mpg_checkFunction_33 : decode b_Mpg_checkFunction 33 = .ok (.iload_n 3, 1) := by decide +kernel
theorem d_Mpg_checkFunction_34 : decode b_Mpg_checkFunction 34 = .ok (.invokevirtual 565, 3) := by decide +kernel
theorem d_Mpg_checkFunction_37 : decode b_Mpg_checkFunction 37 = .ok (.aload_n 0, 1) := by decide +kernel
theorem d_Mpg_checkFunction_38 : decode b_Mpg_checkFunction 38 = .ok (.getfield 528, 3) := by decide +kernel
theorem d_Mpg_checkFunction_41 : decode b_Mpg_checkFunction 41 = .ok (.istore 4, 2) := by decide +kernel
theorem d_Mpg_checkFunction_43 : decode b_Mpg_checkFunction 43 = .ok (.aload_n 0, 1) := by decide +kernel
theorem d_Mpg_checkFunction_44 : decode b_Mpg_checkFunction 44 = .ok (.getfield 556, 3) := by decide +kernel
theorem d_Mpg_checkFunction_47 : decode b_Mpg_checkFunction 47 = .ok (.istore 5, 2) := by decide +kernel
theorem d_Mpg_checkFunction_49 : decode b_Mpg_checkFunction 49 = .ok (.aload_n 0, 1) := by decide +kernel
theorem d_Mpg_checkFunction_50 : decode b_Mpg_checkFunction 50 = .ok (.aload_n 0, 1) := by decide +kernel
theorem d_Mpg_checkFunction_51 : decode b_Mpg_checkFunction 51 = .ok (.getfield 528, 3) := by decide +kernel
theorem d_Mpg_checkFunction_54 : decode b_Mpg_checkFunction 54 = .ok (.putfield 556, 3) := by decide +kernel
theorem d_Mpg_checkFunction_57 : decode b_Mpg_checkFunction 57 = .ok (.aload_n 0, 1) := by decide +kernel
theorem d_Mpg_checkFunction_58 : decode b_Mpg_checkFunction 58 = .ok (.iload_n 2, 1) := by decide +kernel
theorem d_Mpg_checkFunction_59 : decode b_Mpg_checkFunction 59 = .ok (.putfield 550, 3) := by decide +kernel
theorem d_Mpg_checkFunction_62 : decode b_Mpg_checkFunction 62 = .ok (.aload_n 0, 1) := by decide +kernel
theorem d_Mpg_checkFunction_63 : decode b_Mpg_checkFunction 63 = .ok (.iconst 4, 1) := by decide +kernel
theorem d_Mpg_checkFunction_64 : decode b_Mpg_checkFunction 64 = .ok (.putfield 621, 3) := by decide +kernel
theorem d_Mpg_checkFunction_67 : decode b_Mpg_checkFunction 67 = .ok (.aload_n 0, 1) := by decide +kernel
theorem d_Mpg_checkFunction_68 : decode b_Mpg_checkFunction 68 = .ok (.iconst 0, 1) := by decide +kernel
theorem d_Mpg_checkFunction_69 : decode b_Mpg_checkFunction 69 = .ok (.putfield 553, 3) := by decide +kernel
theorem d_Mpg_checkFunction_72 : decode b_Mpg_checkFunction 72 = .ok (.aload_n 0, 1) := by decide +kernel
theorem d_Mpg_checkFunction_73 : decode b_Mpg_checkFunction 73 = .ok (.getfield 216, 3) := by decide +kernel
theorem d_Mpg_checkFunction_76 : decode b_Mpg_checkFunction 76 = .ok (.iload_n 2, 1) := by decide +kernel
theorem d_Mpg_checkFunction_77 : decode b_Mpg_checkFunction 77 = .ok (.iaload, 1) := by decide +kernel
theorem d_Mpg_checkFunction_78 : decode b_Mpg_checkFunction 78 = .ok (.istore 6, 2) := by decide +kernel
theorem d_Mpg_checkFunction_80 : decode b_Mpg_checkFunction 80 = .ok (.iload 6, 2) := by decide +kernel
theorem d_Mpg_checkFunction_82 : decode b_Mpg_checkFunction 82 = .ok (.ifCond .lt 150, 3) := by decide +kernel
theorem d_Mpg_checkFunction_85 : decode b_Mpg_checkFunction 85 = .ok (.aload_n 0, 1) := by decide +kernel
theorem d_Mpg_checkFunction_86 : decode b_Mpg_checkFunction 86 = .ok (.aload_n 0, 1) := by decide +kernel
theorem d_Mpg_checkFunction_87 : decode b_Mpg_checkFunction 87 = .ok (.getfield 210, 3) := by decide +kernel
theorem d_Mpg_checkFunction_90 : decode b_Mpg_checkFunction 90 = .ok (.iload 6, 2) := by decide +kernel
theorem d_Mpg_checkFunction_92 : decode b_Mpg_checkFunction 92 = .ok (.iaload, 1) := by decide +kernel
theorem d_Mpg_checkFunction_93 : decode b_Mpg_checkFunction 93 = .ok (.invokevirtual 618, 3) := by decide +kernel
theorem d_Mpg_checkFunction_96 : decode b_Mpg_checkFunction 96 = .ok (.aload_n 0, 1) := by decide +kernel
theorem d_Mpg_checkFunction_97 : decode b_Mpg_checkFunction 97 = .ok (.getfield 216, 3) := by decide +kernel
theorem d_Mpg_checkFunction_100 : decode b_Mpg_checkFunction 100 = .ok (.iload 6, 2) := by decide +kernel
theorem d_Mpg_checkFunction_102 : decode b_Mpg_checkFunction 102 = .ok (.iaload, 1) := by decide +kernel
theorem d_Mpg_checkFunction_103 : decode b_Mpg_checkFunction 103 = .ok (.ifCond .lt 7, 3) := by decide +kernel
theorem d_Mpg_checkFunction_106 : decode b_Mpg_checkFunction 106 = .ok (.iconst 1, 1) := by decide +kernel
theorem d_Mpg_checkFunction_107 : decode b_Mpg_checkFunction 107 = .ok (.goto 4, 3) := by decide +kernel
theorem d_Mpg_checkFunction_110 : decode b_Mpg_checkFunction 110 = .ok (.iconst 0, 1) := by decide +kernel
theorem d_Mpg_checkFunction_111 : decode b_Mpg_checkFunction 111 = .ok (.istore 7, 2) := by decide +kernel
theorem d_Mpg_checkFunction_113 : decode b_Mpg_checkFunction 113 = .ok (.aload_n 0, 1) := by decide +kernel
theorem d_Mpg_checkFunction_114 : decode b_Mpg_checkFunction 114 = .ok (.aload_n 0, 1) := by decide +kernel
theorem d_Mpg_checkFunction_115 : decode b_Mpg_checkFunction 115 = .ok (.getfield 621, 3) := by decide +kernel
theorem d_Mpg_checkFunction_118 : decode b_Mpg_checkFunction 118 = .ok (.iload 7, 2) := by decide +kernel
theorem d_Mpg_checkFunction_120 : decode b_Mpg_checkFunction 120 = .ok (.ifCond .eq 7, 3) := by decide +kernel
theorem d_Mpg_checkFunction_123 : decode b_Mpg_checkFunction 123 = .ok (.iconst 2, 1) := by decide +kernel
theorem d_Mpg_checkFunction_124 : decode b_Mpg_checkFunction 124 = .ok (.goto 4, 3) := by decide +kernel
theorem d_Mpg_checkFunction_127 : decode b_Mpg_checkFunction 127 = .ok (.iconst 1, 1) := by decide +kernel
theorem d_Mpg_checkFunction_128 : decode b_Mpg_checkFunction 128 = .ok (.iadd, 1) := by decide +kernel
theorem d_Mpg_checkFunction_129 : decode b_Mpg_checkFunction 129 = .ok (.putfield 621, 3) := by decide +kernel
theorem d_Mpg_checkFunction_132 : decode b_Mpg_checkFunction 132 = .ok (.aload_n 0, 1) := by decide +kernel
theorem d_Mpg_checkFunction_133 : decode b_Mpg_checkFunction 133 = .ok (.getfield 231, 3) := by decide +kernel
theorem d_Mpg_checkFunction_136 : decode b_Mpg_checkFunction 136 = .ok (.iload 6, 2) := by decide +kernel
theorem d_Mpg_checkFunction_138 : decode b_Mpg_checkFunction 138 = .ok (.iaload, 1) := by decide +kernel
theorem d_Mpg_checkFunction_139 : decode b_Mpg_checkFunction 139 = .ok (.iconst 1, 1) := by decide +kernel
theorem d_Mpg_checkFunction_140 : decode b_Mpg_checkFunction 140 = .ok (.if_icmp .ne 7, 3) := by decide +kernel
theorem d_Mpg_checkFunction_143 : decode b_Mpg_checkFunction 143 = .ok (.iconst 1, 1) := by decide +kernel
theorem d_Mpg_checkFunction_144 : decode b_Mpg_checkFunction 144 = .ok (.goto 4, 3) := by decide +kernel
theorem d_Mpg_checkFunction_147 : decode b_Mpg_checkFunction 147 = .ok (.iconst 0, 1) := by decide +kernel
theorem d_Mpg_checkFunction_148 : decode b_Mpg_checkFunction 148 = .ok (.istore 8, 2) := by decide +kernel
theorem d_Mpg_checkFunction_150 : decode b_Mpg_checkFunction 150 = .ok (.aload_n 0, 1) := by decide +kernel
theorem d_Mpg_checkFunction_151 : decode b_Mpg_checkFunction 151 = .ok (.getfield 219, 3) := by decide +kernel
theorem d_Mpg_checkFunction_154 : decode b_Mpg_checkFunction 154 = .ok (.iload 6, 2) := by decide +kernel
theorem d_Mpg_checkFunction_156 : decode b_Mpg_checkFunction 156 = .ok (.aload_n 0, 1) := by decide +kernel
theorem d_Mpg_checkFunction_157 : decode b_Mpg_checkFunction 157 = .ok (.iload 7, 2) := by decide +kernel
theorem d_Mpg_checkFunction_159 : decode b_Mpg_checkFunction 159 = .ok (.ifCond .eq 10, 3) := by decide +kernel
theorem d_Mpg_checkFunction_162 : decode b_Mpg_checkFunction 162 = .ok (.iconst 4, 1) := by decide +kernel
theorem d_Mpg_checkFunction_163 : decode b_Mpg_checkFunction 163 = .ok (.iload 8, 2) := by decide +kernel
theorem d_Mpg_checkFunction_165 : decode b_Mpg_checkFunction 165 = .ok (.iadd, 1) := by decide +kernel
theorem d_Mpg_checkFunction_166 : decode b_Mpg_checkFunction 166 = .ok (.goto 5, 3) := by decide +kernel
theorem d_Mpg_checkFunction_169 : decode b_Mpg_checkFunction 169 = .ok (.iload 8, 2) := by decide +kernel
theorem d_Mpg_checkFunction_171 : decode b_Mpg_checkFunction 171 = .ok (.iconst 1, 1) := by decide +kernel
theorem d_Mpg_checkFunction_172 : decode b_Mpg_checkFunction 172 = .ok (.invokevirtual 630, 3) := by decide +kernel
theorem d_Mpg_checkFunction_175 : decode b_Mpg_checkFunction 175 = .ok (.iastore, 1) := by decide +kernel
theorem d_Mpg_checkFunction_176 : decode b_Mpg_checkFunction 176 = .ok (.aload_n 0, 1) := by decide +kernel
theorem d_Mpg_checkFunction_177 : decode b_Mpg_checkFunction 177 = .ok (.aload_n 0, 1) := by decide +kernel
theorem d_Mpg_checkFunction_178 : decode b_Mpg_checkFunction 178 = .ok (.getfield 210, 3) := by decide +kernel
theorem d_Mpg_checkFunction_181 : decode b_Mpg_checkFunction 181 = .ok (.iload 6, 2) := by decide +kernel
theorem d_Mpg_checkFunction_183 : decode b_Mpg_checkFunction 183 = .ok (.iaload, 1) := by decide +kernel
theorem d_Mpg_checkFunction_184 : decode b_Mpg_checkFunction 184 = .ok (.iload 7, 2) := by decide +kernel
theorem d_Mpg_checkFunction_186 : decode b_Mpg_checkFunction 186 = .ok (.ifCond .ne 7, 3) := by decide +kernel
theorem d_Mpg_checkFunction_189 : decode b_Mpg_checkFunction 189 = .ok (.iconst 1, 1) := by decide +kernel
theorem d_Mpg_checkFunction_190 : decode b_Mpg_checkFunction 190 = .ok (.goto 19, 3) := by decide +kernel
theorem d_Mpg_checkFunction_193 : decode b_Mpg_checkFunction 193 = .ok (.aload_n 0, 1) := by decide +kernel
theorem d_Mpg_checkFunction_194 : decode b_Mpg_checkFunction 194 = .ok (.getfield 231, 3) := by decide +kernel
theorem d_Mpg_checkFunction_197 : decode b_Mpg_checkFunction 197 = .ok (.iload 6, 2) := by decide +kernel
theorem d_Mpg_checkFunction_199 : decode b_Mpg_checkFunction 199 = .ok (.iaload, 1) := by decide +kernel
theorem d_Mpg_checkFunction_200 : decode b_Mpg_checkFunction 200 = .ok (.iconst 1, 1) := by decide +kernel
theorem d_Mpg_checkFunction_201 : decode b_Mpg_checkFunction 201 = .ok (.if_icmp .ne 7, 3) := by decide +kernel
theorem d_Mpg_checkFunction_204 : decode b_Mpg_checkFunction 204 = .ok (.iconst 3, 1) := by decide +kernel
theorem d_Mpg_checkFunction_205 : decode b_Mpg_checkFunction 205 = .ok (.goto 4, 3) := by decide +kernel
theorem d_Mpg_checkFunction_208 : decode b_Mpg_checkFunction 208 = .ok (.iconst 2, 1) := by decide +kernel
theorem d_Mpg_checkFunction_209 : decode b_Mpg_checkFunction 209 = .ok (.iconst 0, 1) := by decide +kernel
theorem d_Mpg_checkFunction_210 : decode b_Mpg_checkFunction 210 = .ok (.aload_n 0, 1) := by decide +kernel
theorem d_Mpg_checkFunction_211 : decode b_Mpg_checkFunction 211 = .ok (.getfield 219, 3) := by decide +kernel
theorem d_Mpg_checkFunction_214 : decode b_Mpg_checkFunction 214 = .ok (.iload 6, 2) := by decide +kernel
theorem d_Mpg_checkFunction_216 : decode b_Mpg_checkFunction 216 = .ok (.iaload, 1) := by decide +kernel
theorem d_Mpg_checkFunction_217 : decode b_Mpg_checkFunction 217 = .ok (.invokevirtual 633, 3) := by decide +kernel
theorem d_Mpg_checkFunction_220 : decode b_Mpg_checkFunction 220 = .ok (.aload_n 0, 1) := by decide +kernel
theorem d_Mpg_checkFunction_221 : decode b_Mpg_checkFunction 221 = .ok (.getfield 228, 3) := by decide +kernel
theorem d_Mpg_checkFunction_224 : decode b_Mpg_checkFunction 224 = .ok (.iload 6, 2) := by decide +kernel
theorem d_Mpg_checkFunction_226 : decode b_Mpg_checkFunction 226 = .ok (.iaload, 1) := by decide +kernel
theorem d_Mpg_checkFunction_227 : decode b_Mpg_checkFunction 227 = .ok (.istore 6, 2) := by decide +kernel
theorem d_Mpg_checkFunction_229 : decode b_Mpg_checkFunction 229 = .ok (.goto (-149), 3) := by decide +kernel
theorem d_Mpg_checkFunction_232 : decode b_Mpg_checkFunction 232 = .ok (.aload_n 0, 1) := by decide +kernel
theorem d_Mpg_checkFunction_233 : decode b_Mpg_checkFunction 233 = .ok (.aload_n 0, 1) := by decide +kernel
theorem d_Mpg_checkFunction_234 : decode b_Mpg_checkFunction 234 = .ok (.getfield 216, 3) := by decide +kernel
theorem d_Mpg_checkFunction_237 : decode b_Mpg_checkFunction 237 = .ok (.aload_n 0, 1) := by decide +kernel
theorem d_Mpg_checkFunction_238 : decode b_Mpg_checkFunction 238 = .ok (.getfield 219, 3) := by decide +kernel
theorem d_Mpg_checkFunction_241 : decode b_Mpg_checkFunction 241 = .ok (.iload_n 2, 1) := by decide +kernel
theorem d_Mpg_checkFunction_242 : decode b_Mpg_checkFunction 242 = .ok (.iaload, 1) := by decide +kernel
theorem d_Mpg_checkFunction_243 : decode b_Mpg_checkFunction 243 = .ok (.iaload, 1) := by decide +kernel
theorem d_Mpg_checkFunction_244 : decode b_Mpg_checkFunction 244 = .ok (.invokevirtual 639, 3) := by decide +kernel
theorem d_Mpg_checkFunction_247 : decode b_Mpg_checkFunction 247 = .ok (.aload_n 0, 1) := by decide +kernel
theorem d_Mpg_checkFunction_248 : decode b_Mpg_checkFunction 248 = .ok (.iconst 0, 1) := by decide +kernel
theorem d_Mpg_checkFunction_249 : decode b_Mpg_checkFunction 249 = .ok (.putfield 673, 3) := by decide +kernel
theorem d_Mpg_checkFunction_252 : decode b_Mpg_checkFunction 252 = .ok (.aload_n 0, 1) := by decide +kernel
theorem d_Mpg_checkFunction_253 : decode b_Mpg_checkFunction 253 = .ok (.getfield 522, 3) := by decide +kernel
theorem d_Mpg_checkFunction_256 : decode b_Mpg_checkFunction 256 = .ok (.ifCond .ne 18, 3) := by decide +kernel
theorem d_Mpg_checkFunction_259 : decode b_Mpg_checkFunction 259 = .ok (.aload_n 0, 1) := by decide +kernel
theorem d_Mpg_checkFunction_260 : decode b_Mpg_checkFunction 260 = .ok (.aload_n 0, 1) := by decide +kernel
theorem d_Mpg_checkFunction_261 : decode b_Mpg_checkFunction 261 = .ok (.getfield 216, 3) := by decide +kernel
theorem d_Mpg_checkFunction_264 : decode b_Mpg_checkFunction 264 = .ok (.aload_n 0, 1) := by decide +kernel
theorem d_Mpg_checkFunction_265 : decode b_Mpg_checkFunction 265 = .ok (.getfield 219, 3) := by decide +kernel
theorem d_Mpg_checkFunction_268 : decode b_Mpg_checkFunction 268 = .ok (.iload_n 2, 1) := by decide +kernel
theorem d_Mpg_checkFunction_269 : decode b_Mpg_checkFunction 269 = .ok (.iaload, 1) := by decide +kernel
theorem d_Mpg_checkFunction_270 : decode b_Mpg_checkFunction 270 = .ok (.iaload, 1) := by decide +kernel
theorem d_Mpg_checkFunction_271 : decode b_Mpg_checkFunction 271 = .ok (.invokevirtual 676, 3) := by decide +kernel
theorem d_Mpg_checkFunction_274 : decode b_Mpg_checkFunction 274 = .ok (.aload_n 0, 1) := by decide +kernel
theorem d_Mpg_checkFunction_275 : decode b_Mpg_checkFunction 275 = .ok (.getfield 258, 3) := by decide +kernel
theorem d_Mpg_checkFunction_278 : decode b_Mpg_checkFunction 278 = .ok (.iload_n 1, 1) := by decide +kernel
theorem d_Mpg_checkFunction_279 : decode b_Mpg_checkFunction 279 = .ok (.aload_n 0, 1) := by decide +kernel
theorem d_Mpg_checkFunction_280 : decode b_Mpg_checkFunction 280 = .ok (.getfield 621, 3) := by decide +kernel
theorem d_Mpg_checkFunction_283 : decode b_Mpg_checkFunction 283 = .ok (.aload_n 0, 1) := by decide +kernel
theorem d_Mpg_checkFunction_284 : decode b_Mpg_checkFunction 284 = .ok (.getfield 673, 3) := by decide +kernel
theorem d_Mpg_checkFunction_287 : decode b_Mpg_checkFunction 287 = .ok (.iadd, 1) := by decide +kernel
theorem d_Mpg_checkFunction_288 : decode b_Mpg_checkFunction 288 = .ok (.iastore, 1) := by decide +kernel
theorem d_Mpg_checkFunction_289 : decode b_Mpg_checkFunction 289 = .ok (.aload_n 0, 1) := by decide +kernel
theorem d_Mpg_checkFunction_290 : decode b_Mpg_checkFunction 290 = .ok (.getfield 277, 3) := by decide +kernel
theorem d_Mpg_checkFunction_293 : decode b_Mpg_checkFunction 293 = .ok (.iload_n 1, 1) := by decide +kernel
theorem d_Mpg_checkFunction_294 : decode b_Mpg_checkFunction 294 = .ok (.aload_n 0, 1) := by decide +kernel
theorem d_Mpg_checkFunction_295 : decode b_Mpg_checkFunction 295 = .ok (.getfield 553, 3) := by decide +kernel
theorem d_Mpg_checkFunction_298 : decode b_Mpg_checkFunction 298 = .ok (.iastore, 1) := by decide +kernel
theorem d_Mpg_checkFunction_299 : decode b_Mpg_checkFunction 299 = .ok (.aload_n 0, 1) := by decide +kernel
theorem d_Mpg_checkFunction_300 : decode b_Mpg_checkFunction 300 = .ok (.iconst (-1), 1) := by decide +kernel
theorem d_Mpg_checkFunction_301 : decode b_Mpg_checkFunction 301 = .ok (.putfield 550, 3) := by decide +kernel
theorem d_Mpg_checkFunction_304 : decode b_Mpg_checkFunction 304 = .ok (.aload_n 0, 1) := by decide +kernel
theorem d_Mpg_checkFunction_305 : decode b_Mpg_checkFunction 305 = .ok (.iload 4, 2) := by decide +kernel
theorem d_Mpg_checkFunction_307 : decode b_Mpg_checkFunction 307 = .ok (.iload 5, 2) := by decide +kernel
theorem d_Mpg_checkFunction_309 : decode b_Mpg_checkFunction 309 = .ok (.invokevirtual 642, 3) := by decide +kernel
theorem d_Mpg_checkFunction_312 : decode b_Mpg_checkFunction 312 = .ok (.return_, 1) := by decide +kernel
theorem q_Mpg_checkFunction : px_y y_Mpg_checkFunction 1 := by unfold px_y; decide +kernel
set_option maxHeartbeats 4000000 in
set_option maxRecDepth 100000 in
theorem c_mp_checkFunction (l : Launch) (D : va_G) (cs : Nat → ClassId) (ma0 : Nat → Nat → Int32) (nf : Int) (d : Nat) (lo : Int) (hi : Int) (w : Int) (h : Nat) (r : Nat → Nat) (g : Nat → Nat → Option Nat) (tf : Nat → Int32) (ta : Nat → Nat → Int32) (pf : Nat → Int32) (na : Nat → Nat → Int32) (wa : Nat → Nat → Int32) (ef : Nat → Int32) (ea : Nat → Nat → Int32) (xf : Nat → Int32) (xa : Nat → Nat → Int32) (ma : Nat → Nat → Int32) (cf : Nat → Int32) (ca : Nat → Nat → Int32) (p0 : Int32)  (g0 : 0 ≤ lo) (g1 : hi ≤ (pf 13).toInt) (g2 : (pf 13).toInt ≤ 2100) (g3 : (tf 6).toInt ≤ 2049) (g4 : 0 ≤ (cf 33).toInt) (g5 : 0 ≤ w) (g6 : 6 * (cf 33).toInt + w ≤ 6540) (g7 : 0 ≤ (cf 48).toInt) (g8 : 6 * (cf 48).toInt + w ≤ 6540) (g9 : (cf 38).toInt = nf) (g10 : 0 ≤ nf) (g11 : 0 ≤ (cf 37).toInt) (g12 : (cf 44).toInt = 0) (g13 : (cf 45).toInt = 0) (g14 : 0 ≤ (cf 46).toInt) (g15 : (cf 46).toInt ≤ 1) (g16 : 0 ≤ (cf 47).toInt) (g17 : (cf 47).toInt ≤ 1) (g18 : 0 ≤ p0.toInt) (g19 : p0.toInt < nf) (g20 : (d : Int) ≤ 300) (htk : TkI tf ta) (hfs : FsI (tf 6).toInt (pf 13).toInt na) (hwr : WrV cf (tf 6).toInt) (hkt : KnT (tf 6).toInt ca (cf 33).toInt) (hft : FnT (tf 6).toInt na ca (cf 38).toInt) (hks9 : KnS ca (cf 33).toInt (cf 48).toInt 5000) (hfp : FnP na ca nf) (han : Ann na ma0 ma) (hfu : FuV ta (tf 6).toInt na ma0 d lo hi w (ca 39 p0.toNatClampNeg)) : MetV l y_Mpg_checkFunction b_Mpg_checkFunction 9 D cs (6 * d + 30) (260 * d + 1200) (0) (0) [.ref h, .int p0] [wdP cs h r g tf ta pf na ma wa cf ca ef ea xf xa] (oX (fun A U H => (oP A g U H)) [wdP cs h r g tf ta pf na ma wa cf ca ef ea xf xa]) (fun ps => ∃ (ma' : Nat → Nat → Int32) (cf' : Nat → Int32) (ca' : Nat → Nat → Int32), (ps = [wdP cs h r g tf ta pf na ma' wa cf' ca' ef ea xf xa]) ∧ ((cf' 30).toInt = 0 → (cf 30).toInt = 0) ∧ (WrV cf' (tf 6).toInt) ∧ ((cf' 33).toInt = (cf 33).toInt) ∧ ((cf' 37).toInt = (cf 37).toInt) ∧ ((cf' 38).toInt = (cf 38).toInt) ∧ ((cf' 41).toInt = (cf 41).toInt) ∧ ((cf' 44).toInt = (cf 44).toInt) ∧ ((cf' 45).toInt = (cf 45).toInt) ∧ ((cf' 46).toInt = (cf 46).toInt) ∧ ((cf' 47).toInt = (cf 47).toInt) ∧ ((cf' 55).toInt = (cf 55).toInt) ∧ ((cf' 43).toInt = -1) ∧ ((cf 48).toInt ≤ (cf' 48).toInt) ∧ (6 * (cf' 48).toInt ≤ 6 * (cf 48).toInt + w) ∧ (KnT (tf 6).toInt ca' (cf' 33).toInt) ∧ (KnS ca' (cf' 33).toInt (cf' 48).toInt 5000) ∧ (CaF ca ca' (cf 33).toInt (cf 48).toInt p0.toNatClampNeg) ∧ (Ann na ma0 ma') ∧ (FrC lo hi ma ma') ∧ (ZFn cf' ta ca' na ma0 ma' nf (cf' 48).toInt lo hi d p0) ∧ (ZFu cf' ta na ca p0) ∧ (Sy0 ca' (cf 48).toInt (cf' 48).toInt)) := by
  refine px_enter (by decide) (Nat.le_of_ble_eq_true rfl) ?_
  intro p e s m below meth c A ls hAe S hr hlk hnm hA hT hX hw hl
  replace hl : lv_has ls 9 [(0, .ref h), (1, .int p0)] := hl
  have lp0 := Int32.le_toInt p0
  have up0 := Int32.toInt_lt p0
  have cstm1 : ((-1) : Int32).toInt = (-1) := rfl
  have cst0 : (0 : Int32).toInt = 0 := rfl
  have cst1 : (1 : Int32).toInt = 1 := rfl
  have cst2 : (2 : Int32).toInt = 2 := rfl
  have cst3 : (3 : Int32).toInt = 3 := rfl
  have cst4 : (4 : Int32).toInt = 4 := rfl
  have hX : (fun A U H => (oP A g U H)) A s s.heap := by rw [hAe]; exact hX
  have hP := hX
  have hZ := hP.1
  have hF0 := hP.2.1
  obtain ⟨nd, e_nd⟩ : ∃ y : Int32, y = ca 39 p0.toNatClampNeg := ⟨_, rfl⟩
  rw [← e_nd] at hfu
  obtain ⟨hnr, hk41, htn, h22n, hw24, m1, wp, wb, hm1, hrpA, hk20, hscb, hws, hwp, hwb⟩ := hfu
  obtain ⟨ys, hys⟩ : ∃ y : Int, y = (cf 48).toInt := ⟨_, rfl⟩
  obtain ⟨tx, htx0⟩ : ∃ y : Int, y = 0 := ⟨_, rfl⟩
  have hks : KnS ca (cf 33).toInt (cf 48).toInt ys := KnS.yy hks9 (by omega)
  have hkt0 := hkt
  have hks0 := hks
  have hft0 := hft
  have hfp0 := hfp
  have hsr : SyR ca ys (cf 48).toInt 0 tx := syr_0 (by omega)
  have htx : txo nd.toInt = tx := (by unfold txo; rw [if_neg (by omega)]; omega)
  have hfc : FrC lo hi ma ma := FrC.rf
  have hwr0 := hwr.1
  have hk11 := hkt.1
  have hf11 := hft.1
  have hcg : CaG ca ca (cf 33).toInt (cf 48).toInt := CaG.rf
  have hLS := stc_all l D cs d
  have hLQ := msc_all l D cs d
  have hrb := ScV.rng hscb
  replace hrpA : RvP ta (tf 6).toInt na ma0 (nd.toInt + 1) m1 wp (na 17 nd.toNatClampNeg) := hrpA
  have J80 : ∀ (n_80 : Nat) (ma_80 : Nat → Nat → Int32) (cf_80 : Nat → Int32) (ca_80 : Nat → Nat → Int32) (mid_80 : Int) (wr_80 : Int) (x80_4 x80_5 x80_6 : Int32) (H : Heap) (locs : List Loc) (ls : Array Slot), ((cf_80 30).toInt = 0 → (cf 30).toInt = 0) → (WrV cf_80 (tf 6).toInt) → ((cf_80 38).toInt = (cf 38).toInt) → ((cf_80 44).toInt = (cf 44).toInt) → ((cf_80 45).toInt = (cf 45).toInt) → ((cf_80 46).toInt = (cf 46).toInt) → ((cf_80 47).toInt = (cf 47).toInt) → ((cf_80 41).toInt = (cf 41).toInt) → ((cf_80 55).toInt = (cf 55).toInt) → ((cf_80 37).toInt = (cf 33).toInt) → ((cf_80 43).toInt = nd.toInt) → ((cf 33).toInt ≤ (cf_80 33).toInt) → (6 * (cf_80 33).toInt ≤ 6 * (cf 33).toInt + (wp - wr_80)) → ((cf 48).toInt ≤ (cf_80 48).toInt) → (6 * (cf_80 48).toInt ≤ 6 * (cf 48).toInt + (wp - wr_80)) → (4 ≤ (cf_80 42).toInt) → (0 ≤ (cf_80 54).toInt) → ((cf_80 54).toInt ≤ 4 * ((cf_80 42).toInt - 4)) → ((cf_80 54).toInt ≤ 4096 * ((cf_80 48).toInt - (cf 48).toInt)) → ((cf_80 42).toInt - 4 ≤ 4096 * ((cf_80 48).toInt - (cf 48).toInt)) → (x80_4.toInt = (cf 33).toInt) → (x80_5.toInt = (cf 37).toInt) → (nd.toInt + 1 ≤ mid_80) → (mid_80 ≤ m1) → (0 ≤ wr_80) → (wr_80 ≤ wp) → (KnT (tf 6).toInt ca_80 (cf_80 33).toInt) → (KnS ca_80 (cf_80 33).toInt (cf_80 48).toInt ys) → (CaG ca ca_80 (cf 33).toInt (cf 48).toInt) → (SyR ca_80 ys (cf_80 48).toInt (cf_80 54).toInt tx) → (Ann na ma0 ma_80) → (FrC lo hi ma ma_80) → (RvP ta (tf 6).toInt na ma0 mid_80 m1 wr_80 x80_6) → (PrS ca_80 (cf_80 48).toInt ys na ma_80 lo mid_80 (na 17 nd.toNatClampNeg) x80_6) → (ZFu cf_80 ta na ca p0) → m1 - mid_80 < (n_80 : Int) → pw D A s.heap H locs [wdP cs h r g tf ta pf na ma_80 wa cf_80 ca_80 ef ea xf xa] → lv_has ls 9 [(0, .ref h), (1, .int p0), (2, .int nd), (4, .int x80_4), (5, .int x80_5), (6, .int x80_6)] → W p l e { frames := (6 * d + 30), cells := 0, slots := 0, locals := (260 * d + 1200) } s m [.ref h, .int p0].toArray below meth c H locs 0 0 (MQ below (va_Qv (fun ps => ∃ (ma' : Nat → Nat → Int32) (cf' : Nat → Int32) (ca' : Nat → Nat → Int32), (ps = [wdP cs h r g tf ta pf na ma' wa cf' ca' ef ea xf xa]) ∧ ((cf' 30).toInt = 0 → (cf 30).toInt = 0) ∧ (WrV cf' (tf 6).toInt) ∧ ((cf' 33).toInt = (cf 33).toInt) ∧ ((cf' 37).toInt = (cf 37).toInt) ∧ ((cf' 38).toInt = (cf 38).toInt) ∧ ((cf' 41).toInt = (cf 41).toInt) ∧ ((cf' 44).toInt = (cf 44).toInt) ∧ ((cf' 45).toInt = (cf 45).toInt) ∧ ((cf' 46).toInt = (cf 46).toInt) ∧ ((cf' 47).toInt = (cf 47).toInt) ∧ ((cf' 55).toInt = (cf 55).toInt) ∧ ((cf' 43).toInt = -1) ∧ ((cf 48).toInt ≤ (cf' 48).toInt) ∧ (6 * (cf' 48).toInt ≤ 6 * (cf 48).toInt + w) ∧ (KnT (tf 6).toInt ca' (cf' 33).toInt) ∧ (KnS ca' (cf' 33).toInt (cf' 48).toInt 5000) ∧ (CaF ca ca' (cf 33).toInt (cf 48).toInt p0.toNatClampNeg) ∧ (Ann na ma0 ma') ∧ (FrC lo hi ma ma') ∧ (ZFn cf' ta ca' na ma0 ma' nf (cf' 48).toInt lo hi d p0) ∧ (ZFu cf' ta na ca p0) ∧ (Sy0 ca' (cf 48).toInt (cf' 48).toInt)) (pc_B D (va_A ([wdP cs h r g tf ta pf na ma wa cf ca ef ea xf xa] : List va_W).flatten s.heap.size)) (va_A ([wdP cs h r g tf ta pf na ma wa cf ca ef ea xf xa] : List va_W).flatten s.heap.size)) [.ref h, .int p0].toArray s 0 0 A) (F0 m 80 ls []) := by
    intro  n_80
    induction n_80 with
    | zero =>
      intro ma_80 cf_80 ca_80 mid_80 wr_80 x80_4 x80_5 x80_6 H locs ls k80_0 k80_1 k80_2 k80_3 k80_4 k80_5 k80_6 k80_7 k80_8 k80_9 k80_10 k80_11 k80_12 k80_13 k80_14 k80_15 k80_16 k80_17 k80_18 k80_19 k80_20 k80_21 k80_22 k80_23 k80_24 k80_25 k80_26 k80_27 k80_28 k80_29 k80_30 k80_31 k80_32 k80_33 k80_34 hm hw hl
      have lx80_4 := Int32.le_toInt x80_4
      have ux80_4 := Int32.toInt_lt x80_4
      have lx80_5 := Int32.le_toInt x80_5
      have ux80_5 := Int32.toInt_lt x80_5
      have lx80_6 := Int32.le_toInt x80_6
      have ux80_6 := Int32.toInt_lt x80_6
      have hwr := k80_1
      have hw0_k80_1 := hwr.1
      have hkt := k80_26
      have hk11_k80_26 := hkt.1
      have hks := k80_27
      have hcg := k80_28
      have hft := hft0.cg k80_28
      have hfp := hfp0.cg k80_28
      have hsr := k80_29
      have han := k80_30
      have hfc := k80_31
      have hrp := k80_32
      have hprs := k80_33
      have hzfu := k80_34
      exact absurd hm (by omega)
    | succ n_80 ih80 =>
      intro ma_80 cf_80 ca_80 mid_80 wr_80 x80_4 x80_5 x80_6 H locs ls k80_0 k80_1 k80_2 k80_3 k80_4 k80_5 k80_6 k80_7 k80_8 k80_9 k80_10 k80_11 k80_12 k80_13 k80_14 k80_15 k80_16 k80_17 k80_18 k80_19 k80_20 k80_21 k80_22 k80_23 k80_24 k80_25 k80_26 k80_27 k80_28 k80_29 k80_30 k80_31 k80_32 k80_33 k80_34 hm hw hl
      have lx80_4 := Int32.le_toInt x80_4
      have ux80_4 := Int32.toInt_lt x80_4
      have lx80_5 := Int32.le_toInt x80_5
      have ux80_5 := Int32.toInt_lt x80_5
      have lx80_6 := Int32.le_toInt x80_6
      have ux80_6 := Int32.toInt_lt x80_6
      have hwr := k80_1
      have hw0_k80_1 := hwr.1
      have hkt := k80_26
      have hk11_k80_26 := hkt.1
      have hks := k80_27
      have hcg := k80_28
      have hft := hft0.cg k80_28
      have hfp := hfp0.cg k80_28
      have hsr := k80_29
      have han := k80_30
      have hfc := k80_31
      have hrp := k80_32
      have hprs := k80_33
      have hzfu := k80_34
      refine lv_iload S.x S.b d_Mpg_checkFunction_80 (lv_at hl 5 rfl) ?_
      refine lv_if_lt (tgt := 232) S.x S.b d_Mpg_checkFunction_82 (by decide) (fun c1 => ?_) (fun c1 => ?_)
      · have nc1 : x80_6.toInt < (0 : Int) := (i_lt (x := x80_6) (y := 0)).mp c1
        refine lv_aload_n S.x S.b d_Mpg_checkFunction_232 rfl (lv_at hl 0 rfl) ?_
        refine lv_aload_n S.x S.b d_Mpg_checkFunction_233 rfl (lv_at hl 0 rfl) ?_
        refine px_get S k_Mpg hT hw 0 0 17 (v := .ref (r 17)) rfl rfl rfl (by decide) m10_1 d_Mpg_checkFunction_234 ?_
        refine lv_aload_n S.x S.b d_Mpg_checkFunction_237 rfl (lv_at hl 0 rfl) ?_
        refine px_get S k_Mpg hT hw 0 0 18 (v := .ref (r 18)) rfl rfl rfl (by decide) m10_3 d_Mpg_checkFunction_238 ?_
        refine lv_iload_n S.x S.b d_Mpg_checkFunction_241 rfl (lv_at hl 2 rfl) ?_
        refine px_iald S hT hw 0 14 (n := 2100) (f := (ma_80 18)) rfl gp_18 (x := nd) (vp_in_iff.mpr (by constructor <;> omega)) d_Mpg_checkFunction_242 ?_
        refine lv_topi (fun z2 ez2 => ?_)
        have lz2 := Int32.le_toInt z2
        have uz2 := Int32.toInt_lt z2
        have ha_z2 : z2 = ma0 18 nd.toNatClampNeg := ez2.trans (Ann.v18 han (by omega)); have hn_z2 : z2.toInt = (ma0 18 nd.toNatClampNeg).toInt := (by rw [ha_z2])
        refine px_iald S hT hw 0 13 (n := 2100) (f := (na 17)) rfl gp_17 (x := z2) (vp_in_iff.mpr (by constructor <;> omega)) d_Mpg_checkFunction_243 ?_
        refine lv_topi (fun z3 ez3 => ?_)
        have lz3 := Int32.le_toInt z3
        have uz3 := Int32.toInt_lt z3
        have rz3 : z3.toInt = (na 17 z2.toNatClampNeg).toInt := by rw [ez3]
        have ha_z3 : z3 = na 17 (ma0 18 nd.toNatClampNeg).toNatClampNeg := (by rw [ez3, ha_z2]); have hrs_z3 : RvS ta (tf 6).toInt na ma0 d ((ma0 18 nd.toNatClampNeg).toInt + 1) hi wb z3 := (by rw [ha_z3]; exact ScV.s20 hscb (by omega) rfl)
        refine px_callv (pr := []) (px_runV (As := [.int z3]) (rest := []) S (c_mp_statements l D cs ma0 ys nf tx d ((ma0 18 nd.toNatClampNeg).toInt + 1) hi wb h r g tf ta pf na wa ef ea xf xa ma_80 cf_80 ca_80 z3  (show 0 ≤ ((ma0 18 nd.toNatClampNeg).toInt + 1) from by first | with_reducible rfl | with_reducible assumption | omega) (show hi ≤ (pf 13).toInt from by first | exact g1 | omega) (show (pf 13).toInt ≤ 2100 from by first | exact g2 | omega) (show (tf 6).toInt ≤ 2049 from by first | exact g3 | omega) (show 0 ≤ (cf_80 33).toInt from by first | exact oz_16d7fa9f32 k80_11 g4 | omega) (show 0 ≤ wb from by first | exact oz_ed756c8324 | omega) (show 6 * (cf_80 33).toInt + wb ≤ 6540 from by first | with_reducible rfl | with_reducible assumption | omega) (show 0 ≤ (cf_80 48).toInt from by first | exact oz_f10fc4399c k80_19 g7 k80_15 | omega) (show 6 * (cf_80 48).toInt + wb ≤ 6540 from by first | with_reducible rfl | with_reducible assumption | omega) (show (cf_80 38).toInt = nf from by first | exact oz_1687f4cc65 g9 k80_2 | omega) (show 0 ≤ nf from by first | exact g10 | omega) (show 0 ≤ (cf_80 37).toInt from by first | exact oz_f3ebed1ad0 k80_9 g4 | omega) (show 0 ≤ (cf_80 54).toInt from by first | exact k80_16 | omega) (show (cf_80 54).toInt ≤ 4096 * (cf_80 48).toInt from by first | exact oz_a0605c1f11 k80_18 g7 | omega) (show 0 ≤ (cf_80 42).toInt from by first | exact oz_1996704690 k80_15 | omega) (show (cf_80 42).toInt ≤ 4 + 4096 * (cf_80 48).toInt from by first | exact oz_9f0e46e5a4 k80_19 g7 | omega) (show 0 ≤ (cf_80 44).toInt from by first | exact oz_d68b2b83bb k80_3 g12 | omega) (show 0 ≤ (cf_80 45).toInt from by first | exact oz_d68b2b83bb k80_4 g13 | omega) (show ys ≤ (cf_80 48).toInt ∨ tx = 1 from by first | with_reducible rfl | with_reducible assumption | omega) (show 0 ≤ (cf_80 46).toInt from by first | exact oz_f3ebed1ad0 k80_5 g14 | omega) (show (cf_80 46).toInt ≤ 1 from by first | exact oz_878017becc k80_5 g15 | omega) (show 0 ≤ (cf_80 47).toInt from by first | exact oz_f3ebed1ad0 k80_6 g16 | omega) (show (cf_80 47).toInt ≤ 1 from by first | exact oz_878017becc k80_6 g17 | omega) (show (cf_80 44).toInt + (d : Int) ≤ 400 from by first | exact oz_348f6f8c37 g20 k80_3 g12 | omega) (show (cf_80 45).toInt + (d : Int) ≤ 400 from by first | exact oz_348f6f8c37 g20 k80_4 g13 | omega) (show 0 ≤ (cf_80 43).toInt from by first | with_reducible rfl | with_reducible assumption | omega) (show (cf_80 43).toInt < 2100 from by first | with_reducible rfl | with_reducible assumption | omega) (show tx = 0 from by first | with_reducible rfl | with_reducible assumption | omega) (show ((ma0 18 nd.toNatClampNeg).toInt + 1) ≤ hi from by first | with_reducible rfl | with_reducible assumption | omega) htk (FsI.le (N' := (pf 13).toInt) hfs (by omega)) hwr (KnT.eq hkt (by omega)) (FnT.eq hft (by omega)) (KnS.eq hks (by omega) (by omega)) hfp (SyR.eq hsr (by omega) (by omega)) han (show txo (cf_80 43).toInt = tx from by rw [show (cf_80 43).toInt = nd.toInt by omega]; exact htx) hrs_z3 hLS _) hT (pr := []) (pcs := [wdP cs h r g tf ta pf na ma_80 wa cf_80 ca_80 ef ea xf xa]) hw (oX_call (P := (fun A U H => (oP A g U H))) (pr := []) oG_P hw hA hP) (px_recv hT hw 0 0 rfl rfl rfl) m12_197 m12_194 m12_196 ms_12_2 m1_21 q_Mpg_statements ⟨show (6 * d + 27) + 1 ≤ (6 * d + 30) from by first | with_reducible rfl | with_reducible assumption | omega, show 8 + (3 + 11) + (260 * d + 940) ≤ (260 * d + 1200) from by first | with_reducible rfl | with_reducible assumption | omega⟩ hl.1 rfl (Nat.le_of_ble_eq_true rfl) d_Mpg_checkFunction_244 ⟨Nat.le_of_ble_eq_true rfl, Nat.le_of_ble_eq_true rfl⟩) hw hA (fun p10 H locs hp10 hw => ?_)
        obtain ⟨ma7, cf8, ca9, rfl, e12, e13, e14, e15, e16, e17, e18, e19, e20, e21, e22, e23, e24, e25, e26, e27, e28, e29, e30, e31, e32, e33, e34, e35, e36, e37, e38, e39⟩ := hp10
        replace e12 : (cf8 30).toInt = 0 → (cf_80 30).toInt = 0 := e12
        replace e13 : WrV cf8 (tf 6).toInt := e13
        have hwr := e13
        have hw0_e13 := hwr.1
        replace e14 : (cf8 37).toInt = (cf_80 37).toInt := e14
        replace e15 : (cf8 38).toInt = (cf_80 38).toInt := e15
        replace e16 : (cf8 43).toInt = (cf_80 43).toInt := e16
        replace e17 : (cf8 44).toInt = (cf_80 44).toInt := e17
        replace e18 : (cf8 45).toInt = (cf_80 45).toInt := e18
        replace e19 : (cf8 46).toInt = (cf_80 46).toInt := e19
        replace e20 : (cf8 47).toInt = (cf_80 47).toInt := e20
        replace e21 : (cf8 41).toInt = (cf_80 41).toInt := e21
        replace e22 : (cf8 55).toInt = (cf_80 55).toInt := e22
        replace e23 : (cf8 59).toInt = (cf_80 59).toInt := e23
        replace e24 : (cf_80 33).toInt ≤ (cf8 33).toInt := e24
        replace e25 : 6 * (cf8 33).toInt ≤ 6 * (cf_80 33).toInt + (wb) := e25
        replace e26 : (cf_80 48).toInt ≤ (cf8 48).toInt := e26
        replace e27 : 6 * (cf8 48).toInt ≤ 6 * (cf_80 48).toInt + (wb) := e27
        replace e28 : (cf_80 54).toInt ≤ (cf8 54).toInt := e28
        replace e29 : (cf_80 42).toInt ≤ (cf8 42).toInt := e29
        replace e30 : (cf8 54).toInt - (cf_80 54).toInt ≤ 4 * ((cf8 42).toInt - (cf_80 42).toInt) := e30
        replace e31 : (cf8 54).toInt - (cf_80 54).toInt ≤ 4096 * ((cf8 48).toInt - (cf_80 48).toInt) := e31
        replace e32 : (cf8 42).toInt - (cf_80 42).toInt ≤ 4096 * ((cf8 48).toInt - (cf_80 48).toInt) := e32
        replace e33 : KnT (tf 6).toInt ca9 (cf8 33).toInt := e33
        have hkt := e33
        have hk11_e33 := hkt.1
        replace e34 : KnS ca9 (cf8 33).toInt (cf8 48).toInt ys := e34
        have hks := e34
        replace e35 : CaG ca_80 ca9 (cf_80 33).toInt (cf_80 48).toInt := e35
        have hcg := hcg.tr e35 (by omega) (by omega)
        have hft := hft.cg e35
        have hfp := hfp.cg e35
        replace e36 : SyR ca9 ys (cf8 48).toInt (cf8 54).toInt tx := e36
        have hsr := e36
        replace e37 : Ann na ma0 ma7 := e37
        have han := e37
        replace e38 : FrC ((ma0 18 nd.toNatClampNeg).toInt + 1) hi ma_80 ma7 := e38
        have hfc := hfc.tr e38 (by omega) (by omega)
        have hprs : PrS ca9 (cf8 48).toInt ys na ma7 lo mid_80 (na 17 nd.toNatClampNeg) x80_6 := PrS.tr hprs e38 (by omega) e35 (by omega) (by omega)
        have hzfu : ZFu cf8 ta na ca p0 := (fun q9 => hzfu (by omega))
        replace e39 : ZTw cf8 ta ca9 na ma0 (cf8 48).toInt ys nf ma7 ((ma0 18 nd.toNatClampNeg).toInt + 1) hi z3 (tgv (cf_80 44).toInt (cf_80 45).toInt) := e39
        have hzw : ZTw cf8 ta ca9 na ma0 (cf8 48).toInt ys nf ma7 ((ma0 18 nd.toNatClampNeg).toInt + 1) hi z3 2 := ZTw.to e39 (fun q => by omega) (by omega) (Int.le_refl _) (Int.le_refl _) (tgv_0 (by omega) (by omega))
        replace hw : pw D A s.heap H locs [wdP cs h r g tf ta pf na ma7 wa cf8 ca9 ef ea xf xa] := hw
        refine lv_aload_n S.x S.b d_Mpg_checkFunction_247 rfl (lv_at hl 0 rfl) ?_
        refine lv_iconst (v := 0) S.x S.b d_Mpg_checkFunction_248 (by decide) ?_
        refine px_put S k_Mpg hT hw 0 0 59 rfl rfl (by decide) m10_56 rfl rfl rfl (Nat.le_of_ble_eq_true rfl) d_Mpg_checkFunction_249 (w' := wdP cs h r g tf ta pf na ma7 wa (upd cf8 59 0) ca9 ef ea xf xa) (ps' := [wdP cs h r g tf ta pf na ma7 wa (upd cf8 59 0) ca9 ef ea xf xa]) rfl rfl (fun H locs hw => ?_)
        refine lv_aload_n S.x S.b d_Mpg_checkFunction_252 rfl (lv_at hl 0 rfl) ?_
        refine px_get S k_Mpg hT hw 0 0 30 (v := .int (cf8 30)) rfl rfl rfl (by decide) m10_18 d_Mpg_checkFunction_253 ?_
        refine lv_if_ne (tgt := 274) S.x S.b d_Mpg_checkFunction_256 (by decide) (fun c40 => ?_) (fun c40 => ?_)
        · have nc40 : ¬ (cf8 30).toInt = (0 : Int) := mt (i_eq (x := (cf8 30)) (y := 0)).mpr c40
          refine lv_aload_n S.x S.b d_Mpg_checkFunction_274 rfl (lv_at hl 0 rfl) ?_
          refine px_get S k_Mpg hT hw 0 0 40 (v := .ref (r 40)) rfl rfl rfl (by decide) m10_30 d_Mpg_checkFunction_275 ?_
          refine lv_iload_n S.x S.b d_Mpg_checkFunction_278 rfl (lv_at hl 1 rfl) ?_
          refine lv_aload_n S.x S.b d_Mpg_checkFunction_279 rfl (lv_at hl 0 rfl) ?_
          refine px_get S k_Mpg hT hw 0 0 42 (v := .int (cf8 42)) rfl rfl rfl (by decide) m10_33 d_Mpg_checkFunction_280 ?_
          refine lv_aload_n S.x S.b d_Mpg_checkFunction_283 rfl (lv_at hl 0 rfl) ?_
          refine px_get S k_Mpg hT hw 0 0 59 (v := .int 0) rfl rfl rfl (by decide) m10_56 d_Mpg_checkFunction_284 ?_
          refine lv_iadd S.x S.b d_Mpg_checkFunction_287 ?_
          have lr41 := Int32.le_toInt (cf8 42)
          have ur41 := Int32.toInt_lt (cf8 42)
          refine lv_topi (fun z42 ez42 => ?_)
          have tz42 : z42.toInt = ((cf8 42).toInt + (0 : Int) + 2147483648) % 4294967296 - 2147483648 := by rw [ez42]; exact i_add (cf8 42) 0
          have lz42 := Int32.le_toInt z42
          have uz42 := Int32.toInt_lt z42
          try replace tz42 : z42.toInt = (cf8 42).toInt + (0 : Int) := by omega
          refine px_iast S hT hw 0 27 (n := 260) (f := (ca9 40)) (x := p0) (y := z42) rfl gp_40 (vp_in_iff.mpr (by constructor <;> omega)) d_Mpg_checkFunction_288 (w' := wdP cs h r g tf ta pf na ma7 wa (upd cf8 59 0) (va_up ca9 40 (upd (ca9 40) p0.toNatClampNeg z42)) ef ea xf xa) (ps' := [wdP cs h r g tf ta pf na ma7 wa (upd cf8 59 0) (va_up ca9 40 (upd (ca9 40) p0.toNatClampNeg z42)) ef ea xf xa]) sp_40 rfl (fun H locs hw => ?_)
          obtain ⟨ca43, hu_ca43⟩ : ∃ y : Nat → Nat → Int32, y = va_up ca9 40 (upd (ca9 40) p0.toNatClampNeg z42) := ⟨_, rfl⟩
          have hw : pw D A s.heap _ _ [wdP cs h r g tf ta pf na ma7 wa (upd cf8 59 0) ca43 ef ea xf xa] := (by rw [hu_ca43]; exact hw)
          refine lv_aload_n S.x S.b d_Mpg_checkFunction_289 rfl (lv_at hl 0 rfl) ?_
          refine px_get S k_Mpg hT hw 0 0 56 (v := .ref (r 56)) rfl rfl rfl (by decide) m10_52 d_Mpg_checkFunction_290 ?_
          refine lv_iload_n S.x S.b d_Mpg_checkFunction_293 rfl (lv_at hl 1 rfl) ?_
          refine lv_aload_n S.x S.b d_Mpg_checkFunction_294 rfl (lv_at hl 0 rfl) ?_
          refine px_get S k_Mpg hT hw 0 0 54 (v := .int (cf8 54)) rfl rfl rfl (by decide) m10_49 d_Mpg_checkFunction_295 ?_
          refine px_iast S hT hw 0 33 (n := 260) (f := (ca43 56)) (x := p0) (y := (cf8 54)) rfl gp_56 (vp_in_iff.mpr (by constructor <;> omega)) d_Mpg_checkFunction_298 (w' := wdP cs h r g tf ta pf na ma7 wa (upd cf8 59 0) (va_up ca43 56 (upd (ca43 56) p0.toNatClampNeg (cf8 54))) ef ea xf xa) (ps' := [wdP cs h r g tf ta pf na ma7 wa (upd cf8 59 0) (va_up ca43 56 (upd (ca43 56) p0.toNatClampNeg (cf8 54))) ef ea xf xa]) sp_56 rfl (fun H locs hw => ?_)
          obtain ⟨ca44, hu_ca44⟩ : ∃ y : Nat → Nat → Int32, y = va_up ca43 56 (upd (ca43 56) p0.toNatClampNeg (cf8 54)) := ⟨_, rfl⟩
          have hw : pw D A s.heap _ _ [wdP cs h r g tf ta pf na ma7 wa (upd cf8 59 0) ca44 ef ea xf xa] := (by rw [hu_ca44]; exact hw)
          refine lv_aload_n S.x S.b d_Mpg_checkFunction_299 rfl (lv_at hl 0 rfl) ?_
          refine lv_iconst (v := (-1)) S.x S.b d_Mpg_checkFunction_300 (by decide) ?_
          refine px_put S k_Mpg hT hw 0 0 43 rfl rfl (by decide) m10_34 rfl rfl rfl (Nat.le_of_ble_eq_true rfl) d_Mpg_checkFunction_301 (w' := wdP cs h r g tf ta pf na ma7 wa (upd (upd cf8 43 (-1)) 59 0) ca44 ef ea xf xa) (ps' := [wdP cs h r g tf ta pf na ma7 wa (upd (upd cf8 43 (-1)) 59 0) ca44 ef ea xf xa]) rfl rfl (fun H locs hw => ?_)
          refine lv_aload_n S.x S.b d_Mpg_checkFunction_304 rfl (lv_at hl 0 rfl) ?_
          refine lv_iload S.x S.b d_Mpg_checkFunction_305 (lv_at hl 3 rfl) ?_
          refine lv_iload S.x S.b d_Mpg_checkFunction_307 (lv_at hl 4 rfl) ?_
          refine px_callv (pr := []) (px_runV (As := [.int x80_4, .int x80_5]) (rest := []) S (c_mp_leave l D cs h r g tf ta pf na ma7 wa ca44 ef ea xf xa (upd (upd cf8 43 (-1)) 59 0) x80_4 x80_5  htk _) hT (pr := []) (pcs := [wdP cs h r g tf ta pf na ma7 wa (upd (upd cf8 43 (-1)) 59 0) ca44 ef ea xf xa]) hw px_X.tt (px_recv hT hw 0 0 rfl rfl rfl) m12_209 m12_206 m12_208 ms_12_5 m1_21 q_Mpg_leave ⟨show 0 + 1 ≤ (6 * d + 30) from by first | with_reducible rfl | with_reducible assumption | omega, show 8 + (3 + 11) + 0 ≤ (260 * d + 1200) from by first | with_reducible rfl | with_reducible assumption | omega⟩ hl.1 rfl (Nat.le_of_ble_eq_true rfl) d_Mpg_checkFunction_309 ⟨Nat.le_of_ble_eq_true rfl, Nat.le_of_ble_eq_true rfl⟩) hw hA (fun p47 H locs hp47 hw => ?_)
          obtain ⟨cf46, rfl, e49, e50, e51, e52, e53, e54, e55, e56, e57, e58, e59, e60, e61, e62, e63, e64, e65, e66⟩ := hp47
          replace e49 : (cf46 33).toInt = x80_4.toInt := e49
          replace e50 : (cf46 37).toInt = x80_5.toInt := e50
          replace e51 : (cf46 30).toInt = (cf8 30).toInt := e51
          replace e52 : (cf46 31).toInt = (cf8 31).toInt := e52
          replace e53 : (cf46 38).toInt = (cf8 38).toInt := e53
          replace e54 : (cf46 41).toInt = (cf8 41).toInt := e54
          replace e55 : (cf46 42).toInt = (cf8 42).toInt := e55
          replace e56 : (cf46 43).toInt = (-1 : Int) := e56
          replace e57 : (cf46 44).toInt = (cf8 44).toInt := e57
          replace e58 : (cf46 45).toInt = (cf8 45).toInt := e58
          replace e59 : (cf46 46).toInt = (cf8 46).toInt := e59
          replace e60 : (cf46 47).toInt = (cf8 47).toInt := e60
          replace e61 : (cf46 48).toInt = (cf8 48).toInt := e61
          replace e62 : (cf46 54).toInt = (cf8 54).toInt := e62
          replace e63 : (cf46 55).toInt = (cf8 55).toInt := e63
          replace e64 : (cf46 57).toInt = (cf8 57).toInt := e64
          replace e65 : (cf46 58).toInt = (cf8 58).toInt := e65
          replace e66 : (cf46 59).toInt = (0 : Int) := e66
          have hwr : WrV cf46 (tf 6).toInt := WrV.eq hwr (by omega) (by omega)
          have hkt := KnT.eq (n' := (cf46 33).toInt) (KnT.cg hkt0 hcg (Int.le_refl _)) (by omega)
          have hks := KnS.eq (n' := (cf46 33).toInt) (KnS.cg hks0 hcg (Int.le_refl _) (Int.le_refl _) (n2 := (cf46 48).toInt) (by omega)) (by omega) rfl
          replace hw : pw D A s.heap H locs [wdP cs h r g tf ta pf na ma7 wa cf46 ca44 ef ea xf xa] := hw
          exact px_vret S hr hlk hAe hw (Nat.le_of_ble_eq_true rfl) (Nat.le_of_ble_eq_true rfl) (⟨ma7, cf46, ca44, rfl, (show (cf46 30).toInt = 0 → (cf 30).toInt = 0 from by first | with_reducible rfl | with_reducible assumption | omega), (show WrV cf46 (tf 6).toInt from hwr), (show (cf46 33).toInt = (cf 33).toInt from by first | exact oz_1687f4cc65 k80_20 e49 | omega), (show (cf46 37).toInt = (cf 37).toInt from by first | exact oz_1687f4cc65 k80_21 e50 | omega), (show (cf46 38).toInt = (cf 38).toInt from by first | exact oz_e13fc83238 k80_2 e53 e15 | omega), (show (cf46 41).toInt = (cf 41).toInt from by first | exact oz_e13fc83238 k80_7 e54 e21 | omega), (show (cf46 44).toInt = (cf 44).toInt from by first | exact oz_e13fc83238 k80_3 e57 e17 | omega), (show (cf46 45).toInt = (cf 45).toInt from by first | exact oz_e13fc83238 k80_4 e58 e18 | omega), (show (cf46 46).toInt = (cf 46).toInt from by first | exact oz_e13fc83238 k80_5 e59 e19 | omega), (show (cf46 47).toInt = (cf 47).toInt from by first | exact oz_e13fc83238 k80_6 e60 e20 | omega), (show (cf46 55).toInt = (cf 55).toInt from by first | exact oz_e13fc83238 k80_8 e63 e22 | omega), (show (cf46 43).toInt = -1 from by first | exact oz_ae47b2e413 e56 | omega), (show (cf 48).toInt ≤ (cf46 48).toInt from by first | exact oz_7d77f9acb2 k80_19 e61 k80_15 e29 e32 | omega), (show 6 * (cf46 48).toInt ≤ 6 * (cf 48).toInt + w from by first | with_reducible rfl | with_reducible assumption | omega), (show KnT (tf 6).toInt ca44 (cf46 33).toInt from (KnT.eq (KnT.cf hkt0 (caf_w hcg hu_ca43 hu_ca44).1 (Int.le_refl _)) (by omega))), (show KnS ca44 (cf46 33).toInt (cf46 48).toInt 5000 from (KnS.eq (KnS.cf hks9 (caf_w hcg hu_ca43 hu_ca44).1 (Int.le_refl _) (Int.le_refl _) (n2 := (cf46 48).toInt) (by omega)) (by omega) rfl)), (show CaF ca ca44 (cf 33).toInt (cf 48).toInt p0.toNatClampNeg from (caf_w hcg hu_ca43 hu_ca44).1), (show Ann na ma0 ma7 from han), (show FrC lo hi ma ma7 from hfc), (show ZFn cf46 ta ca44 na ma0 ma7 nf (cf46 48).toInt lo hi d p0 from (zr_no (by omega))), (show ZFu cf46 ta na ca p0 from (fun zz => hzfu (by have q9 : (cf46 30).toInt = 0 := zz; omega))), (show Sy0 ca44 (cf 48).toInt (cf46 48).toInt from (sy0_mk hcg hu_ca43 hu_ca44 hsr htx0 (by omega) (by omega)))⟩) d_Mpg_checkFunction_312
        · have nc40 : (cf8 30).toInt = (0 : Int) := (i_eq (x := (cf8 30)) (y := 0)).mp c40
          refine lv_aload_n S.x S.b d_Mpg_checkFunction_259 rfl (lv_at hl 0 rfl) ?_
          refine lv_aload_n S.x S.b d_Mpg_checkFunction_260 rfl (lv_at hl 0 rfl) ?_
          refine px_get S k_Mpg hT hw 0 0 17 (v := .ref (r 17)) rfl rfl rfl (by decide) m10_1 d_Mpg_checkFunction_261 ?_
          refine lv_aload_n S.x S.b d_Mpg_checkFunction_264 rfl (lv_at hl 0 rfl) ?_
          refine px_get S k_Mpg hT hw 0 0 18 (v := .ref (r 18)) rfl rfl rfl (by decide) m10_3 d_Mpg_checkFunction_265 ?_
          refine lv_iload_n S.x S.b d_Mpg_checkFunction_268 rfl (lv_at hl 2 rfl) ?_
          refine px_iald S hT hw 0 14 (n := 2100) (f := (ma7 18)) rfl gp_18 (x := nd) (vp_in_iff.mpr (by constructor <;> omega)) d_Mpg_checkFunction_269 ?_
          refine lv_topi (fun z67 ez67 => ?_)
          have lz67 := Int32.le_toInt z67
          have uz67 := Int32.toInt_lt z67
          have ha_z67 : z67 = ma0 18 nd.toNatClampNeg := ez67.trans (Ann.v18 han (by omega)); have hn_z67 : z67.toInt = (ma0 18 nd.toNatClampNeg).toInt := (by rw [ha_z67])
          refine px_iald S hT hw 0 13 (n := 2100) (f := (na 17)) rfl gp_17 (x := z67) (vp_in_iff.mpr (by constructor <;> omega)) d_Mpg_checkFunction_270 ?_
          refine lv_topi (fun z68 ez68 => ?_)
          have lz68 := Int32.le_toInt z68
          have uz68 := Int32.toInt_lt z68
          have rz68 : z68.toInt = (na 17 z67.toNatClampNeg).toInt := by rw [ez68]
          have ha_z68 : z68 = na 17 (ma0 18 nd.toNatClampNeg).toNatClampNeg := (by rw [ez68, ha_z67]); have hrs_z68 : RvS ta (tf 6).toInt na ma0 d ((ma0 18 nd.toNatClampNeg).toInt + 1) hi wb z68 := (by rw [ha_z68]; exact ScV.s20 hscb (by omega) rfl); have hz0 : z3 = z68 := ha_z3.trans ha_z68.symm; obtain ⟨k9, hk9, V9, m9, hts, hsg⟩ := hzw (by omega); have hrw_z68 : RwV0 na V9 2 z68 := (by rw [← hz0]; exact ⟨m9, SgV.row hsg hk9⟩)
          refine px_callv (pr := []) (px_runV (As := [.int z68]) (rest := []) S (c_mp_measure l D cs ma0 ys (cf8 48).toInt nf d ((ma0 18 nd.toNatClampNeg).toInt + 1) hi wb 2 V9 ((ma0 18 nd.toNatClampNeg).toInt + 1) hi h r g tf ta pf na ma7 wa ca9 ef ea xf xa (upd cf8 59 0) z68  (show 0 ≤ ((ma0 18 nd.toNatClampNeg).toInt + 1) from by first | with_reducible rfl | with_reducible assumption | omega) (show hi ≤ (pf 13).toInt from by first | exact g1 | omega) (show (pf 13).toInt ≤ 2100 from by first | exact g2 | omega) (show (tf 6).toInt ≤ 2049 from by first | exact g3 | omega) (show (cf8 38).toInt = nf from by first | exact oz_e13fc83238 g9 e15 k80_2 | omega) (show 0 ≤ nf from by first | exact g10 | omega) (show 0 ≤ (0 : Int) from by first | decide | omega) (show (0 : Int) ≤ 4200 from by first | decide | omega) (show ((ma0 18 nd.toNatClampNeg).toInt + 1) ≤ hi from by first | with_reducible rfl | with_reducible assumption | omega) (show 0 ≤ wb from by first | exact oz_0f098ad6c4 e27 e26 | omega) (show 2 ≤ 2 from by first | decide | omega) (show 2 ≤ 4 from by first | decide | omega) htk (FnT.eq hft (show _ = (cf8 38).toInt by omega)) hfp han hts hrs_z68 hrw_z68 hLQ _) hT (pr := []) (pcs := [wdP cs h r g tf ta pf na ma7 wa (upd cf8 59 0) ca9 ef ea xf xa]) hw (oX_call (P := (fun A U H => (oP A g U H))) (pr := []) oG_P hw hA hP) (px_recv hT hw 0 0 rfl rfl rfl) m13_53 m13_50 m13_52 ms_13_10 m1_21 q_Mpg_measure ⟨show (5 * d + 15) + 1 ≤ (6 * d + 30) from by first | with_reducible rfl | with_reducible assumption | omega, show 8 + (3 + 11) + (220 * d + 500) ≤ (260 * d + 1200) from by first | with_reducible rfl | with_reducible assumption | omega⟩ hl.1 rfl (Nat.le_of_ble_eq_true rfl) d_Mpg_checkFunction_271 ⟨Nat.le_of_ble_eq_true rfl, Nat.le_of_ble_eq_true rfl⟩) hw hA (fun p71 H locs hp71 hw => ?_)
          obtain ⟨cf70, rfl, e73, e74, e75, e76, e77⟩ := hp71
          replace e73 : KpT (upd cf8 59 0) cf70 := e73
          have hkt30_e73 : (cf70 30).toInt = (cf8 30).toInt := (by rw [e73 30 (by decide)] <;> rfl)
          have hkt31_e73 : (cf70 31).toInt = (cf8 31).toInt := (by rw [e73 31 (by decide)] <;> rfl)
          have hkt33_e73 : (cf70 33).toInt = (cf8 33).toInt := (by rw [e73 33 (by decide)] <;> rfl)
          have hkt37_e73 : (cf70 37).toInt = (cf8 37).toInt := (by rw [e73 37 (by decide)] <;> rfl)
          have hkt38_e73 : (cf70 38).toInt = (cf8 38).toInt := (by rw [e73 38 (by decide)] <;> rfl)
          have hkt41_e73 : (cf70 41).toInt = (cf8 41).toInt := (by rw [e73 41 (by decide)] <;> rfl)
          have hkt42_e73 : (cf70 42).toInt = (cf8 42).toInt := (by rw [e73 42 (by decide)] <;> rfl)
          have hkt43_e73 : (cf70 43).toInt = (cf8 43).toInt := (by rw [e73 43 (by decide)] <;> rfl)
          have hkt44_e73 : (cf70 44).toInt = (cf8 44).toInt := (by rw [e73 44 (by decide)] <;> rfl)
          have hkt45_e73 : (cf70 45).toInt = (cf8 45).toInt := (by rw [e73 45 (by decide)] <;> rfl)
          have hkt46_e73 : (cf70 46).toInt = (cf8 46).toInt := (by rw [e73 46 (by decide)] <;> rfl)
          have hkt47_e73 : (cf70 47).toInt = (cf8 47).toInt := (by rw [e73 47 (by decide)] <;> rfl)
          have hkt48_e73 : (cf70 48).toInt = (cf8 48).toInt := (by rw [e73 48 (by decide)] <;> rfl)
          have hkt54_e73 : (cf70 54).toInt = (cf8 54).toInt := (by rw [e73 54 (by decide)] <;> rfl)
          have hkt55_e73 : (cf70 55).toInt = (cf8 55).toInt := (by rw [e73 55 (by decide)] <;> rfl)
          have hkt57_e73 : (cf70 57).toInt = (cf8 57).toInt := (by rw [e73 57 (by decide)] <;> rfl)
          have hkt58_e73 : (cf70 58).toInt = (cf8 58).toInt := (by rw [e73 58 (by decide)] <;> rfl)
          have hwr : WrV cf70 (tf 6).toInt := WrV.eq hwr (by omega) (by omega)
          have hzw : ZTw cf70 ta ca9 na ma0 (cf70 48).toInt ys nf ma7 ((ma0 18 nd.toNatClampNeg).toInt + 1) hi z3 2 := ZTw.to hzw (fun q => by omega) (by omega) (Int.le_refl _) (Int.le_refl _) rfl
          have hprs : PrS ca9 (cf70 48).toInt ys na ma7 lo mid_80 (na 17 nd.toNatClampNeg) x80_6 := PrS.tr hprs (FrC.rf (lo := 0) (hi := 0)) (by omega) (CaG.rf (kn := 0) (ns := 5000)) (by omega) (by omega)
          have hzfu : ZFu cf70 ta na ca p0 := (fun q9 => hzfu (by omega))
          replace e74 : (0 : Int) ≤ (cf70 59).toInt := e74
          replace e75 : (cf70 59).toInt ≤ 4200 := e75
          replace e76 : (cf70 30).toInt = (cf8 30).toInt := e76
          replace e77 : HsW na ma0 ma7 (tkl na ma0 ca9) d z68 (cf70 59).toInt := e77
          replace hw : pw D A s.heap H locs [wdP cs h r g tf ta pf na ma7 wa cf70 ca9 ef ea xf xa] := hw
          refine lv_aload_n S.x S.b d_Mpg_checkFunction_274 rfl (lv_at hl 0 rfl) ?_
          refine px_get S k_Mpg hT hw 0 0 40 (v := .ref (r 40)) rfl rfl rfl (by decide) m10_30 d_Mpg_checkFunction_275 ?_
          refine lv_iload_n S.x S.b d_Mpg_checkFunction_278 rfl (lv_at hl 1 rfl) ?_
          refine lv_aload_n S.x S.b d_Mpg_checkFunction_279 rfl (lv_at hl 0 rfl) ?_
          refine px_get S k_Mpg hT hw 0 0 42 (v := .int (cf70 42)) rfl rfl rfl (by decide) m10_33 d_Mpg_checkFunction_280 ?_
          refine lv_aload_n S.x S.b d_Mpg_checkFunction_283 rfl (lv_at hl 0 rfl) ?_
          refine px_get S k_Mpg hT hw 0 0 59 (v := .int (cf70 59)) rfl rfl rfl (by decide) m10_56 d_Mpg_checkFunction_284 ?_
          refine lv_iadd S.x S.b d_Mpg_checkFunction_287 ?_
          have lr78 := Int32.le_toInt (cf70 42)
          have ur78 := Int32.toInt_lt (cf70 42)
          have lr79 := Int32.le_toInt (cf70 59)
          have ur79 := Int32.toInt_lt (cf70 59)
          refine lv_topi (fun z80 ez80 => ?_)
          have tz80 : z80.toInt = ((cf70 42).toInt + (cf70 59).toInt + 2147483648) % 4294967296 - 2147483648 := by rw [ez80]; exact i_add (cf70 42) (cf70 59)
          have lz80 := Int32.le_toInt z80
          have uz80 := Int32.toInt_lt z80
          try replace tz80 : z80.toInt = (cf70 42).toInt + (cf70 59).toInt := by omega
          refine px_iast S hT hw 0 27 (n := 260) (f := (ca9 40)) (x := p0) (y := z80) rfl gp_40 (vp_in_iff.mpr (by constructor <;> omega)) d_Mpg_checkFunction_288 (w' := wdP cs h r g tf ta pf na ma7 wa cf70 (va_up ca9 40 (upd (ca9 40) p0.toNatClampNeg z80)) ef ea xf xa) (ps' := [wdP cs h r g tf ta pf na ma7 wa cf70 (va_up ca9 40 (upd (ca9 40) p0.toNatClampNeg z80)) ef ea xf xa]) sp_40 rfl (fun H locs hw => ?_)
          obtain ⟨ca81, hu_ca81⟩ : ∃ y : Nat → Nat → Int32, y = va_up ca9 40 (upd (ca9 40) p0.toNatClampNeg z80) := ⟨_, rfl⟩
          have hw : pw D A s.heap _ _ [wdP cs h r g tf ta pf na ma7 wa cf70 ca81 ef ea xf xa] := (by rw [hu_ca81]; exact hw)
          refine lv_aload_n S.x S.b d_Mpg_checkFunction_289 rfl (lv_at hl 0 rfl) ?_
          refine px_get S k_Mpg hT hw 0 0 56 (v := .ref (r 56)) rfl rfl rfl (by decide) m10_52 d_Mpg_checkFunction_290 ?_
          refine lv_iload_n S.x S.b d_Mpg_checkFunction_293 rfl (lv_at hl 1 rfl) ?_
          refine lv_aload_n S.x S.b d_Mpg_checkFunction_294 rfl (lv_at hl 0 rfl) ?_
          refine px_get S k_Mpg hT hw 0 0 54 (v := .int (cf70 54)) rfl rfl rfl (by decide) m10_49 d_Mpg_checkFunction_295 ?_
          refine px_iast S hT hw 0 33 (n := 260) (f := (ca81 56)) (x := p0) (y := (cf70 54)) rfl gp_56 (vp_in_iff.mpr (by constructor <;> omega)) d_Mpg_checkFunction_298 (w' := wdP cs h r g tf ta pf na ma7 wa cf70 (va_up ca81 56 (upd (ca81 56) p0.toNatClampNeg (cf70 54))) ef ea xf xa) (ps' := [wdP cs h r g tf ta pf na ma7 wa cf70 (va_up ca81 56 (upd (ca81 56) p0.toNatClampNeg (cf70 54))) ef ea xf xa]) sp_56 rfl (fun H locs hw => ?_)
          obtain ⟨ca82, hu_ca82⟩ : ∃ y : Nat → Nat → Int32, y = va_up ca81 56 (upd (ca81 56) p0.toNatClampNeg (cf70 54)) := ⟨_, rfl⟩
          have hw : pw D A s.heap _ _ [wdP cs h r g tf ta pf na ma7 wa cf70 ca82 ef ea xf xa] := (by rw [hu_ca82]; exact hw)
          refine lv_aload_n S.x S.b d_Mpg_checkFunction_299 rfl (lv_at hl 0 rfl) ?_
          refine lv_iconst (v := (-1)) S.x S.b d_Mpg_checkFunction_300 (by decide) ?_
          refine px_put S k_Mpg hT hw 0 0 43 rfl rfl (by decide) m10_34 rfl rfl rfl (Nat.le_of_ble_eq_true rfl) d_Mpg_checkFunction_301 (w' := wdP cs h r g tf ta pf na ma7 wa (upd cf70 43 (-1)) ca82 ef ea xf xa) (ps' := [wdP cs h r g tf ta pf na ma7 wa (upd cf70 43 (-1)) ca82 ef ea xf xa]) rfl rfl (fun H locs hw => ?_)
          refine lv_aload_n S.x S.b d_Mpg_checkFunction_304 rfl (lv_at hl 0 rfl) ?_
          refine lv_iload S.x S.b d_Mpg_checkFunction_305 (lv_at hl 3 rfl) ?_
          refine lv_iload S.x S.b d_Mpg_checkFunction_307 (lv_at hl 4 rfl) ?_
          refine px_callv (pr := []) (px_runV (As := [.int x80_4, .int x80_5]) (rest := []) S (c_mp_leave l D cs h r g tf ta pf na ma7 wa ca82 ef ea xf xa (upd cf70 43 (-1)) x80_4 x80_5  htk _) hT (pr := []) (pcs := [wdP cs h r g tf ta pf na ma7 wa (upd cf70 43 (-1)) ca82 ef ea xf xa]) hw px_X.tt (px_recv hT hw 0 0 rfl rfl rfl) m12_209 m12_206 m12_208 ms_12_5 m1_21 q_Mpg_leave ⟨show 0 + 1 ≤ (6 * d + 30) from by first | with_reducible rfl | with_reducible assumption | omega, show 8 + (3 + 11) + 0 ≤ (260 * d + 1200) from by first | with_reducible rfl | with_reducible assumption | omega⟩ hl.1 rfl (Nat.le_of_ble_eq_true rfl) d_Mpg_checkFunction_309 ⟨Nat.le_of_ble_eq_true rfl, Nat.le_of_ble_eq_true rfl⟩) hw hA (fun p85 H locs hp85 hw => ?_)
          obtain ⟨cf84, rfl, e87, e88, e89, e90, e91, e92, e93, e94, e95, e96, e97, e98, e99, e100, e101, e102, e103, e104⟩ := hp85
          replace e87 : (cf84 33).toInt = x80_4.toInt := e87
          replace e88 : (cf84 37).toInt = x80_5.toInt := e88
          replace e89 : (cf84 30).toInt = (cf70 30).toInt := e89
          replace e90 : (cf84 31).toInt = (cf70 31).toInt := e90
          replace e91 : (cf84 38).toInt = (cf70 38).toInt := e91
          replace e92 : (cf84 41).toInt = (cf70 41).toInt := e92
          replace e93 : (cf84 42).toInt = (cf70 42).toInt := e93
          replace e94 : (cf84 43).toInt = (-1 : Int) := e94
          replace e95 : (cf84 44).toInt = (cf70 44).toInt := e95
          replace e96 : (cf84 45).toInt = (cf70 45).toInt := e96
          replace e97 : (cf84 46).toInt = (cf70 46).toInt := e97
          replace e98 : (cf84 47).toInt = (cf70 47).toInt := e98
          replace e99 : (cf84 48).toInt = (cf70 48).toInt := e99
          replace e100 : (cf84 54).toInt = (cf70 54).toInt := e100
          replace e101 : (cf84 55).toInt = (cf70 55).toInt := e101
          replace e102 : (cf84 57).toInt = (cf70 57).toInt := e102
          replace e103 : (cf84 58).toInt = (cf70 58).toInt := e103
          replace e104 : (cf84 59).toInt = (cf70 59).toInt := e104
          have hwr : WrV cf84 (tf 6).toInt := WrV.eq hwr (by omega) (by omega)
          have hkt := KnT.eq (n' := (cf84 33).toInt) (KnT.cg hkt0 hcg (Int.le_refl _)) (by omega)
          have hks := KnS.eq (n' := (cf84 33).toInt) (KnS.cg hks0 hcg (Int.le_refl _) (Int.le_refl _) (n2 := (cf84 48).toInt) (by omega)) (by omega) rfl
          replace hw : pw D A s.heap H locs [wdP cs h r g tf ta pf na ma7 wa cf84 ca82 ef ea xf xa] := hw
          exact px_vret S hr hlk hAe hw (Nat.le_of_ble_eq_true rfl) (Nat.le_of_ble_eq_true rfl) (⟨ma7, cf84, ca82, rfl, (show (cf84 30).toInt = 0 → (cf 30).toInt = 0 from by first | with_reducible rfl | with_reducible assumption | omega), (show WrV cf84 (tf 6).toInt from hwr), (show (cf84 33).toInt = (cf 33).toInt from by first | exact oz_1687f4cc65 k80_20 e87 | omega), (show (cf84 37).toInt = (cf 37).toInt from by first | exact oz_1687f4cc65 k80_21 e88 | omega), (show (cf84 38).toInt = (cf 38).toInt from by first | exact oz_ff3084e3c1 k80_2 e91 e15 hkt38_e73 | omega), (show (cf84 41).toInt = (cf 41).toInt from by first | exact oz_ff3084e3c1 k80_7 e92 e21 hkt41_e73 | omega), (show (cf84 44).toInt = (cf 44).toInt from by first | exact oz_ff3084e3c1 k80_3 e95 e17 hkt44_e73 | omega), (show (cf84 45).toInt = (cf 45).toInt from by first | exact oz_ff3084e3c1 k80_4 e96 e18 hkt45_e73 | omega), (show (cf84 46).toInt = (cf 46).toInt from by first | exact oz_ff3084e3c1 k80_5 e97 e19 hkt46_e73 | omega), (show (cf84 47).toInt = (cf 47).toInt from by first | exact oz_ff3084e3c1 k80_6 e98 e20 hkt47_e73 | omega), (show (cf84 55).toInt = (cf 55).toInt from by first | exact oz_ff3084e3c1 k80_8 e101 e22 hkt55_e73 | omega), (show (cf84 43).toInt = -1 from by first | exact oz_ae47b2e413 e94 | omega), (show (cf 48).toInt ≤ (cf84 48).toInt from by first | exact oz_569dc2842b k80_19 e99 k80_15 e29 e32 hkt48_e73 | omega), (show 6 * (cf84 48).toInt ≤ 6 * (cf 48).toInt + w from by first | with_reducible rfl | with_reducible assumption | omega), (show KnT (tf 6).toInt ca82 (cf84 33).toInt from (KnT.eq (KnT.cf hkt0 (caf_w hcg hu_ca81 hu_ca82).1 (Int.le_refl _)) (by omega))), (show KnS ca82 (cf84 33).toInt (cf84 48).toInt 5000 from (KnS.eq (KnS.cf hks9 (caf_w hcg hu_ca81 hu_ca82).1 (Int.le_refl _) (Int.le_refl _) (n2 := (cf84 48).toInt) (by omega)) (by omega) rfl)), (show CaF ca ca82 (cf 33).toInt (cf 48).toInt p0.toNatClampNeg from (caf_w hcg hu_ca81 hu_ca82).1), (show Ann na ma0 ma7 from han), (show FrC lo hi ma ma7 from hfc), (show ZFn cf84 ta ca82 na ma0 ma7 nf (cf84 48).toInt lo hi d p0 from (fun zz => fn_mk (kk := k9) (m1 := m1) hcg hu_ca81 hu_ca82 e_nd ha_z3 (SyR.eq hsr rfl rfl) htx0 (by omega) (show z80.toInt = (cf70 42).toInt + (cf70 59).toInt by omega) (by omega) (by omega) (by omega) (by omega) (by omega) (by omega) (PrS.to hprs (by omega) (Int.le_refl _) (by omega)) (by omega) ((TyR.g (TyR.le (show TyR (Gk ta _ na ma0 _ ys nf) na _ _ _ _ k9 2 from ⟨V9, m9, hts, hsg⟩) (by omega) (by omega)) (gml_ns (by omega)))) hk9 (by rw [hz0]; exact e77))), (show ZFu cf84 ta na ca p0 from (fun zz => hzfu (by have q9 : (cf84 30).toInt = 0 := zz; omega))), (show Sy0 ca82 (cf 48).toInt (cf84 48).toInt from (sy0_mk hcg hu_ca81 hu_ca82 hsr htx0 (by omega) (by omega)))⟩) d_Mpg_checkFunction_312
      · have nc1 : ¬ x80_6.toInt < (0 : Int) := mt (i_lt (x := x80_6) (y := 0)).mpr c1
        refine lv_aload_n S.x S.b d_Mpg_checkFunction_85 rfl (lv_at hl 0 rfl) ?_
        obtain ⟨md105, wv106, hm1_md105, hm2_md105, hm3_md105, hpa_x80_6, hx3_md105, hrp2⟩ := RvE.step hrp (by omega); have hwp2 := RvE.wp hrp2; have hpk_md105 := hpa_x80_6.2.1; have hpo_md105 := hpa_x80_6.2.2.2
        refine lv_aload_n S.x S.b d_Mpg_checkFunction_86 rfl (lv_at hl 0 rfl) ?_
        refine px_get S k_Mpg hT hw 0 0 15 (v := .ref (r 15)) rfl rfl rfl (by decide) m9_239 d_Mpg_checkFunction_87 ?_
        refine lv_iload S.x S.b d_Mpg_checkFunction_90 (lv_at hl 5 rfl) ?_
        refine px_iald S hT hw 0 11 (n := 2100) (f := (na 15)) rfl gp_15 (x := x80_6) (vp_in_iff.mpr (by constructor <;> omega)) d_Mpg_checkFunction_92 ?_
        refine lv_topi (fun z107 ez107 => ?_)
        have lz107 := Int32.le_toInt z107
        have uz107 := Int32.toInt_lt z107
        have rz107 := PaV.tok hpa_x80_6 ez107
        refine px_callv (pr := []) (px_runV (As := [.int z107]) (rest := []) S (c_mp_checkNew l D cs h r g tf ta pf na ma_80 wa ca_80 ef ea xf xa cf_80 z107  (show 0 ≤ z107.toInt from by first | exact rz107.1 | omega) (show z107.toInt < (tf 6).toInt from by first | with_reducible rfl | with_reducible assumption | omega) (show (tf 6).toInt ≤ 2049 from by first | exact g3 | omega) (show 0 ≤ (cf_80 33).toInt from by first | exact oz_16d7fa9f32 k80_11 g4 | omega) (show 0 ≤ (cf_80 37).toInt from by first | exact oz_f3ebed1ad0 k80_9 g4 | omega) (show 0 ≤ (cf_80 38).toInt from by first | exact oz_e7154091a6 k80_2 g9 g19 g18 | omega) htk hwr (KnT.eq hkt (by omega)) (FnT.eq hft (by omega)) _) hT (pr := []) (pcs := [wdP cs h r g tf ta pf na ma_80 wa cf_80 ca_80 ef ea xf xa]) hw (oX_call (P := (fun A U H => (oP A g U H))) (pr := []) oG_P hw hA hP) (px_recv hT hw 0 0 rfl rfl rfl) m12_177 m12_174 m12_176 ms_11_13 m1_21 q_Mpg_checkNew ⟨show 8 + 1 ≤ (6 * d + 30) from by first | with_reducible rfl | with_reducible assumption | omega, show 8 + (3 + 11) + 330 ≤ (260 * d + 1200) from by first | with_reducible rfl | with_reducible assumption | omega⟩ hl.1 rfl (Nat.le_of_ble_eq_true rfl) d_Mpg_checkFunction_93 ⟨Nat.le_of_ble_eq_true rfl, Nat.le_of_ble_eq_true rfl⟩) hw hA (fun p110 H locs hp110 hw => ?_)
        obtain ⟨cf109, rfl, e112, e113, e114, e115, e116, e117, e118, e119, e120, e121, e122, e123, e124, e125, e126, e127, e128, e129⟩ := hp110
        replace e112 : KpE cf_80 cf109 := e112
        have hkz_e112 := e112.2
        replace e113 : WrV cf109 (tf 6).toInt := e113
        have hwr := e113
        have hw0_e113 := hwr.1
        replace e114 : (cf109 33).toInt = (cf_80 33).toInt := e114
        replace e115 : (cf109 38).toInt = (cf_80 38).toInt := e115
        replace e116 : (cf109 48).toInt = (cf_80 48).toInt := e116
        replace e117 : (cf109 46).toInt = (cf_80 46).toInt := e117
        replace e118 : (cf109 47).toInt = (cf_80 47).toInt := e118
        replace e119 : (cf109 57).toInt = (cf_80 57).toInt := e119
        replace e120 : (cf109 37).toInt = (cf_80 37).toInt := e120
        replace e121 : (cf109 42).toInt = (cf_80 42).toInt := e121
        replace e122 : (cf109 43).toInt = (cf_80 43).toInt := e122
        replace e123 : (cf109 44).toInt = (cf_80 44).toInt := e123
        replace e124 : (cf109 45).toInt = (cf_80 45).toInt := e124
        replace e125 : (cf109 54).toInt = (cf_80 54).toInt := e125
        replace e126 : (cf109 55).toInt = (cf_80 55).toInt := e126
        replace e127 : (cf109 58).toInt = (cf_80 58).toInt := e127
        replace e128 : (cf109 59).toInt = (cf_80 59).toInt := e128
        replace e129 : (cf109 41).toInt = (cf_80 41).toInt := e129
        have hprs : PrS ca_80 (cf109 48).toInt ys na ma_80 lo mid_80 (na 17 nd.toNatClampNeg) x80_6 := PrS.tr hprs (FrC.rf (lo := 0) (hi := 0)) (by omega) (CaG.rf (kn := 0) (ns := 5000)) (by omega) (by omega)
        have hzfu : ZFu cf109 ta na ca p0 := (fun q9 => hzfu (by omega))
        replace hw : pw D A s.heap H locs [wdP cs h r g tf ta pf na ma_80 wa cf109 ca_80 ef ea xf xa] := hw
        refine lv_aload_n S.x S.b d_Mpg_checkFunction_96 rfl (lv_at hl 0 rfl) ?_
        refine px_get S k_Mpg hT hw 0 0 17 (v := .ref (r 17)) rfl rfl rfl (by decide) m10_1 d_Mpg_checkFunction_97 ?_
        refine lv_iload S.x S.b d_Mpg_checkFunction_100 (lv_at hl 5 rfl) ?_
        refine px_iald S hT hw 0 13 (n := 2100) (f := (na 17)) rfl gp_17 (x := x80_6) (vp_in_iff.mpr (by constructor <;> omega)) d_Mpg_checkFunction_102 ?_
        refine lv_topi (fun z130 ez130 => ?_)
        have lz130 := Int32.le_toInt z130
        have uz130 := Int32.toInt_lt z130
        have rz130 : z130.toInt = (na 17 x80_6.toNatClampNeg).toInt := by rw [ez130]
        refine lv_if_lt (tgt := 110) S.x S.b d_Mpg_checkFunction_103 (by decide) (fun c131 => ?_) (fun c131 => ?_)
        · have nc131 : z130.toInt < (0 : Int) := (i_lt (x := z130) (y := 0)).mp c131
          refine lv_iconst (v := 0) S.x S.b d_Mpg_checkFunction_110 (by decide) ?_
          refine lv_istore (lv' := [(7, .int 0), (0, .ref h), (1, .int p0), (2, .int nd), (4, .int x80_4), (5, .int x80_5), (6, .int x80_6)]) S.x S.b d_Mpg_checkFunction_111 hl (by decide) rfl (fun ls hl => ?_)
          refine lv_aload_n S.x S.b d_Mpg_checkFunction_113 rfl (lv_at hl 1 rfl) ?_
          refine lv_aload_n S.x S.b d_Mpg_checkFunction_114 rfl (lv_at hl 1 rfl) ?_
          refine px_get S k_Mpg hT hw 0 0 42 (v := .int (cf109 42)) rfl rfl rfl (by decide) m10_33 d_Mpg_checkFunction_115 ?_
          refine lv_iload S.x S.b d_Mpg_checkFunction_118 (lv_at hl 0 rfl) ?_
          refine lv_if_eq (tgt := 127) S.x S.b d_Mpg_checkFunction_120 (by decide) (fun c132 => ?_) (fun c132 => ?_)
          ·
            refine lv_iconst (v := 1) S.x S.b d_Mpg_checkFunction_127 (by decide) ?_
            refine lv_iadd S.x S.b d_Mpg_checkFunction_128 ?_
            have lr133 := Int32.le_toInt (cf109 42)
            have ur133 := Int32.toInt_lt (cf109 42)
            refine lv_topi (fun z134 ez134 => ?_)
            have tz134 : z134.toInt = ((cf109 42).toInt + (1 : Int) + 2147483648) % 4294967296 - 2147483648 := by rw [ez134]; exact i_add (cf109 42) 1
            have lz134 := Int32.le_toInt z134
            have uz134 := Int32.toInt_lt z134
            try replace tz134 : z134.toInt = (cf109 42).toInt + (1 : Int) := by omega
            refine px_put S k_Mpg hT hw 0 0 42 rfl rfl (by decide) m10_33 rfl rfl rfl (Nat.le_of_ble_eq_true rfl) d_Mpg_checkFunction_129 (w' := wdP cs h r g tf ta pf na ma_80 wa (upd cf109 42 z134) ca_80 ef ea xf xa) (ps' := [wdP cs h r g tf ta pf na ma_80 wa (upd cf109 42 z134) ca_80 ef ea xf xa]) rfl rfl (fun H locs hw => ?_)
            refine lv_aload_n S.x S.b d_Mpg_checkFunction_132 rfl (lv_at hl 1 rfl) ?_
            refine px_get S k_Mpg hT hw 0 0 22 (v := .ref (r 22)) rfl rfl rfl (by decide) m10_9 d_Mpg_checkFunction_133 ?_
            refine lv_iload S.x S.b d_Mpg_checkFunction_136 (lv_at hl 6 rfl) ?_
            refine px_iald S hT hw 0 18 (n := 2100) (f := (ma_80 22)) rfl gp_22 (x := x80_6) (vp_in_iff.mpr (by constructor <;> omega)) d_Mpg_checkFunction_138 ?_
            refine lv_topi (fun z135 ez135 => ?_)
            have lz135 := Int32.le_toInt z135
            have uz135 := Int32.toInt_lt z135
            have rz135 : z135.toInt = (ma0 22 x80_6.toNatClampNeg).toInt := (by rw [ez135, Ann.v22 han (by omega)])
            refine lv_iconst (v := 1) S.x S.b d_Mpg_checkFunction_139 (by decide) ?_
            refine lv_icmp_ne (tgt := 147) S.x S.b d_Mpg_checkFunction_140 (by decide) (fun c136 => ?_) (fun c136 => ?_)
            · have nc136 : ¬ z135.toInt = (1 : Int) := mt (i_eq (x := z135) (y := 1)).mpr c136
              refine lv_iconst (v := 0) S.x S.b d_Mpg_checkFunction_147 (by decide) ?_
              refine lv_istore (lv' := [(8, .int 0), (7, .int 0), (0, .ref h), (1, .int p0), (2, .int nd), (4, .int x80_4), (5, .int x80_5), (6, .int x80_6)]) S.x S.b d_Mpg_checkFunction_148 hl (by decide) rfl (fun ls hl => ?_)
              refine lv_aload_n S.x S.b d_Mpg_checkFunction_150 rfl (lv_at hl 2 rfl) ?_
              refine px_get S k_Mpg hT hw 0 0 18 (v := .ref (r 18)) rfl rfl rfl (by decide) m10_3 d_Mpg_checkFunction_151 ?_
              refine lv_iload S.x S.b d_Mpg_checkFunction_154 (lv_at hl 7 rfl) ?_
              refine lv_aload_n S.x S.b d_Mpg_checkFunction_156 rfl (lv_at hl 2 rfl) ?_
              refine lv_iload S.x S.b d_Mpg_checkFunction_157 (lv_at hl 1 rfl) ?_
              refine lv_if_eq (tgt := 169) S.x S.b d_Mpg_checkFunction_159 (by decide) (fun c137 => ?_) (fun c137 => ?_)
              ·
                refine lv_iload S.x S.b d_Mpg_checkFunction_169 (lv_at hl 0 rfl) ?_
                refine lv_iconst (v := 1) S.x S.b d_Mpg_checkFunction_171 (by decide) ?_
                refine px_calli (pr := []) (px_runV (As := [.int 0, .int 1]) (rest := [.int x80_6, .ref (r 18)]) S (c_mp_lay l D cs h r g tf ta pf na ma_80 wa ef ea xf xa (upd cf109 42 z134) ca_80 0 1  (show 0 ≤ (cf109 48).toInt from by first | exact oz_c0af2c5e34 e116 k80_19 g7 k80_15 | omega) (show (cf109 48).toInt < 1100 from by first | with_reducible rfl | with_reducible assumption | omega) (show 0 ≤ (0 : Int) from by first | decide | omega) (show (0 : Int) ≤ 5 from by first | decide | omega) (show 0 ≤ (1 : Int) from by first | decide | omega) (show (1 : Int) ≤ 4096 from by first | decide | omega) (show 0 ≤ (cf109 54).toInt from by first | exact oz_f3ebed1ad0 e125 k80_16 | omega) (show (cf109 54).toInt ≤ 40000000 from by first | with_reducible rfl | with_reducible assumption | omega) htk _) hT (pr := []) (pcs := [wdP cs h r g tf ta pf na ma_80 wa (upd cf109 42 z134) ca_80 ef ea xf xa]) hw px_X.tt (px_recv hT hw 0 0 rfl rfl rfl) m12_189 m12_186 m12_188 ms_12_0 m1_21 q_Mpg_lay ⟨show 0 + 1 ≤ (6 * d + 30) from by first | with_reducible rfl | with_reducible assumption | omega, show 8 + (3 + 11) + 0 ≤ (260 * d + 1200) from by first | with_reducible rfl | with_reducible assumption | omega⟩ hl.1 rfl (Nat.le_of_ble_eq_true rfl) d_Mpg_checkFunction_172 ⟨Nat.le_of_ble_eq_true rfl, Nat.le_of_ble_eq_true rfl⟩) hw hA (fun v143 p142 H locs hp142 hw => ?_)
                obtain ⟨cf140, ca141, rfl, e144, e145, e146, e147, e148, e149, e150, e151, e152, e153, e154, e155, e156, e157, e158, e159, e160, e161, e162, e163, e164, e165, e166⟩ := hp142
                replace e144 : v143.toInt = (cf109 48).toInt := e144
                replace e145 : (cf140 48).toInt = (cf109 48).toInt + 1 := e145
                replace e146 : (cf109 54).toInt ≤ (cf140 54).toInt := e146
                replace e147 : (cf140 54).toInt ≤ (cf109 54).toInt + 4096 := e147
                replace e148 : (0 : Int) ≤ 3 → (cf140 54).toInt = (cf109 54).toInt + (1 : Int) := e148
                replace e149 : 4 ≤ (0 : Int) → (cf140 54).toInt = (cf109 54).toInt + 2 := e149
                replace e150 : (cf140 30).toInt = (cf109 30).toInt := e150
                replace e151 : (cf140 31).toInt = (cf109 31).toInt := e151
                replace e152 : (cf140 33).toInt = (cf109 33).toInt := e152
                replace e153 : (cf140 37).toInt = (cf109 37).toInt := e153
                replace e154 : (cf140 38).toInt = (cf109 38).toInt := e154
                replace e155 : (cf140 41).toInt = (cf109 41).toInt := e155
                replace e156 : (cf140 42).toInt = z134.toInt := e156
                replace e157 : (cf140 43).toInt = (cf109 43).toInt := e157
                replace e158 : (cf140 44).toInt = (cf109 44).toInt := e158
                replace e159 : (cf140 45).toInt = (cf109 45).toInt := e159
                replace e160 : (cf140 46).toInt = (cf109 46).toInt := e160
                replace e161 : (cf140 47).toInt = (cf109 47).toInt := e161
                replace e162 : (cf140 55).toInt = (cf109 55).toInt := e162
                replace e163 : (cf140 57).toInt = (cf109 57).toInt := e163
                replace e164 : (cf140 58).toInt = (cf109 58).toInt := e164
                replace e165 : (cf140 59).toInt = (cf109 59).toInt := e165
                replace e166 : LyU ca_80 ca141 (cf109 48) (0 : Int32) (cf109 54) (1 : Int32) (txo (cf109 43).toInt) := e166
                have hlu : LyU ca_80 ca141 (cf109 48) (0 : Int32) (cf109 54) (1 : Int32) tx := (by rw [← htx]; exact (by rw [show nd.toInt = (cf109 43).toInt by omega]; exact e166))
                have hcl_e166 : CaG ca_80 ca141 (cf140 33).toInt (cf109 48).toInt := cag_ly hlu (by omega) (by omega)
                have hsr : SyR ca141 ys (cf140 48).toInt (cf140 54).toInt tx := SyR.eq (SyR.ly (cells' := (cf140 54).toInt) (SyR.eq hsr (ns' := (cf109 48).toInt) (by omega) rfl) hlu rfl (by omega) (by omega) (by omega) ⟨by omega, by omega⟩ ⟨by omega, by omega⟩ (fun q => by omega) (fun q => by omega) (fun q => by omega)) (by omega) rfl
                have hkt := hkt.cg hcl_e166 (by omega)
                have hks := hks.cg hcl_e166 (by omega) (by omega) (n2 := (cf140 48).toInt) (by omega)
                have hcg := hcg.tr hcl_e166 (by omega) (by omega)
                have hft := hft.cg hcl_e166
                have hfp := hfp.cg hcl_e166
                have hprs : PrS ca141 (cf140 48).toInt ys na ma_80 lo mid_80 (na 17 nd.toNatClampNeg) x80_6 := PrS.tr hprs (FrC.rf (lo := 0) (hi := 0)) (by omega) hcl_e166 (by omega) (by omega)
                have hzfu : ZFu cf140 ta na ca p0 := (fun q9 => hzfu (by omega))
                have hs49 : (ca141 49 (cf109 48).toNatClampNeg).toInt = (0 : Int) := (by rw [hlu.2.1 (by omega) (by omega)]; rfl)
                have hs52 : (ca141 52 (cf109 48).toNatClampNeg).toInt = (1 : Int) := (by rw [hlu.2.2.2.1]; rfl)
                have hsy : SyV ca141 (cf140 48).toInt ys (cf109 48) := hlu.sv (by omega) (by omega) ⟨by omega, by omega⟩ (by omega)
                have hwr : WrV cf140 (tf 6).toInt := WrV.eq hwr (by omega) (by omega)
                replace hw : pw D A s.heap H locs [wdP cs h r g tf ta pf na ma_80 wa cf140 ca141 ef ea xf xa] := hw
                have lv143 := Int32.le_toInt v143
                have uv143 := Int32.toInt_lt v143
                have hyv : (cf109 48) = v143 := i_eq.mpr (by omega); rw [hyv] at hsy hs49 hs52
                refine px_iast S hT hw 0 14 (n := 2100) (f := (ma_80 18)) (x := x80_6) (y := v143) rfl gp_18 (vp_in_iff.mpr (by constructor <;> omega)) d_Mpg_checkFunction_175 (w' := wdP cs h r g tf ta pf na (va_up ma_80 18 (upd (ma_80 18) x80_6.toNatClampNeg v143)) wa cf140 ca141 ef ea xf xa) (ps' := [wdP cs h r g tf ta pf na (va_up ma_80 18 (upd (ma_80 18) x80_6.toNatClampNeg v143)) wa cf140 ca141 ef ea xf xa]) sp_18 rfl (fun H locs hw => ?_)
                obtain ⟨ma167, hu_ma167⟩ : ∃ y : Nat → Nat → Int32, y = va_up ma_80 18 (upd (ma_80 18) x80_6.toNatClampNeg v143) := ⟨_, rfl⟩
                have hw : pw D A s.heap _ _ [wdP cs h r g tf ta pf na ma167 wa cf140 ca141 ef ea xf xa] := (by rw [hu_ma167]; exact hw)
                have hf1_ma167 : FrC x80_6.toInt (x80_6.toInt + 1) ma_80 ma167 := (by rw [hu_ma167]; exact FrC.w FrC.rf (by omega) (by omega) (by omega))
                have han : Ann na ma0 ma167 := (by rw [hu_ma167]; exact Ann.w18 han (by omega))
                have hfc := hfc.tr hf1_ma167 (by omega) (by omega)
                have hprs : PrS ca141 (cf140 48).toInt ys na ma167 lo mid_80 (na 17 nd.toNatClampNeg) x80_6 := PrS.tr hprs hf1_ma167 (by omega) (CaG.rf (kn := 0) (ns := 5000)) (by omega) (by omega)
                have hzfu : ZFu cf140 ta na ca p0 := (fun q9 => hzfu (by omega))
                have hv_18_x80_6 : ma167 18 x80_6.toNatClampNeg = v143 := (by rw [hu_ma167, va_up_s, pk_us])
                have hnhv_18_x80_6 : (ma167 18 x80_6.toNatClampNeg).toInt = v143.toInt := (by rw [hv_18_x80_6])
                refine lv_aload_n S.x S.b d_Mpg_checkFunction_176 rfl (lv_at hl 2 rfl) ?_
                refine lv_aload_n S.x S.b d_Mpg_checkFunction_177 rfl (lv_at hl 2 rfl) ?_
                refine px_get S k_Mpg hT hw 0 0 15 (v := .ref (r 15)) rfl rfl rfl (by decide) m9_239 d_Mpg_checkFunction_178 ?_
                refine lv_iload S.x S.b d_Mpg_checkFunction_181 (lv_at hl 7 rfl) ?_
                refine px_iald S hT hw 0 11 (n := 2100) (f := (na 15)) rfl gp_15 (x := x80_6) (vp_in_iff.mpr (by constructor <;> omega)) d_Mpg_checkFunction_183 ?_
                refine lv_topi (fun z168 ez168 => ?_)
                have lz168 := Int32.le_toInt z168
                have uz168 := Int32.toInt_lt z168
                have rz168 := PaV.tok hpa_x80_6 ez168
                refine lv_iload S.x S.b d_Mpg_checkFunction_184 (lv_at hl 1 rfl) ?_
                refine lv_if_ne (tgt := 193) S.x S.b d_Mpg_checkFunction_186 (by decide) (fun c169 => ?_) (fun c169 => ?_)
                · exact absurd c169 (by decide)
                ·
                  refine lv_iconst (v := 1) S.x S.b d_Mpg_checkFunction_189 (by decide) ?_
                  refine lv_goto (tgt := 209) S.x S.b d_Mpg_checkFunction_190 (by decide) ?_
                  refine lv_iconst (v := 0) S.x S.b d_Mpg_checkFunction_209 (by decide) ?_
                  refine lv_aload_n S.x S.b d_Mpg_checkFunction_210 rfl (lv_at hl 2 rfl) ?_
                  refine px_get S k_Mpg hT hw 0 0 18 (v := .ref (r 18)) rfl rfl rfl (by decide) m10_3 d_Mpg_checkFunction_211 ?_
                  refine lv_iload S.x S.b d_Mpg_checkFunction_214 (lv_at hl 7 rfl) ?_
                  refine px_iald S hT hw 0 14 (n := 2100) (f := (ma167 18)) rfl gp_18 (x := x80_6) (vp_in_iff.mpr (by constructor <;> omega)) d_Mpg_checkFunction_216 ?_
                  refine lv_topi (fun z170 ez170 => ?_)
                  have lz170 := Int32.le_toInt z170
                  have uz170 := Int32.toInt_lt z170
                  have hsz170 : v143 = z170 := (ez170.trans hv_18_x80_6).symm; subst hsz170
                  refine px_callv (pr := []) (px_runV (As := [.int z168, .int 1, .int 0, .int v143]) (rest := []) S (c_mp_know l D cs h r g tf ta pf na ma167 wa ef ea xf xa cf140 ca141 z168 1 0 v143  (show 0 ≤ (cf140 33).toInt from by first | exact oz_9bcc310e9c e152 e114 k80_11 g4 | omega) (show (cf140 33).toInt < 1100 from by first | with_reducible rfl | with_reducible assumption | omega) htk _) hT (pr := []) (pcs := [wdP cs h r g tf ta pf na ma167 wa cf140 ca141 ef ea xf xa]) hw px_X.tt (px_recv hT hw 0 0 rfl rfl rfl) m12_193 m12_190 m12_192 ms_12_1 m1_21 q_Mpg_know ⟨show 0 + 1 ≤ (6 * d + 30) from by first | with_reducible rfl | with_reducible assumption | omega, show 8 + (5 + 11) + 0 ≤ (260 * d + 1200) from by first | with_reducible rfl | with_reducible assumption | omega⟩ hl.1 rfl (Nat.le_of_ble_eq_true rfl) d_Mpg_checkFunction_217 ⟨Nat.le_of_ble_eq_true rfl, Nat.le_of_ble_eq_true rfl⟩) hw hA (fun p175 H locs hp175 hw => ?_)
                  obtain ⟨cf173, ca174, rfl, e177, e178, e179, e180, e181, e182, e183, e184, e185, e186, e187, e188, e189, e190, e191, e192, e193, e194, e195⟩ := hp175
                  replace e177 : (cf173 33).toInt = (cf140 33).toInt + 1 := e177
                  replace e178 : (cf173 30).toInt = (cf140 30).toInt := e178
                  replace e179 : (cf173 31).toInt = (cf140 31).toInt := e179
                  replace e180 : (cf173 37).toInt = (cf140 37).toInt := e180
                  replace e181 : (cf173 38).toInt = (cf140 38).toInt := e181
                  replace e182 : (cf173 41).toInt = (cf140 41).toInt := e182
                  replace e183 : (cf173 42).toInt = (cf140 42).toInt := e183
                  replace e184 : (cf173 43).toInt = (cf140 43).toInt := e184
                  replace e185 : (cf173 44).toInt = (cf140 44).toInt := e185
                  replace e186 : (cf173 45).toInt = (cf140 45).toInt := e186
                  replace e187 : (cf173 46).toInt = (cf140 46).toInt := e187
                  replace e188 : (cf173 47).toInt = (cf140 47).toInt := e188
                  replace e189 : (cf173 48).toInt = (cf140 48).toInt := e189
                  replace e190 : (cf173 54).toInt = (cf140 54).toInt := e190
                  replace e191 : (cf173 55).toInt = (cf140 55).toInt := e191
                  replace e192 : (cf173 57).toInt = (cf140 57).toInt := e192
                  replace e193 : (cf173 58).toInt = (cf140 58).toInt := e193
                  replace e194 : (cf173 59).toInt = (cf140 59).toInt := e194
                  replace e195 : KwU ca141 ca174 (cf140 33) z168 (1 : Int32) (0 : Int32) v143 := e195
                  have hcw_e195 : CaG ca141 ca174 (cf140 33).toInt (cf173 48).toInt := cag_kw e195 (by omega) (by omega)
                  have hkt : KnT (tf 6).toInt ca174 (cf173 33).toInt := KnT.eq (KnT.kw (KnT.eq hkt (n' := (cf140 33).toInt) (by omega)) e195 rfl (by omega) (by omega) ⟨by omega, by omega⟩) (by omega)
                  have hks : KnS ca174 (cf173 33).toInt (cf173 48).toInt ys := KnS.eq (KnS.kw (KnS.eq hks (n' := (cf140 33).toInt) (by omega) rfl) e195 rfl (by omega) (Or.inl ⟨by omega, hsy⟩)) (by omega) (by omega)
                  have hcg := hcg.tr hcw_e195 (by omega) (by omega)
                  have hft := hft.cg hcw_e195
                  have hfp := hfp.cg hcw_e195
                  have hsr := hsr.cg hcw_e195 (by omega)
                  have hprs : PrS ca174 (cf173 48).toInt ys na ma167 lo mid_80 (na 17 nd.toNatClampNeg) x80_6 := PrS.tr hprs (FrC.rf (lo := 0) (hi := 0)) (by omega) hcw_e195 (by omega) (by omega)
                  have hzfu : ZFu cf173 ta na ca p0 := (fun q9 => hzfu (by omega))
                  have hsb_e195 := hsy.1.1
                  have hcy_e195 := cl_nat (x := v143) (by first | exact oz_f3ebed1ad0 e144 hsb_e195.1 | omega)
                  have hs49 : (ca174 49 v143.toNatClampNeg).toInt = _ := (congrArg Int32.toInt (hcw_e195.2.2 _ (by omega)).1).trans hs49
                  have hs52 : (ca174 52 v143.toNatClampNeg).toInt = _ := (congrArg Int32.toInt (hcw_e195.2.2 _ (by omega)).2.2.2).trans hs52
                  have hsy : SyV ca174 (cf173 48).toInt ys v143 := hsy.cg hcw_e195 (by omega) (by omega)
                  have hwr : WrV cf173 (tf 6).toInt := WrV.eq hwr (by omega) (by omega)
                  replace hw : pw D A s.heap H locs [wdP cs h r g tf ta pf na ma167 wa cf173 ca174 ef ea xf xa] := hw
                  refine lv_aload_n S.x S.b d_Mpg_checkFunction_220 rfl (lv_at hl 2 rfl) ?_
                  refine px_get S k_Mpg hT hw 0 0 21 (v := .ref (r 21)) rfl rfl rfl (by decide) m10_7 d_Mpg_checkFunction_221 ?_
                  refine lv_iload S.x S.b d_Mpg_checkFunction_224 (lv_at hl 7 rfl) ?_
                  refine px_iald S hT hw 0 17 (n := 2100) (f := (na 21)) rfl gp_21 (x := x80_6) (vp_in_iff.mpr (by constructor <;> omega)) d_Mpg_checkFunction_226 ?_
                  refine lv_topi (fun z196 ez196 => ?_)
                  have lz196 := Int32.le_toInt z196
                  have uz196 := Int32.toInt_lt z196
                  refine lv_istore (lv' := [(6, .int z196), (8, .int 0), (7, .int 0), (0, .ref h), (1, .int p0), (2, .int nd), (4, .int x80_4), (5, .int x80_5)]) S.x S.b d_Mpg_checkFunction_227 hl (by decide) rfl (fun ls hl => ?_)
                  refine lv_goto (tgt := 80) S.x S.b d_Mpg_checkFunction_229 (by decide) ?_
                  exact ih80 ma167 cf173 ca174 md105 (wr_80 - wv106) x80_4 x80_5 z196 _ _ ls (show (cf173 30).toInt = 0 → (cf 30).toInt = 0 from by first | with_reducible rfl | with_reducible assumption | omega) (show WrV cf173 (tf 6).toInt from hwr) (show (cf173 38).toInt = (cf 38).toInt from by first | exact oz_ff3084e3c1 k80_2 e181 e115 e154 | omega) (show (cf173 44).toInt = (cf 44).toInt from by first | exact oz_ff3084e3c1 k80_3 e185 e123 e158 | omega) (show (cf173 45).toInt = (cf 45).toInt from by first | exact oz_ff3084e3c1 k80_4 e186 e124 e159 | omega) (show (cf173 46).toInt = (cf 46).toInt from by first | exact oz_ff3084e3c1 k80_5 e187 e117 e160 | omega) (show (cf173 47).toInt = (cf 47).toInt from by first | exact oz_ff3084e3c1 k80_6 e188 e118 e161 | omega) (show (cf173 41).toInt = (cf 41).toInt from by first | exact oz_ff3084e3c1 k80_7 e182 e129 e155 | omega) (show (cf173 55).toInt = (cf 55).toInt from by first | exact oz_ff3084e3c1 k80_8 e191 e126 e162 | omega) (show (cf173 37).toInt = (cf 33).toInt from by first | exact oz_ff3084e3c1 k80_9 e180 e120 e153 | omega) (show (cf173 43).toInt = nd.toInt from by first | exact oz_ff3084e3c1 k80_10 e184 e122 e157 | omega) (show (cf 33).toInt ≤ (cf173 33).toInt from by first | exact oz_6e66b3a32a k80_11 e177 e114 e152 | omega) (show 6 * (cf173 33).toInt ≤ 6 * (cf 33).toInt + (wp - (wr_80 - wv106)) from by first | with_reducible rfl | with_reducible assumption | omega) (show (cf 48).toInt ≤ (cf173 48).toInt from by first | exact oz_2da8b60292 k80_19 e189 k80_15 e116 hsb_e195.2 | omega) (show 6 * (cf173 48).toInt ≤ 6 * (cf 48).toInt + (wp - (wr_80 - wv106)) from by first | with_reducible rfl | with_reducible assumption | omega) (show 4 ≤ (cf173 42).toInt from by first | exact oz_6ca5c2d626 e183 e156 tz134 e121 k80_15 | omega) (show 0 ≤ (cf173 54).toInt from by first | exact oz_ecc8fd4544 e190 e146 e125 k80_16 | omega) (show (cf173 54).toInt ≤ 4 * ((cf173 42).toInt - 4) from by first | exact oz_534035a21a e183 e190 e156 e148 e125 tz134 k80_17 e121 | omega) (show (cf173 54).toInt ≤ 4096 * ((cf173 48).toInt - (cf 48).toInt) from by first | exact oz_8173734d0d k80_18 e189 e190 e116 e125 e147 hsb_e195.2 | omega) (show (cf173 42).toInt - 4 ≤ 4096 * ((cf173 48).toInt - (cf 48).toInt) from by first | exact oz_dffa147a41 k80_19 e183 e189 e116 e121 e156 hsb_e195.2 tz134 | omega) (show x80_4.toInt = (cf 33).toInt from by first | exact k80_20 | omega) (show x80_5.toInt = (cf 37).toInt from by first | exact k80_21 | omega) (show nd.toInt + 1 ≤ md105 from by first | with_reducible rfl | with_reducible assumption | omega) (show md105 ≤ m1 from by first | with_reducible rfl | with_reducible assumption | omega) (show 0 ≤ (wr_80 - wv106) from by first | with_reducible rfl | with_reducible assumption | omega) (show (wr_80 - wv106) ≤ wp from by first | with_reducible rfl | with_reducible assumption | omega) (show KnT (tf 6).toInt ca174 (cf173 33).toInt from (KnT.eq hkt (by omega))) (show KnS ca174 (cf173 33).toInt (cf173 48).toInt ys from (KnS.eq hks (by omega) (by omega))) (show CaG ca ca174 (cf 33).toInt (cf 48).toInt from (hcg.le (by omega) (by omega))) (show SyR ca174 ys (cf173 48).toInt (cf173 54).toInt tx from (SyR.eq hsr (by omega) (by omega))) (show Ann na ma0 ma167 from han) (show FrC lo hi ma ma167 from hfc) (show RvP ta (tf 6).toInt na ma0 md105 m1 (wr_80 - wv106) z196 from (by rw [ez196]; exact hrp2)) (show PrS ca174 (cf173 48).toInt ys na ma167 lo md105 (na 17 nd.toNatClampNeg) z196 from (PrS.nx (PrS.to hprs (by omega) (Int.le_refl _) (by omega)) (by omega) hv_18_x80_6 (by omega) (by omega) (Or.inl ⟨by omega, hsy⟩) ez196)) (show ZFu cf173 ta na ca p0 from (fun zz => hzfu (by have q9 : (cf173 30).toInt = 0 := zz; omega))) (show m1 - md105 < (n_80 : Int) from by first | with_reducible rfl | with_reducible assumption | omega) hw (lv_sub hl [3, 4, 5, 6, 7, 0] rfl)
              · exact absurd c137 (by decide)
            · have nc136 : z135.toInt = (1 : Int) := (i_eq (x := z135) (y := 1)).mp c136
              refine lv_iconst (v := 1) S.x S.b d_Mpg_checkFunction_143 (by decide) ?_
              refine lv_goto (tgt := 148) S.x S.b d_Mpg_checkFunction_144 (by decide) ?_
              refine lv_istore (lv' := [(8, .int 1), (7, .int 0), (0, .ref h), (1, .int p0), (2, .int nd), (4, .int x80_4), (5, .int x80_5), (6, .int x80_6)]) S.x S.b d_Mpg_checkFunction_148 hl (by decide) rfl (fun ls hl => ?_)
              refine lv_aload_n S.x S.b d_Mpg_checkFunction_150 rfl (lv_at hl 2 rfl) ?_
              refine px_get S k_Mpg hT hw 0 0 18 (v := .ref (r 18)) rfl rfl rfl (by decide) m10_3 d_Mpg_checkFunction_151 ?_
              refine lv_iload S.x S.b d_Mpg_checkFunction_154 (lv_at hl 7 rfl) ?_
              refine lv_aload_n S.x S.b d_Mpg_checkFunction_156 rfl (lv_at hl 2 rfl) ?_
              refine lv_iload S.x S.b d_Mpg_checkFunction_157 (lv_at hl 1 rfl) ?_
              refine lv_if_eq (tgt := 169) S.x S.b d_Mpg_checkFunction_159 (by decide) (fun c197 => ?_) (fun c197 => ?_)
              ·
                refine lv_iload S.x S.b d_Mpg_checkFunction_169 (lv_at hl 0 rfl) ?_
                refine lv_iconst (v := 1) S.x S.b d_Mpg_checkFunction_171 (by decide) ?_
                refine px_calli (pr := []) (px_runV (As := [.int 1, .int 1]) (rest := [.int x80_6, .ref (r 18)]) S (c_mp_lay l D cs h r g tf ta pf na ma_80 wa ef ea xf xa (upd cf109 42 z134) ca_80 1 1  (show 0 ≤ (cf109 48).toInt from by first | exact oz_c0af2c5e34 e116 k80_19 g7 k80_15 | omega) (show (cf109 48).toInt < 1100 from by first | with_reducible rfl | with_reducible assumption | omega) (show 0 ≤ (1 : Int) from by first | decide | omega) (show (1 : Int) ≤ 5 from by first | decide | omega) (show 0 ≤ (1 : Int) from by first | decide | omega) (show (1 : Int) ≤ 4096 from by first | decide | omega) (show 0 ≤ (cf109 54).toInt from by first | exact oz_f3ebed1ad0 e125 k80_16 | omega) (show (cf109 54).toInt ≤ 40000000 from by first | with_reducible rfl | with_reducible assumption | omega) htk _) hT (pr := []) (pcs := [wdP cs h r g tf ta pf na ma_80 wa (upd cf109 42 z134) ca_80 ef ea xf xa]) hw px_X.tt (px_recv hT hw 0 0 rfl rfl rfl) m12_189 m12_186 m12_188 ms_12_0 m1_21 q_Mpg_lay ⟨show 0 + 1 ≤ (6 * d + 30) from by first | with_reducible rfl | with_reducible assumption | omega, show 8 + (3 + 11) + 0 ≤ (260 * d + 1200) from by first | with_reducible rfl | with_reducible assumption | omega⟩ hl.1 rfl (Nat.le_of_ble_eq_true rfl) d_Mpg_checkFunction_172 ⟨Nat.le_of_ble_eq_true rfl, Nat.le_of_ble_eq_true rfl⟩) hw hA (fun v203 p202 H locs hp202 hw => ?_)
                obtain ⟨cf200, ca201, rfl, e204, e205, e206, e207, e208, e209, e210, e211, e212, e213, e214, e215, e216, e217, e218, e219, e220, e221, e222, e223, e224, e225, e226⟩ := hp202
                replace e204 : v203.toInt = (cf109 48).toInt := e204
                replace e205 : (cf200 48).toInt = (cf109 48).toInt + 1 := e205
                replace e206 : (cf109 54).toInt ≤ (cf200 54).toInt := e206
                replace e207 : (cf200 54).toInt ≤ (cf109 54).toInt + 4096 := e207
                replace e208 : (1 : Int) ≤ 3 → (cf200 54).toInt = (cf109 54).toInt + (1 : Int) := e208
                replace e209 : 4 ≤ (1 : Int) → (cf200 54).toInt = (cf109 54).toInt + 2 := e209
                replace e210 : (cf200 30).toInt = (cf109 30).toInt := e210
                replace e211 : (cf200 31).toInt = (cf109 31).toInt := e211
                replace e212 : (cf200 33).toInt = (cf109 33).toInt := e212
                replace e213 : (cf200 37).toInt = (cf109 37).toInt := e213
                replace e214 : (cf200 38).toInt = (cf109 38).toInt := e214
                replace e215 : (cf200 41).toInt = (cf109 41).toInt := e215
                replace e216 : (cf200 42).toInt = z134.toInt := e216
                replace e217 : (cf200 43).toInt = (cf109 43).toInt := e217
                replace e218 : (cf200 44).toInt = (cf109 44).toInt := e218
                replace e219 : (cf200 45).toInt = (cf109 45).toInt := e219
                replace e220 : (cf200 46).toInt = (cf109 46).toInt := e220
                replace e221 : (cf200 47).toInt = (cf109 47).toInt := e221
                replace e222 : (cf200 55).toInt = (cf109 55).toInt := e222
                replace e223 : (cf200 57).toInt = (cf109 57).toInt := e223
                replace e224 : (cf200 58).toInt = (cf109 58).toInt := e224
                replace e225 : (cf200 59).toInt = (cf109 59).toInt := e225
                replace e226 : LyU ca_80 ca201 (cf109 48) (1 : Int32) (cf109 54) (1 : Int32) (txo (cf109 43).toInt) := e226
                have hlu : LyU ca_80 ca201 (cf109 48) (1 : Int32) (cf109 54) (1 : Int32) tx := (by rw [← htx]; exact (by rw [show nd.toInt = (cf109 43).toInt by omega]; exact e226))
                have hcl_e226 : CaG ca_80 ca201 (cf200 33).toInt (cf109 48).toInt := cag_ly hlu (by omega) (by omega)
                have hsr : SyR ca201 ys (cf200 48).toInt (cf200 54).toInt tx := SyR.eq (SyR.ly (cells' := (cf200 54).toInt) (SyR.eq hsr (ns' := (cf109 48).toInt) (by omega) rfl) hlu rfl (by omega) (by omega) (by omega) ⟨by omega, by omega⟩ ⟨by omega, by omega⟩ (fun q => by omega) (fun q => by omega) (fun q => by omega)) (by omega) rfl
                have hkt := hkt.cg hcl_e226 (by omega)
                have hks := hks.cg hcl_e226 (by omega) (by omega) (n2 := (cf200 48).toInt) (by omega)
                have hcg := hcg.tr hcl_e226 (by omega) (by omega)
                have hft := hft.cg hcl_e226
                have hfp := hfp.cg hcl_e226
                have hprs : PrS ca201 (cf200 48).toInt ys na ma_80 lo mid_80 (na 17 nd.toNatClampNeg) x80_6 := PrS.tr hprs (FrC.rf (lo := 0) (hi := 0)) (by omega) hcl_e226 (by omega) (by omega)
                have hzfu : ZFu cf200 ta na ca p0 := (fun q9 => hzfu (by omega))
                have hs49 : (ca201 49 (cf109 48).toNatClampNeg).toInt = (1 : Int) := (by rw [hlu.2.1 (by omega) (by omega)]; rfl)
                have hs52 : (ca201 52 (cf109 48).toNatClampNeg).toInt = (1 : Int) := (by rw [hlu.2.2.2.1]; rfl)
                have hsy : SyV ca201 (cf200 48).toInt ys (cf109 48) := hlu.sv (by omega) (by omega) ⟨by omega, by omega⟩ (by omega)
                have hwr : WrV cf200 (tf 6).toInt := WrV.eq hwr (by omega) (by omega)
                replace hw : pw D A s.heap H locs [wdP cs h r g tf ta pf na ma_80 wa cf200 ca201 ef ea xf xa] := hw
                have lv203 := Int32.le_toInt v203
                have uv203 := Int32.toInt_lt v203
                have hyv : (cf109 48) = v203 := i_eq.mpr (by omega); rw [hyv] at hsy hs49 hs52
                refine px_iast S hT hw 0 14 (n := 2100) (f := (ma_80 18)) (x := x80_6) (y := v203) rfl gp_18 (vp_in_iff.mpr (by constructor <;> omega)) d_Mpg_checkFunction_175 (w' := wdP cs h r g tf ta pf na (va_up ma_80 18 (upd (ma_80 18) x80_6.toNatClampNeg v203)) wa cf200 ca201 ef ea xf xa) (ps' := [wdP cs h r g tf ta pf na (va_up ma_80 18 (upd (ma_80 18) x80_6.toNatClampNeg v203)) wa cf200 ca201 ef ea xf xa]) sp_18 rfl (fun H locs hw => ?_)
                obtain ⟨ma227, hu_ma227⟩ : ∃ y : Nat → Nat → Int32, y = va_up ma_80 18 (upd (ma_80 18) x80_6.toNatClampNeg v203) := ⟨_, rfl⟩
                have hw : pw D A s.heap _ _ [wdP cs h r g tf ta pf na ma227 wa cf200 ca201 ef ea xf xa] := (by rw [hu_ma227]; exact hw)
                have hf1_ma227 : FrC x80_6.toInt (x80_6.toInt + 1) ma_80 ma227 := (by rw [hu_ma227]; exact FrC.w FrC.rf (by omega) (by omega) (by omega))
                have han : Ann na ma0 ma227 := (by rw [hu_ma227]; exact Ann.w18 han (by omega))
                have hfc := hfc.tr hf1_ma227 (by omega) (by omega)
                have hprs : PrS ca201 (cf200 48).toInt ys na ma227 lo mid_80 (na 17 nd.toNatClampNeg) x80_6 := PrS.tr hprs hf1_ma227 (by omega) (CaG.rf (kn := 0) (ns := 5000)) (by omega) (by omega)
                have hzfu : ZFu cf200 ta na ca p0 := (fun q9 => hzfu (by omega))
                have hv_18_x80_6 : ma227 18 x80_6.toNatClampNeg = v203 := (by rw [hu_ma227, va_up_s, pk_us])
                have hnhv_18_x80_6 : (ma227 18 x80_6.toNatClampNeg).toInt = v203.toInt := (by rw [hv_18_x80_6])
                refine lv_aload_n S.x S.b d_Mpg_checkFunction_176 rfl (lv_at hl 2 rfl) ?_
                refine lv_aload_n S.x S.b d_Mpg_checkFunction_177 rfl (lv_at hl 2 rfl) ?_
                refine px_get S k_Mpg hT hw 0 0 15 (v := .ref (r 15)) rfl rfl rfl (by decide) m9_239 d_Mpg_checkFunction_178 ?_
                refine lv_iload S.x S.b d_Mpg_checkFunction_181 (lv_at hl 7 rfl) ?_
                refine px_iald S hT hw 0 11 (n := 2100) (f := (na 15)) rfl gp_15 (x := x80_6) (vp_in_iff.mpr (by constructor <;> omega)) d_Mpg_checkFunction_183 ?_
                refine lv_topi (fun z228 ez228 => ?_)
                have lz228 := Int32.le_toInt z228
                have uz228 := Int32.toInt_lt z228
                have rz228 := PaV.tok hpa_x80_6 ez228
                refine lv_iload S.x S.b d_Mpg_checkFunction_184 (lv_at hl 1 rfl) ?_
                refine lv_if_ne (tgt := 193) S.x S.b d_Mpg_checkFunction_186 (by decide) (fun c229 => ?_) (fun c229 => ?_)
                · exact absurd c229 (by decide)
                ·
                  refine lv_iconst (v := 1) S.x S.b d_Mpg_checkFunction_189 (by decide) ?_
                  refine lv_goto (tgt := 209) S.x S.b d_Mpg_checkFunction_190 (by decide) ?_
                  refine lv_iconst (v := 0) S.x S.b d_Mpg_checkFunction_209 (by decide) ?_
                  refine lv_aload_n S.x S.b d_Mpg_checkFunction_210 rfl (lv_at hl 2 rfl) ?_
                  refine px_get S k_Mpg hT hw 0 0 18 (v := .ref (r 18)) rfl rfl rfl (by decide) m10_3 d_Mpg_checkFunction_211 ?_
                  refine lv_iload S.x S.b d_Mpg_checkFunction_214 (lv_at hl 7 rfl) ?_
                  refine px_iald S hT hw 0 14 (n := 2100) (f := (ma227 18)) rfl gp_18 (x := x80_6) (vp_in_iff.mpr (by constructor <;> omega)) d_Mpg_checkFunction_216 ?_
                  refine lv_topi (fun z230 ez230 => ?_)
                  have lz230 := Int32.le_toInt z230
                  have uz230 := Int32.toInt_lt z230
                  have hsz230 : v203 = z230 := (ez230.trans hv_18_x80_6).symm; subst hsz230
                  refine px_callv (pr := []) (px_runV (As := [.int z228, .int 1, .int 0, .int v203]) (rest := []) S (c_mp_know l D cs h r g tf ta pf na ma227 wa ef ea xf xa cf200 ca201 z228 1 0 v203  (show 0 ≤ (cf200 33).toInt from by first | exact oz_9bcc310e9c e212 e114 k80_11 g4 | omega) (show (cf200 33).toInt < 1100 from by first | with_reducible rfl | with_reducible assumption | omega) htk _) hT (pr := []) (pcs := [wdP cs h r g tf ta pf na ma227 wa cf200 ca201 ef ea xf xa]) hw px_X.tt (px_recv hT hw 0 0 rfl rfl rfl) m12_193 m12_190 m12_192 ms_12_1 m1_21 q_Mpg_know ⟨show 0 + 1 ≤ (6 * d + 30) from by first | with_reducible rfl | with_reducible assumption | omega, show 8 + (5 + 11) + 0 ≤ (260 * d + 1200) from by first | with_reducible rfl | with_reducible assumption | omega⟩ hl.1 rfl (Nat.le_of_ble_eq_true rfl) d_Mpg_checkFunction_217 ⟨Nat.le_of_ble_eq_true rfl, Nat.le_of_ble_eq_true rfl⟩) hw hA (fun p235 H locs hp235 hw => ?_)
                  obtain ⟨cf233, ca234, rfl, e237, e238, e239, e240, e241, e242, e243, e244, e245, e246, e247, e248, e249, e250, e251, e252, e253, e254, e255⟩ := hp235
                  replace e237 : (cf233 33).toInt = (cf200 33).toInt + 1 := e237
                  replace e238 : (cf233 30).toInt = (cf200 30).toInt := e238
                  replace e239 : (cf233 31).toInt = (cf200 31).toInt := e239
                  replace e240 : (cf233 37).toInt = (cf200 37).toInt := e240
                  replace e241 : (cf233 38).toInt = (cf200 38).toInt := e241
                  replace e242 : (cf233 41).toInt = (cf200 41).toInt := e242
                  replace e243 : (cf233 42).toInt = (cf200 42).toInt := e243
                  replace e244 : (cf233 43).toInt = (cf200 43).toInt := e244
                  replace e245 : (cf233 44).toInt = (cf200 44).toInt := e245
                  replace e246 : (cf233 45).toInt = (cf200 45).toInt := e246
                  replace e247 : (cf233 46).toInt = (cf200 46).toInt := e247
                  replace e248 : (cf233 47).toInt = (cf200 47).toInt := e248
                  replace e249 : (cf233 48).toInt = (cf200 48).toInt := e249
                  replace e250 : (cf233 54).toInt = (cf200 54).toInt := e250
                  replace e251 : (cf233 55).toInt = (cf200 55).toInt := e251
                  replace e252 : (cf233 57).toInt = (cf200 57).toInt := e252
                  replace e253 : (cf233 58).toInt = (cf200 58).toInt := e253
                  replace e254 : (cf233 59).toInt = (cf200 59).toInt := e254
                  replace e255 : KwU ca201 ca234 (cf200 33) z228 (1 : Int32) (0 : Int32) v203 := e255
                  have hcw_e255 : CaG ca201 ca234 (cf200 33).toInt (cf233 48).toInt := cag_kw e255 (by omega) (by omega)
                  have hkt : KnT (tf 6).toInt ca234 (cf233 33).toInt := KnT.eq (KnT.kw (KnT.eq hkt (n' := (cf200 33).toInt) (by omega)) e255 rfl (by omega) (by omega) ⟨by omega, by omega⟩) (by omega)
                  have hks : KnS ca234 (cf233 33).toInt (cf233 48).toInt ys := KnS.eq (KnS.kw (KnS.eq hks (n' := (cf200 33).toInt) (by omega) rfl) e255 rfl (by omega) (Or.inl ⟨by omega, hsy⟩)) (by omega) (by omega)
                  have hcg := hcg.tr hcw_e255 (by omega) (by omega)
                  have hft := hft.cg hcw_e255
                  have hfp := hfp.cg hcw_e255
                  have hsr := hsr.cg hcw_e255 (by omega)
                  have hprs : PrS ca234 (cf233 48).toInt ys na ma227 lo mid_80 (na 17 nd.toNatClampNeg) x80_6 := PrS.tr hprs (FrC.rf (lo := 0) (hi := 0)) (by omega) hcw_e255 (by omega) (by omega)
                  have hzfu : ZFu cf233 ta na ca p0 := (fun q9 => hzfu (by omega))
                  have hsb_e255 := hsy.1.1
                  have hcy_e255 := cl_nat (x := v203) (by first | exact oz_f3ebed1ad0 e204 hsb_e255.1 | omega)
                  have hs49 : (ca234 49 v203.toNatClampNeg).toInt = _ := (congrArg Int32.toInt (hcw_e255.2.2 _ (by omega)).1).trans hs49
                  have hs52 : (ca234 52 v203.toNatClampNeg).toInt = _ := (congrArg Int32.toInt (hcw_e255.2.2 _ (by omega)).2.2.2).trans hs52
                  have hsy : SyV ca234 (cf233 48).toInt ys v203 := hsy.cg hcw_e255 (by omega) (by omega)
                  have hwr : WrV cf233 (tf 6).toInt := WrV.eq hwr (by omega) (by omega)
                  replace hw : pw D A s.heap H locs [wdP cs h r g tf ta pf na ma227 wa cf233 ca234 ef ea xf xa] := hw
                  refine lv_aload_n S.x S.b d_Mpg_checkFunction_220 rfl (lv_at hl 2 rfl) ?_
                  refine px_get S k_Mpg hT hw 0 0 21 (v := .ref (r 21)) rfl rfl rfl (by decide) m10_7 d_Mpg_checkFunction_221 ?_
                  refine lv_iload S.x S.b d_Mpg_checkFunction_224 (lv_at hl 7 rfl) ?_
                  refine px_iald S hT hw 0 17 (n := 2100) (f := (na 21)) rfl gp_21 (x := x80_6) (vp_in_iff.mpr (by constructor <;> omega)) d_Mpg_checkFunction_226 ?_
                  refine lv_topi (fun z256 ez256 => ?_)
                  have lz256 := Int32.le_toInt z256
                  have uz256 := Int32.toInt_lt z256
                  refine lv_istore (lv' := [(6, .int z256), (8, .int 1), (7, .int 0), (0, .ref h), (1, .int p0), (2, .int nd), (4, .int x80_4), (5, .int x80_5)]) S.x S.b d_Mpg_checkFunction_227 hl (by decide) rfl (fun ls hl => ?_)
                  refine lv_goto (tgt := 80) S.x S.b d_Mpg_checkFunction_229 (by decide) ?_
                  exact ih80 ma227 cf233 ca234 md105 (wr_80 - wv106) x80_4 x80_5 z256 _ _ ls (show (cf233 30).toInt = 0 → (cf 30).toInt = 0 from by first | with_reducible rfl | with_reducible assumption | omega) (show WrV cf233 (tf 6).toInt from hwr) (show (cf233 38).toInt = (cf 38).toInt from by first | exact oz_ff3084e3c1 k80_2 e241 e115 e214 | omega) (show (cf233 44).toInt = (cf 44).toInt from by first | exact oz_ff3084e3c1 k80_3 e245 e123 e218 | omega) (show (cf233 45).toInt = (cf 45).toInt from by first | exact oz_ff3084e3c1 k80_4 e246 e124 e219 | omega) (show (cf233 46).toInt = (cf 46).toInt from by first | exact oz_ff3084e3c1 k80_5 e247 e117 e220 | omega) (show (cf233 47).toInt = (cf 47).toInt from by first | exact oz_ff3084e3c1 k80_6 e248 e118 e221 | omega) (show (cf233 41).toInt = (cf 41).toInt from by first | exact oz_ff3084e3c1 k80_7 e242 e129 e215 | omega) (show (cf233 55).toInt = (cf 55).toInt from by first | exact oz_ff3084e3c1 k80_8 e251 e126 e222 | omega) (show (cf233 37).toInt = (cf 33).toInt from by first | exact oz_ff3084e3c1 k80_9 e240 e120 e213 | omega) (show (cf233 43).toInt = nd.toInt from by first | exact oz_ff3084e3c1 k80_10 e244 e122 e217 | omega) (show (cf 33).toInt ≤ (cf233 33).toInt from by first | exact oz_6e66b3a32a k80_11 e237 e114 e212 | omega) (show 6 * (cf233 33).toInt ≤ 6 * (cf 33).toInt + (wp - (wr_80 - wv106)) from by first | with_reducible rfl | with_reducible assumption | omega) (show (cf 48).toInt ≤ (cf233 48).toInt from by first | exact oz_2da8b60292 k80_19 e249 k80_15 e116 hsb_e255.2 | omega) (show 6 * (cf233 48).toInt ≤ 6 * (cf 48).toInt + (wp - (wr_80 - wv106)) from by first | with_reducible rfl | with_reducible assumption | omega) (show 4 ≤ (cf233 42).toInt from by first | exact oz_6ca5c2d626 e243 e216 tz134 e121 k80_15 | omega) (show 0 ≤ (cf233 54).toInt from by first | exact oz_ecc8fd4544 e250 e206 e125 k80_16 | omega) (show (cf233 54).toInt ≤ 4 * ((cf233 42).toInt - 4) from by first | exact oz_2184f957c1 e243 e250 e216 e208 e125 tz134 k80_17 e121 | omega) (show (cf233 54).toInt ≤ 4096 * ((cf233 48).toInt - (cf 48).toInt) from by first | exact oz_8173734d0d k80_18 e249 e250 e116 e125 e207 hsb_e255.2 | omega) (show (cf233 42).toInt - 4 ≤ 4096 * ((cf233 48).toInt - (cf 48).toInt) from by first | exact oz_dffa147a41 k80_19 e243 e249 e116 e121 e216 hsb_e255.2 tz134 | omega) (show x80_4.toInt = (cf 33).toInt from by first | exact k80_20 | omega) (show x80_5.toInt = (cf 37).toInt from by first | exact k80_21 | omega) (show nd.toInt + 1 ≤ md105 from by first | with_reducible rfl | with_reducible assumption | omega) (show md105 ≤ m1 from by first | with_reducible rfl | with_reducible assumption | omega) (show 0 ≤ (wr_80 - wv106) from by first | with_reducible rfl | with_reducible assumption | omega) (show (wr_80 - wv106) ≤ wp from by first | with_reducible rfl | with_reducible assumption | omega) (show KnT (tf 6).toInt ca234 (cf233 33).toInt from (KnT.eq hkt (by omega))) (show KnS ca234 (cf233 33).toInt (cf233 48).toInt ys from (KnS.eq hks (by omega) (by omega))) (show CaG ca ca234 (cf 33).toInt (cf 48).toInt from (hcg.le (by omega) (by omega))) (show SyR ca234 ys (cf233 48).toInt (cf233 54).toInt tx from (SyR.eq hsr (by omega) (by omega))) (show Ann na ma0 ma227 from han) (show FrC lo hi ma ma227 from hfc) (show RvP ta (tf 6).toInt na ma0 md105 m1 (wr_80 - wv106) z256 from (by rw [ez256]; exact hrp2)) (show PrS ca234 (cf233 48).toInt ys na ma227 lo md105 (na 17 nd.toNatClampNeg) z256 from (PrS.nx (PrS.to hprs (by omega) (Int.le_refl _) (by omega)) (by omega) hv_18_x80_6 (by omega) (by omega) (Or.inl ⟨by omega, hsy⟩) ez256)) (show ZFu cf233 ta na ca p0 from (fun zz => hzfu (by have q9 : (cf233 30).toInt = 0 := zz; omega))) (show m1 - md105 < (n_80 : Int) from by first | with_reducible rfl | with_reducible assumption | omega) hw (lv_sub hl [3, 4, 5, 6, 7, 0] rfl)
              · exact absurd c197 (by decide)
          · exact absurd c132 (by decide)
        · have nc131 : ¬ z130.toInt < (0 : Int) := mt (i_lt (x := z130) (y := 0)).mpr c131
          refine lv_iconst (v := 1) S.x S.b d_Mpg_checkFunction_106 (by decide) ?_
          refine lv_goto (tgt := 111) S.x S.b d_Mpg_checkFunction_107 (by decide) ?_
          refine lv_istore (lv' := [(7, .int 1), (0, .ref h), (1, .int p0), (2, .int nd), (4, .int x80_4), (5, .int x80_5), (6, .int x80_6)]) S.x S.b d_Mpg_checkFunction_111 hl (by decide) rfl (fun ls hl => ?_)
          refine lv_aload_n S.x S.b d_Mpg_checkFunction_113 rfl (lv_at hl 1 rfl) ?_
          refine lv_aload_n S.x S.b d_Mpg_checkFunction_114 rfl (lv_at hl 1 rfl) ?_
          refine px_get S k_Mpg hT hw 0 0 42 (v := .int (cf109 42)) rfl rfl rfl (by decide) m10_33 d_Mpg_checkFunction_115 ?_
          refine lv_iload S.x S.b d_Mpg_checkFunction_118 (lv_at hl 0 rfl) ?_
          refine lv_if_eq (tgt := 127) S.x S.b d_Mpg_checkFunction_120 (by decide) (fun c257 => ?_) (fun c257 => ?_)
          · exact absurd c257 (by decide)
          ·
            refine lv_iconst (v := 2) S.x S.b d_Mpg_checkFunction_123 (by decide) ?_
            refine lv_goto (tgt := 128) S.x S.b d_Mpg_checkFunction_124 (by decide) ?_
            refine lv_iadd S.x S.b d_Mpg_checkFunction_128 ?_
            have lr258 := Int32.le_toInt (cf109 42)
            have ur258 := Int32.toInt_lt (cf109 42)
            refine lv_topi (fun z259 ez259 => ?_)
            have tz259 : z259.toInt = ((cf109 42).toInt + (2 : Int) + 2147483648) % 4294967296 - 2147483648 := by rw [ez259]; exact i_add (cf109 42) 2
            have lz259 := Int32.le_toInt z259
            have uz259 := Int32.toInt_lt z259
            try replace tz259 : z259.toInt = (cf109 42).toInt + (2 : Int) := by omega
            refine px_put S k_Mpg hT hw 0 0 42 rfl rfl (by decide) m10_33 rfl rfl rfl (Nat.le_of_ble_eq_true rfl) d_Mpg_checkFunction_129 (w' := wdP cs h r g tf ta pf na ma_80 wa (upd cf109 42 z259) ca_80 ef ea xf xa) (ps' := [wdP cs h r g tf ta pf na ma_80 wa (upd cf109 42 z259) ca_80 ef ea xf xa]) rfl rfl (fun H locs hw => ?_)
            refine lv_aload_n S.x S.b d_Mpg_checkFunction_132 rfl (lv_at hl 1 rfl) ?_
            refine px_get S k_Mpg hT hw 0 0 22 (v := .ref (r 22)) rfl rfl rfl (by decide) m10_9 d_Mpg_checkFunction_133 ?_
            refine lv_iload S.x S.b d_Mpg_checkFunction_136 (lv_at hl 6 rfl) ?_
            refine px_iald S hT hw 0 18 (n := 2100) (f := (ma_80 22)) rfl gp_22 (x := x80_6) (vp_in_iff.mpr (by constructor <;> omega)) d_Mpg_checkFunction_138 ?_
            refine lv_topi (fun z260 ez260 => ?_)
            have lz260 := Int32.le_toInt z260
            have uz260 := Int32.toInt_lt z260
            have rz260 : z260.toInt = (ma0 22 x80_6.toNatClampNeg).toInt := (by rw [ez260, Ann.v22 han (by omega)])
            refine lv_iconst (v := 1) S.x S.b d_Mpg_checkFunction_139 (by decide) ?_
            refine lv_icmp_ne (tgt := 147) S.x S.b d_Mpg_checkFunction_140 (by decide) (fun c261 => ?_) (fun c261 => ?_)
            · have nc261 : ¬ z260.toInt = (1 : Int) := mt (i_eq (x := z260) (y := 1)).mpr c261
              refine lv_iconst (v := 0) S.x S.b d_Mpg_checkFunction_147 (by decide) ?_
              refine lv_istore (lv' := [(8, .int 0), (7, .int 1), (0, .ref h), (1, .int p0), (2, .int nd), (4, .int x80_4), (5, .int x80_5), (6, .int x80_6)]) S.x S.b d_Mpg_checkFunction_148 hl (by decide) rfl (fun ls hl => ?_)
              refine lv_aload_n S.x S.b d_Mpg_checkFunction_150 rfl (lv_at hl 2 rfl) ?_
              refine px_get S k_Mpg hT hw 0 0 18 (v := .ref (r 18)) rfl rfl rfl (by decide) m10_3 d_Mpg_checkFunction_151 ?_
              refine lv_iload S.x S.b d_Mpg_checkFunction_154 (lv_at hl 7 rfl) ?_
              refine lv_aload_n S.x S.b d_Mpg_checkFunction_156 rfl (lv_at hl 2 rfl) ?_
              refine lv_iload S.x S.b d_Mpg_checkFunction_157 (lv_at hl 1 rfl) ?_
              refine lv_if_eq (tgt := 169) S.x S.b d_Mpg_checkFunction_159 (by decide) (fun c262 => ?_) (fun c262 => ?_)
              · exact absurd c262 (by decide)
              ·
                refine lv_iconst (v := 4) S.x S.b d_Mpg_checkFunction_162 (by decide) ?_
                refine lv_iload S.x S.b d_Mpg_checkFunction_163 (lv_at hl 0 rfl) ?_
                refine lv_iadd S.x S.b d_Mpg_checkFunction_165 ?_
                refine lv_topi (fun z263 ez263 => ?_)
                have tz263 : z263.toInt = ((4 : Int) + (0 : Int) + 2147483648) % 4294967296 - 2147483648 := by rw [ez263]; exact i_add 4 0
                have lz263 := Int32.le_toInt z263
                have uz263 := Int32.toInt_lt z263
                try replace tz263 : z263.toInt = (4 : Int) + (0 : Int) := by omega
                refine lv_goto (tgt := 171) S.x S.b d_Mpg_checkFunction_166 (by decide) ?_
                refine lv_iconst (v := 1) S.x S.b d_Mpg_checkFunction_171 (by decide) ?_
                refine px_calli (pr := []) (px_runV (As := [.int z263, .int 1]) (rest := [.int x80_6, .ref (r 18)]) S (c_mp_lay l D cs h r g tf ta pf na ma_80 wa ef ea xf xa (upd cf109 42 z259) ca_80 z263 1  (show 0 ≤ (cf109 48).toInt from by first | exact oz_c0af2c5e34 e116 k80_19 g7 k80_15 | omega) (show (cf109 48).toInt < 1100 from by first | with_reducible rfl | with_reducible assumption | omega) (show 0 ≤ z263.toInt from by first | exact oz_49140f3e75 tz263 | omega) (show z263.toInt ≤ 5 from by first | exact oz_c5999268bd tz263 | omega) (show 0 ≤ (1 : Int) from by first | decide | omega) (show (1 : Int) ≤ 4096 from by first | decide | omega) (show 0 ≤ (cf109 54).toInt from by first | exact oz_f3ebed1ad0 e125 k80_16 | omega) (show (cf109 54).toInt ≤ 40000000 from by first | with_reducible rfl | with_reducible assumption | omega) htk _) hT (pr := []) (pcs := [wdP cs h r g tf ta pf na ma_80 wa (upd cf109 42 z259) ca_80 ef ea xf xa]) hw px_X.tt (px_recv hT hw 0 0 rfl rfl rfl) m12_189 m12_186 m12_188 ms_12_0 m1_21 q_Mpg_lay ⟨show 0 + 1 ≤ (6 * d + 30) from by first | with_reducible rfl | with_reducible assumption | omega, show 8 + (3 + 11) + 0 ≤ (260 * d + 1200) from by first | with_reducible rfl | with_reducible assumption | omega⟩ hl.1 rfl (Nat.le_of_ble_eq_true rfl) d_Mpg_checkFunction_172 ⟨Nat.le_of_ble_eq_true rfl, Nat.le_of_ble_eq_true rfl⟩) hw hA (fun v269 p268 H locs hp268 hw => ?_)
                obtain ⟨cf266, ca267, rfl, e270, e271, e272, e273, e274, e275, e276, e277, e278, e279, e280, e281, e282, e283, e284, e285, e286, e287, e288, e289, e290, e291, e292⟩ := hp268
                replace e270 : v269.toInt = (cf109 48).toInt := e270
                replace e271 : (cf266 48).toInt = (cf109 48).toInt + 1 := e271
                replace e272 : (cf109 54).toInt ≤ (cf266 54).toInt := e272
                replace e273 : (cf266 54).toInt ≤ (cf109 54).toInt + 4096 := e273
                replace e274 : z263.toInt ≤ 3 → (cf266 54).toInt = (cf109 54).toInt + (1 : Int) := e274
                replace e275 : 4 ≤ z263.toInt → (cf266 54).toInt = (cf109 54).toInt + 2 := e275
                replace e276 : (cf266 30).toInt = (cf109 30).toInt := e276
                replace e277 : (cf266 31).toInt = (cf109 31).toInt := e277
                replace e278 : (cf266 33).toInt = (cf109 33).toInt := e278
                replace e279 : (cf266 37).toInt = (cf109 37).toInt := e279
                replace e280 : (cf266 38).toInt = (cf109 38).toInt := e280
                replace e281 : (cf266 41).toInt = (cf109 41).toInt := e281
                replace e282 : (cf266 42).toInt = z259.toInt := e282
                replace e283 : (cf266 43).toInt = (cf109 43).toInt := e283
                replace e284 : (cf266 44).toInt = (cf109 44).toInt := e284
                replace e285 : (cf266 45).toInt = (cf109 45).toInt := e285
                replace e286 : (cf266 46).toInt = (cf109 46).toInt := e286
                replace e287 : (cf266 47).toInt = (cf109 47).toInt := e287
                replace e288 : (cf266 55).toInt = (cf109 55).toInt := e288
                replace e289 : (cf266 57).toInt = (cf109 57).toInt := e289
                replace e290 : (cf266 58).toInt = (cf109 58).toInt := e290
                replace e291 : (cf266 59).toInt = (cf109 59).toInt := e291
                replace e292 : LyU ca_80 ca267 (cf109 48) z263 (cf109 54) (1 : Int32) (txo (cf109 43).toInt) := e292
                have hlu : LyU ca_80 ca267 (cf109 48) z263 (cf109 54) (1 : Int32) tx := (by rw [← htx]; exact (by rw [show nd.toInt = (cf109 43).toInt by omega]; exact e292))
                have hcl_e292 : CaG ca_80 ca267 (cf266 33).toInt (cf109 48).toInt := cag_ly hlu (by omega) (by omega)
                have hsr : SyR ca267 ys (cf266 48).toInt (cf266 54).toInt tx := SyR.eq (SyR.ly (cells' := (cf266 54).toInt) (SyR.eq hsr (ns' := (cf109 48).toInt) (by omega) rfl) hlu rfl (by omega) (by omega) (by omega) ⟨by omega, by omega⟩ ⟨by omega, by omega⟩ (fun q => by omega) (fun q => by omega) (fun q => by omega)) (by omega) rfl
                have hkt := hkt.cg hcl_e292 (by omega)
                have hks := hks.cg hcl_e292 (by omega) (by omega) (n2 := (cf266 48).toInt) (by omega)
                have hcg := hcg.tr hcl_e292 (by omega) (by omega)
                have hft := hft.cg hcl_e292
                have hfp := hfp.cg hcl_e292
                have hprs : PrS ca267 (cf266 48).toInt ys na ma_80 lo mid_80 (na 17 nd.toNatClampNeg) x80_6 := PrS.tr hprs (FrC.rf (lo := 0) (hi := 0)) (by omega) hcl_e292 (by omega) (by omega)
                have hzfu : ZFu cf266 ta na ca p0 := (fun q9 => hzfu (by omega))
                have hs49 : (ca267 49 (cf109 48).toNatClampNeg).toInt = z263.toInt := (by rw [hlu.2.1 (by omega) (by omega)])
                have hs52 : (ca267 52 (cf109 48).toNatClampNeg).toInt = (1 : Int) := (by rw [hlu.2.2.2.1]; rfl)
                have hsy : SyA ca267 (cf266 48).toInt ys (cf109 48) := hlu.sa (by omega) (by omega) ⟨by omega, by omega⟩ (by omega)
                have hwr : WrV cf266 (tf 6).toInt := WrV.eq hwr (by omega) (by omega)
                replace hw : pw D A s.heap H locs [wdP cs h r g tf ta pf na ma_80 wa cf266 ca267 ef ea xf xa] := hw
                have lv269 := Int32.le_toInt v269
                have uv269 := Int32.toInt_lt v269
                have hyv : (cf109 48) = v269 := i_eq.mpr (by omega); rw [hyv] at hsy hs49 hs52
                refine px_iast S hT hw 0 14 (n := 2100) (f := (ma_80 18)) (x := x80_6) (y := v269) rfl gp_18 (vp_in_iff.mpr (by constructor <;> omega)) d_Mpg_checkFunction_175 (w' := wdP cs h r g tf ta pf na (va_up ma_80 18 (upd (ma_80 18) x80_6.toNatClampNeg v269)) wa cf266 ca267 ef ea xf xa) (ps' := [wdP cs h r g tf ta pf na (va_up ma_80 18 (upd (ma_80 18) x80_6.toNatClampNeg v269)) wa cf266 ca267 ef ea xf xa]) sp_18 rfl (fun H locs hw => ?_)
                obtain ⟨ma293, hu_ma293⟩ : ∃ y : Nat → Nat → Int32, y = va_up ma_80 18 (upd (ma_80 18) x80_6.toNatClampNeg v269) := ⟨_, rfl⟩
                have hw : pw D A s.heap _ _ [wdP cs h r g tf ta pf na ma293 wa cf266 ca267 ef ea xf xa] := (by rw [hu_ma293]; exact hw)
                have hf1_ma293 : FrC x80_6.toInt (x80_6.toInt + 1) ma_80 ma293 := (by rw [hu_ma293]; exact FrC.w FrC.rf (by omega) (by omega) (by omega))
                have han : Ann na ma0 ma293 := (by rw [hu_ma293]; exact Ann.w18 han (by omega))
                have hfc := hfc.tr hf1_ma293 (by omega) (by omega)
                have hprs : PrS ca267 (cf266 48).toInt ys na ma293 lo mid_80 (na 17 nd.toNatClampNeg) x80_6 := PrS.tr hprs hf1_ma293 (by omega) (CaG.rf (kn := 0) (ns := 5000)) (by omega) (by omega)
                have hzfu : ZFu cf266 ta na ca p0 := (fun q9 => hzfu (by omega))
                have hv_18_x80_6 : ma293 18 x80_6.toNatClampNeg = v269 := (by rw [hu_ma293, va_up_s, pk_us])
                have hnhv_18_x80_6 : (ma293 18 x80_6.toNatClampNeg).toInt = v269.toInt := (by rw [hv_18_x80_6])
                refine lv_aload_n S.x S.b d_Mpg_checkFunction_176 rfl (lv_at hl 2 rfl) ?_
                refine lv_aload_n S.x S.b d_Mpg_checkFunction_177 rfl (lv_at hl 2 rfl) ?_
                refine px_get S k_Mpg hT hw 0 0 15 (v := .ref (r 15)) rfl rfl rfl (by decide) m9_239 d_Mpg_checkFunction_178 ?_
                refine lv_iload S.x S.b d_Mpg_checkFunction_181 (lv_at hl 7 rfl) ?_
                refine px_iald S hT hw 0 11 (n := 2100) (f := (na 15)) rfl gp_15 (x := x80_6) (vp_in_iff.mpr (by constructor <;> omega)) d_Mpg_checkFunction_183 ?_
                refine lv_topi (fun z294 ez294 => ?_)
                have lz294 := Int32.le_toInt z294
                have uz294 := Int32.toInt_lt z294
                have rz294 := PaV.tok hpa_x80_6 ez294
                refine lv_iload S.x S.b d_Mpg_checkFunction_184 (lv_at hl 1 rfl) ?_
                refine lv_if_ne (tgt := 193) S.x S.b d_Mpg_checkFunction_186 (by decide) (fun c295 => ?_) (fun c295 => ?_)
                ·
                  refine lv_aload_n S.x S.b d_Mpg_checkFunction_193 rfl (lv_at hl 2 rfl) ?_
                  refine px_get S k_Mpg hT hw 0 0 22 (v := .ref (r 22)) rfl rfl rfl (by decide) m10_9 d_Mpg_checkFunction_194 ?_
                  refine lv_iload S.x S.b d_Mpg_checkFunction_197 (lv_at hl 7 rfl) ?_
                  refine px_iald S hT hw 0 18 (n := 2100) (f := (ma293 22)) rfl gp_22 (x := x80_6) (vp_in_iff.mpr (by constructor <;> omega)) d_Mpg_checkFunction_199 ?_
                  refine lv_topi (fun z296 ez296 => ?_)
                  have lz296 := Int32.le_toInt z296
                  have uz296 := Int32.toInt_lt z296
                  have rz296 : z296.toInt = (ma0 22 x80_6.toNatClampNeg).toInt := (by rw [ez296, Ann.v22 han (by omega)])
                  refine lv_iconst (v := 1) S.x S.b d_Mpg_checkFunction_200 (by decide) ?_
                  refine lv_icmp_ne (tgt := 208) S.x S.b d_Mpg_checkFunction_201 (by decide) (fun c297 => ?_) (fun c297 => ?_)
                  · have nc297 : ¬ z296.toInt = (1 : Int) := mt (i_eq (x := z296) (y := 1)).mpr c297
                    refine lv_iconst (v := 2) S.x S.b d_Mpg_checkFunction_208 (by decide) ?_
                    refine lv_iconst (v := 0) S.x S.b d_Mpg_checkFunction_209 (by decide) ?_
                    refine lv_aload_n S.x S.b d_Mpg_checkFunction_210 rfl (lv_at hl 2 rfl) ?_
                    refine px_get S k_Mpg hT hw 0 0 18 (v := .ref (r 18)) rfl rfl rfl (by decide) m10_3 d_Mpg_checkFunction_211 ?_
                    refine lv_iload S.x S.b d_Mpg_checkFunction_214 (lv_at hl 7 rfl) ?_
                    refine px_iald S hT hw 0 14 (n := 2100) (f := (ma293 18)) rfl gp_18 (x := x80_6) (vp_in_iff.mpr (by constructor <;> omega)) d_Mpg_checkFunction_216 ?_
                    refine lv_topi (fun z298 ez298 => ?_)
                    have lz298 := Int32.le_toInt z298
                    have uz298 := Int32.toInt_lt z298
                    have hsz298 : v269 = z298 := (ez298.trans hv_18_x80_6).symm; subst hsz298
                    refine px_callv (pr := []) (px_runV (As := [.int z294, .int 2, .int 0, .int v269]) (rest := []) S (c_mp_know l D cs h r g tf ta pf na ma293 wa ef ea xf xa cf266 ca267 z294 2 0 v269  (show 0 ≤ (cf266 33).toInt from by first | exact oz_9bcc310e9c e278 e114 k80_11 g4 | omega) (show (cf266 33).toInt < 1100 from by first | with_reducible rfl | with_reducible assumption | omega) htk _) hT (pr := []) (pcs := [wdP cs h r g tf ta pf na ma293 wa cf266 ca267 ef ea xf xa]) hw px_X.tt (px_recv hT hw 0 0 rfl rfl rfl) m12_193 m12_190 m12_192 ms_12_1 m1_21 q_Mpg_know ⟨show 0 + 1 ≤ (6 * d + 30) from by first | with_reducible rfl | with_reducible assumption | omega, show 8 + (5 + 11) + 0 ≤ (260 * d + 1200) from by first | with_reducible rfl | with_reducible assumption | omega⟩ hl.1 rfl (Nat.le_of_ble_eq_true rfl) d_Mpg_checkFunction_217 ⟨Nat.le_of_ble_eq_true rfl, Nat.le_of_ble_eq_true rfl⟩) hw hA (fun p303 H locs hp303 hw => ?_)
                    obtain ⟨cf301, ca302, rfl, e305, e306, e307, e308, e309, e310, e311, e312, e313, e314, e315, e316, e317, e318, e319, e320, e321, e322, e323⟩ := hp303
                    replace e305 : (cf301 33).toInt = (cf266 33).toInt + 1 := e305
                    replace e306 : (cf301 30).toInt = (cf266 30).toInt := e306
                    replace e307 : (cf301 31).toInt = (cf266 31).toInt := e307
                    replace e308 : (cf301 37).toInt = (cf266 37).toInt := e308
                    replace e309 : (cf301 38).toInt = (cf266 38).toInt := e309
                    replace e310 : (cf301 41).toInt = (cf266 41).toInt := e310
                    replace e311 : (cf301 42).toInt = (cf266 42).toInt := e311
                    replace e312 : (cf301 43).toInt = (cf266 43).toInt := e312
                    replace e313 : (cf301 44).toInt = (cf266 44).toInt := e313
                    replace e314 : (cf301 45).toInt = (cf266 45).toInt := e314
                    replace e315 : (cf301 46).toInt = (cf266 46).toInt := e315
                    replace e316 : (cf301 47).toInt = (cf266 47).toInt := e316
                    replace e317 : (cf301 48).toInt = (cf266 48).toInt := e317
                    replace e318 : (cf301 54).toInt = (cf266 54).toInt := e318
                    replace e319 : (cf301 55).toInt = (cf266 55).toInt := e319
                    replace e320 : (cf301 57).toInt = (cf266 57).toInt := e320
                    replace e321 : (cf301 58).toInt = (cf266 58).toInt := e321
                    replace e322 : (cf301 59).toInt = (cf266 59).toInt := e322
                    replace e323 : KwU ca267 ca302 (cf266 33) z294 (2 : Int32) (0 : Int32) v269 := e323
                    have hcw_e323 : CaG ca267 ca302 (cf266 33).toInt (cf301 48).toInt := cag_kw e323 (by omega) (by omega)
                    have hkt : KnT (tf 6).toInt ca302 (cf301 33).toInt := KnT.eq (KnT.kw (KnT.eq hkt (n' := (cf266 33).toInt) (by omega)) e323 rfl (by omega) (by omega) ⟨by omega, by omega⟩) (by omega)
                    have hks : KnS ca302 (cf301 33).toInt (cf301 48).toInt ys := KnS.eq (KnS.kw (KnS.eq hks (n' := (cf266 33).toInt) (by omega) rfl) e323 rfl (by omega) (Or.inr (Or.inl ⟨by omega, hsy⟩))) (by omega) (by omega)
                    have hcg := hcg.tr hcw_e323 (by omega) (by omega)
                    have hft := hft.cg hcw_e323
                    have hfp := hfp.cg hcw_e323
                    have hsr := hsr.cg hcw_e323 (by omega)
                    have hprs : PrS ca302 (cf301 48).toInt ys na ma293 lo mid_80 (na 17 nd.toNatClampNeg) x80_6 := PrS.tr hprs (FrC.rf (lo := 0) (hi := 0)) (by omega) hcw_e323 (by omega) (by omega)
                    have hzfu : ZFu cf301 ta na ca p0 := (fun q9 => hzfu (by omega))
                    have hsb_e323 := hsy.1.1
                    have hcy_e323 := cl_nat (x := v269) (by first | exact oz_f3ebed1ad0 e270 hsb_e323.1 | omega)
                    have hs49 : (ca302 49 v269.toNatClampNeg).toInt = _ := (congrArg Int32.toInt (hcw_e323.2.2 _ (by omega)).1).trans hs49
                    have hs52 : (ca302 52 v269.toNatClampNeg).toInt = _ := (congrArg Int32.toInt (hcw_e323.2.2 _ (by omega)).2.2.2).trans hs52
                    have hsy : SyA ca302 (cf301 48).toInt ys v269 := hsy.cg hcw_e323 (by omega) (by omega)
                    have hwr : WrV cf301 (tf 6).toInt := WrV.eq hwr (by omega) (by omega)
                    replace hw : pw D A s.heap H locs [wdP cs h r g tf ta pf na ma293 wa cf301 ca302 ef ea xf xa] := hw
                    refine lv_aload_n S.x S.b d_Mpg_checkFunction_220 rfl (lv_at hl 2 rfl) ?_
                    refine px_get S k_Mpg hT hw 0 0 21 (v := .ref (r 21)) rfl rfl rfl (by decide) m10_7 d_Mpg_checkFunction_221 ?_
                    refine lv_iload S.x S.b d_Mpg_checkFunction_224 (lv_at hl 7 rfl) ?_
                    refine px_iald S hT hw 0 17 (n := 2100) (f := (na 21)) rfl gp_21 (x := x80_6) (vp_in_iff.mpr (by constructor <;> omega)) d_Mpg_checkFunction_226 ?_
                    refine lv_topi (fun z324 ez324 => ?_)
                    have lz324 := Int32.le_toInt z324
                    have uz324 := Int32.toInt_lt z324
                    refine lv_istore (lv' := [(6, .int z324), (8, .int 0), (7, .int 1), (0, .ref h), (1, .int p0), (2, .int nd), (4, .int x80_4), (5, .int x80_5)]) S.x S.b d_Mpg_checkFunction_227 hl (by decide) rfl (fun ls hl => ?_)
                    refine lv_goto (tgt := 80) S.x S.b d_Mpg_checkFunction_229 (by decide) ?_
                    exact ih80 ma293 cf301 ca302 md105 (wr_80 - wv106) x80_4 x80_5 z324 _ _ ls (show (cf301 30).toInt = 0 → (cf 30).toInt = 0 from by first | with_reducible rfl | with_reducible assumption | omega) (show WrV cf301 (tf 6).toInt from hwr) (show (cf301 38).toInt = (cf 38).toInt from by first | exact oz_ff3084e3c1 k80_2 e309 e115 e280 | omega) (show (cf301 44).toInt = (cf 44).toInt from by first | exact oz_ff3084e3c1 k80_3 e313 e123 e284 | omega) (show (cf301 45).toInt = (cf 45).toInt from by first | exact oz_ff3084e3c1 k80_4 e314 e124 e285 | omega) (show (cf301 46).toInt = (cf 46).toInt from by first | exact oz_ff3084e3c1 k80_5 e315 e117 e286 | omega) (show (cf301 47).toInt = (cf 47).toInt from by first | exact oz_ff3084e3c1 k80_6 e316 e118 e287 | omega) (show (cf301 41).toInt = (cf 41).toInt from by first | exact oz_ff3084e3c1 k80_7 e310 e129 e281 | omega) (show (cf301 55).toInt = (cf 55).toInt from by first | exact oz_ff3084e3c1 k80_8 e319 e126 e288 | omega) (show (cf301 37).toInt = (cf 33).toInt from by first | exact oz_ff3084e3c1 k80_9 e308 e120 e279 | omega) (show (cf301 43).toInt = nd.toInt from by first | exact oz_ff3084e3c1 k80_10 e312 e122 e283 | omega) (show (cf 33).toInt ≤ (cf301 33).toInt from by first | exact oz_6e66b3a32a k80_11 e305 e114 e278 | omega) (show 6 * (cf301 33).toInt ≤ 6 * (cf 33).toInt + (wp - (wr_80 - wv106)) from by first | with_reducible rfl | with_reducible assumption | omega) (show (cf 48).toInt ≤ (cf301 48).toInt from by first | exact oz_2da8b60292 k80_19 e317 k80_15 e116 hsb_e323.2 | omega) (show 6 * (cf301 48).toInt ≤ 6 * (cf 48).toInt + (wp - (wr_80 - wv106)) from by first | with_reducible rfl | with_reducible assumption | omega) (show 4 ≤ (cf301 42).toInt from by first | exact oz_c55b6a1f99 e311 e282 tz259 e121 k80_15 | omega) (show 0 ≤ (cf301 54).toInt from by first | exact oz_ecc8fd4544 e318 e272 e125 k80_16 | omega) (show (cf301 54).toInt ≤ 4 * ((cf301 42).toInt - 4) from by first | exact oz_dcdcbe9638 e311 e318 e282 tz263 e275 e125 tz259 k80_17 e121 | omega) (show (cf301 54).toInt ≤ 4096 * ((cf301 48).toInt - (cf 48).toInt) from by first | exact oz_8173734d0d k80_18 e317 e318 e116 e125 e273 hsb_e323.2 | omega) (show (cf301 42).toInt - 4 ≤ 4096 * ((cf301 48).toInt - (cf 48).toInt) from by first | exact oz_22c2709563 k80_19 e311 e317 e116 e121 e282 hsb_e323.2 tz259 | omega) (show x80_4.toInt = (cf 33).toInt from by first | exact k80_20 | omega) (show x80_5.toInt = (cf 37).toInt from by first | exact k80_21 | omega) (show nd.toInt + 1 ≤ md105 from by first | with_reducible rfl | with_reducible assumption | omega) (show md105 ≤ m1 from by first | with_reducible rfl | with_reducible assumption | omega) (show 0 ≤ (wr_80 - wv106) from by first | with_reducible rfl | with_reducible assumption | omega) (show (wr_80 - wv106) ≤ wp from by first | with_reducible rfl | with_reducible assumption | omega) (show KnT (tf 6).toInt ca302 (cf301 33).toInt from (KnT.eq hkt (by omega))) (show KnS ca302 (cf301 33).toInt (cf301 48).toInt ys from (KnS.eq hks (by omega) (by omega))) (show CaG ca ca302 (cf 33).toInt (cf 48).toInt from (hcg.le (by omega) (by omega))) (show SyR ca302 ys (cf301 48).toInt (cf301 54).toInt tx from (SyR.eq hsr (by omega) (by omega))) (show Ann na ma0 ma293 from han) (show FrC lo hi ma ma293 from hfc) (show RvP ta (tf 6).toInt na ma0 md105 m1 (wr_80 - wv106) z324 from (by rw [ez324]; exact hrp2)) (show PrS ca302 (cf301 48).toInt ys na ma293 lo md105 (na 17 nd.toNatClampNeg) z324 from (PrS.nx (PrS.to hprs (by omega) (Int.le_refl _) (by omega)) (by omega) hv_18_x80_6 (by omega) (by omega) (Or.inr ⟨by omega, hsy, by omega⟩) ez324)) (show ZFu cf301 ta na ca p0 from (fun zz => hzfu (by have q9 : (cf301 30).toInt = 0 := zz; omega))) (show m1 - md105 < (n_80 : Int) from by first | with_reducible rfl | with_reducible assumption | omega) hw (lv_sub hl [3, 4, 5, 6, 7, 0] rfl)
                  · have nc297 : z296.toInt = (1 : Int) := (i_eq (x := z296) (y := 1)).mp c297
                    refine lv_iconst (v := 3) S.x S.b d_Mpg_checkFunction_204 (by decide) ?_
                    refine lv_goto (tgt := 209) S.x S.b d_Mpg_checkFunction_205 (by decide) ?_
                    refine lv_iconst (v := 0) S.x S.b d_Mpg_checkFunction_209 (by decide) ?_
                    refine lv_aload_n S.x S.b d_Mpg_checkFunction_210 rfl (lv_at hl 2 rfl) ?_
                    refine px_get S k_Mpg hT hw 0 0 18 (v := .ref (r 18)) rfl rfl rfl (by decide) m10_3 d_Mpg_checkFunction_211 ?_
                    refine lv_iload S.x S.b d_Mpg_checkFunction_214 (lv_at hl 7 rfl) ?_
                    refine px_iald S hT hw 0 14 (n := 2100) (f := (ma293 18)) rfl gp_18 (x := x80_6) (vp_in_iff.mpr (by constructor <;> omega)) d_Mpg_checkFunction_216 ?_
                    refine lv_topi (fun z325 ez325 => ?_)
                    have lz325 := Int32.le_toInt z325
                    have uz325 := Int32.toInt_lt z325
                    have hsz325 : v269 = z325 := (ez325.trans hv_18_x80_6).symm; subst hsz325
                    refine px_callv (pr := []) (px_runV (As := [.int z294, .int 3, .int 0, .int v269]) (rest := []) S (c_mp_know l D cs h r g tf ta pf na ma293 wa ef ea xf xa cf266 ca267 z294 3 0 v269  (show 0 ≤ (cf266 33).toInt from by first | exact oz_9bcc310e9c e278 e114 k80_11 g4 | omega) (show (cf266 33).toInt < 1100 from by first | with_reducible rfl | with_reducible assumption | omega) htk _) hT (pr := []) (pcs := [wdP cs h r g tf ta pf na ma293 wa cf266 ca267 ef ea xf xa]) hw px_X.tt (px_recv hT hw 0 0 rfl rfl rfl) m12_193 m12_190 m12_192 ms_12_1 m1_21 q_Mpg_know ⟨show 0 + 1 ≤ (6 * d + 30) from by first | with_reducible rfl | with_reducible assumption | omega, show 8 + (5 + 11) + 0 ≤ (260 * d + 1200) from by first | with_reducible rfl | with_reducible assumption | omega⟩ hl.1 rfl (Nat.le_of_ble_eq_true rfl) d_Mpg_checkFunction_217 ⟨Nat.le_of_ble_eq_true rfl, Nat.le_of_ble_eq_true rfl⟩) hw hA (fun p330 H locs hp330 hw => ?_)
                    obtain ⟨cf328, ca329, rfl, e332, e333, e334, e335, e336, e337, e338, e339, e340, e341, e342, e343, e344, e345, e346, e347, e348, e349, e350⟩ := hp330
                    replace e332 : (cf328 33).toInt = (cf266 33).toInt + 1 := e332
                    replace e333 : (cf328 30).toInt = (cf266 30).toInt := e333
                    replace e334 : (cf328 31).toInt = (cf266 31).toInt := e334
                    replace e335 : (cf328 37).toInt = (cf266 37).toInt := e335
                    replace e336 : (cf328 38).toInt = (cf266 38).toInt := e336
                    replace e337 : (cf328 41).toInt = (cf266 41).toInt := e337
                    replace e338 : (cf328 42).toInt = (cf266 42).toInt := e338
                    replace e339 : (cf328 43).toInt = (cf266 43).toInt := e339
                    replace e340 : (cf328 44).toInt = (cf266 44).toInt := e340
                    replace e341 : (cf328 45).toInt = (cf266 45).toInt := e341
                    replace e342 : (cf328 46).toInt = (cf266 46).toInt := e342
                    replace e343 : (cf328 47).toInt = (cf266 47).toInt := e343
                    replace e344 : (cf328 48).toInt = (cf266 48).toInt := e344
                    replace e345 : (cf328 54).toInt = (cf266 54).toInt := e345
                    replace e346 : (cf328 55).toInt = (cf266 55).toInt := e346
                    replace e347 : (cf328 57).toInt = (cf266 57).toInt := e347
                    replace e348 : (cf328 58).toInt = (cf266 58).toInt := e348
                    replace e349 : (cf328 59).toInt = (cf266 59).toInt := e349
                    replace e350 : KwU ca267 ca329 (cf266 33) z294 (3 : Int32) (0 : Int32) v269 := e350
                    have hcw_e350 : CaG ca267 ca329 (cf266 33).toInt (cf328 48).toInt := cag_kw e350 (by omega) (by omega)
                    have hkt : KnT (tf 6).toInt ca329 (cf328 33).toInt := KnT.eq (KnT.kw (KnT.eq hkt (n' := (cf266 33).toInt) (by omega)) e350 rfl (by omega) (by omega) ⟨by omega, by omega⟩) (by omega)
                    have hks : KnS ca329 (cf328 33).toInt (cf328 48).toInt ys := KnS.eq (KnS.kw (KnS.eq hks (n' := (cf266 33).toInt) (by omega) rfl) e350 rfl (by omega) (Or.inr (Or.inl ⟨by omega, hsy⟩))) (by omega) (by omega)
                    have hcg := hcg.tr hcw_e350 (by omega) (by omega)
                    have hft := hft.cg hcw_e350
                    have hfp := hfp.cg hcw_e350
                    have hsr := hsr.cg hcw_e350 (by omega)
                    have hprs : PrS ca329 (cf328 48).toInt ys na ma293 lo mid_80 (na 17 nd.toNatClampNeg) x80_6 := PrS.tr hprs (FrC.rf (lo := 0) (hi := 0)) (by omega) hcw_e350 (by omega) (by omega)
                    have hzfu : ZFu cf328 ta na ca p0 := (fun q9 => hzfu (by omega))
                    have hsb_e350 := hsy.1.1
                    have hcy_e350 := cl_nat (x := v269) (by first | exact oz_f3ebed1ad0 e270 hsb_e350.1 | omega)
                    have hs49 : (ca329 49 v269.toNatClampNeg).toInt = _ := (congrArg Int32.toInt (hcw_e350.2.2 _ (by omega)).1).trans hs49
                    have hs52 : (ca329 52 v269.toNatClampNeg).toInt = _ := (congrArg Int32.toInt (hcw_e350.2.2 _ (by omega)).2.2.2).trans hs52
                    have hsy : SyA ca329 (cf328 48).toInt ys v269 := hsy.cg hcw_e350 (by omega) (by omega)
                    have hwr : WrV cf328 (tf 6).toInt := WrV.eq hwr (by omega) (by omega)
                    replace hw : pw D A s.heap H locs [wdP cs h r g tf ta pf na ma293 wa cf328 ca329 ef ea xf xa] := hw
                    refine lv_aload_n S.x S.b d_Mpg_checkFunction_220 rfl (lv_at hl 2 rfl) ?_
                    refine px_get S k_Mpg hT hw 0 0 21 (v := .ref (r 21)) rfl rfl rfl (by decide) m10_7 d_Mpg_checkFunction_221 ?_
                    refine lv_iload S.x S.b d_Mpg_checkFunction_224 (lv_at hl 7 rfl) ?_
                    refine px_iald S hT hw 0 17 (n := 2100) (f := (na 21)) rfl gp_21 (x := x80_6) (vp_in_iff.mpr (by constructor <;> omega)) d_Mpg_checkFunction_226 ?_
                    refine lv_topi (fun z351 ez351 => ?_)
                    have lz351 := Int32.le_toInt z351
                    have uz351 := Int32.toInt_lt z351
                    refine lv_istore (lv' := [(6, .int z351), (8, .int 0), (7, .int 1), (0, .ref h), (1, .int p0), (2, .int nd), (4, .int x80_4), (5, .int x80_5)]) S.x S.b d_Mpg_checkFunction_227 hl (by decide) rfl (fun ls hl => ?_)
                    refine lv_goto (tgt := 80) S.x S.b d_Mpg_checkFunction_229 (by decide) ?_
                    exact ih80 ma293 cf328 ca329 md105 (wr_80 - wv106) x80_4 x80_5 z351 _ _ ls (show (cf328 30).toInt = 0 → (cf 30).toInt = 0 from by first | with_reducible rfl | with_reducible assumption | omega) (show WrV cf328 (tf 6).toInt from hwr) (show (cf328 38).toInt = (cf 38).toInt from by first | exact oz_ff3084e3c1 k80_2 e336 e115 e280 | omega) (show (cf328 44).toInt = (cf 44).toInt from by first | exact oz_ff3084e3c1 k80_3 e340 e123 e284 | omega) (show (cf328 45).toInt = (cf 45).toInt from by first | exact oz_ff3084e3c1 k80_4 e341 e124 e285 | omega) (show (cf328 46).toInt = (cf 46).toInt from by first | exact oz_ff3084e3c1 k80_5 e342 e117 e286 | omega) (show (cf328 47).toInt = (cf 47).toInt from by first | exact oz_ff3084e3c1 k80_6 e343 e118 e287 | omega) (show (cf328 41).toInt = (cf 41).toInt from by first | exact oz_ff3084e3c1 k80_7 e337 e129 e281 | omega) (show (cf328 55).toInt = (cf 55).toInt from by first | exact oz_ff3084e3c1 k80_8 e346 e126 e288 | omega) (show (cf328 37).toInt = (cf 33).toInt from by first | exact oz_ff3084e3c1 k80_9 e335 e120 e279 | omega) (show (cf328 43).toInt = nd.toInt from by first | exact oz_ff3084e3c1 k80_10 e339 e122 e283 | omega) (show (cf 33).toInt ≤ (cf328 33).toInt from by first | exact oz_6e66b3a32a k80_11 e332 e114 e278 | omega) (show 6 * (cf328 33).toInt ≤ 6 * (cf 33).toInt + (wp - (wr_80 - wv106)) from by first | with_reducible rfl | with_reducible assumption | omega) (show (cf 48).toInt ≤ (cf328 48).toInt from by first | exact oz_2da8b60292 k80_19 e344 k80_15 e116 hsb_e350.2 | omega) (show 6 * (cf328 48).toInt ≤ 6 * (cf 48).toInt + (wp - (wr_80 - wv106)) from by first | with_reducible rfl | with_reducible assumption | omega) (show 4 ≤ (cf328 42).toInt from by first | exact oz_c55b6a1f99 e338 e282 tz259 e121 k80_15 | omega) (show 0 ≤ (cf328 54).toInt from by first | exact oz_ecc8fd4544 e345 e272 e125 k80_16 | omega) (show (cf328 54).toInt ≤ 4 * ((cf328 42).toInt - 4) from by first | exact oz_dcdcbe9638 e338 e345 e282 tz263 e275 e125 tz259 k80_17 e121 | omega) (show (cf328 54).toInt ≤ 4096 * ((cf328 48).toInt - (cf 48).toInt) from by first | exact oz_8173734d0d k80_18 e344 e345 e116 e125 e273 hsb_e350.2 | omega) (show (cf328 42).toInt - 4 ≤ 4096 * ((cf328 48).toInt - (cf 48).toInt) from by first | exact oz_22c2709563 k80_19 e338 e344 e116 e121 e282 hsb_e350.2 tz259 | omega) (show x80_4.toInt = (cf 33).toInt from by first | exact k80_20 | omega) (show x80_5.toInt = (cf 37).toInt from by first | exact k80_21 | omega) (show nd.toInt + 1 ≤ md105 from by first | with_reducible rfl | with_reducible assumption | omega) (show md105 ≤ m1 from by first | with_reducible rfl | with_reducible assumption | omega) (show 0 ≤ (wr_80 - wv106) from by first | with_reducible rfl | with_reducible assumption | omega) (show (wr_80 - wv106) ≤ wp from by first | with_reducible rfl | with_reducible assumption | omega) (show KnT (tf 6).toInt ca329 (cf328 33).toInt from (KnT.eq hkt (by omega))) (show KnS ca329 (cf328 33).toInt (cf328 48).toInt ys from (KnS.eq hks (by omega) (by omega))) (show CaG ca ca329 (cf 33).toInt (cf 48).toInt from (hcg.le (by omega) (by omega))) (show SyR ca329 ys (cf328 48).toInt (cf328 54).toInt tx from (SyR.eq hsr (by omega) (by omega))) (show Ann na ma0 ma293 from han) (show FrC lo hi ma ma293 from hfc) (show RvP ta (tf 6).toInt na ma0 md105 m1 (wr_80 - wv106) z351 from (by rw [ez351]; exact hrp2)) (show PrS ca329 (cf328 48).toInt ys na ma293 lo md105 (na 17 nd.toNatClampNeg) z351 from (PrS.nx (PrS.to hprs (by omega) (Int.le_refl _) (by omega)) (by omega) hv_18_x80_6 (by omega) (by omega) (Or.inr ⟨by omega, hsy, by omega⟩) ez351)) (show ZFu cf328 ta na ca p0 from (fun zz => hzfu (by have q9 : (cf328 30).toInt = 0 := zz; omega))) (show m1 - md105 < (n_80 : Int) from by first | with_reducible rfl | with_reducible assumption | omega) hw (lv_sub hl [3, 4, 5, 6, 7, 0] rfl)
                · exact absurd c295 (by decide)
            · have nc261 : z260.toInt = (1 : Int) := (i_eq (x := z260) (y := 1)).mp c261
              refine lv_iconst (v := 1) S.x S.b d_Mpg_checkFunction_143 (by decide) ?_
              refine lv_goto (tgt := 148) S.x S.b d_Mpg_checkFunction_144 (by decide) ?_
              refine lv_istore (lv' := [(8, .int 1), (7, .int 1), (0, .ref h), (1, .int p0), (2, .int nd), (4, .int x80_4), (5, .int x80_5), (6, .int x80_6)]) S.x S.b d_Mpg_checkFunction_148 hl (by decide) rfl (fun ls hl => ?_)
              refine lv_aload_n S.x S.b d_Mpg_checkFunction_150 rfl (lv_at hl 2 rfl) ?_
              refine px_get S k_Mpg hT hw 0 0 18 (v := .ref (r 18)) rfl rfl rfl (by decide) m10_3 d_Mpg_checkFunction_151 ?_
              refine lv_iload S.x S.b d_Mpg_checkFunction_154 (lv_at hl 7 rfl) ?_
              refine lv_aload_n S.x S.b d_Mpg_checkFunction_156 rfl (lv_at hl 2 rfl) ?_
              refine lv_iload S.x S.b d_Mpg_checkFunction_157 (lv_at hl 1 rfl) ?_
              refine lv_if_eq (tgt := 169) S.x S.b d_Mpg_checkFunction_159 (by decide) (fun c352 => ?_) (fun c352 => ?_)
              · exact absurd c352 (by decide)
              ·
                refine lv_iconst (v := 4) S.x S.b d_Mpg_checkFunction_162 (by decide) ?_
                refine lv_iload S.x S.b d_Mpg_checkFunction_163 (lv_at hl 0 rfl) ?_
                refine lv_iadd S.x S.b d_Mpg_checkFunction_165 ?_
                refine lv_topi (fun z353 ez353 => ?_)
                have tz353 : z353.toInt = ((4 : Int) + (1 : Int) + 2147483648) % 4294967296 - 2147483648 := by rw [ez353]; exact i_add 4 1
                have lz353 := Int32.le_toInt z353
                have uz353 := Int32.toInt_lt z353
                try replace tz353 : z353.toInt = (4 : Int) + (1 : Int) := by omega
                refine lv_goto (tgt := 171) S.x S.b d_Mpg_checkFunction_166 (by decide) ?_
                refine lv_iconst (v := 1) S.x S.b d_Mpg_checkFunction_171 (by decide) ?_
                refine px_calli (pr := []) (px_runV (As := [.int z353, .int 1]) (rest := [.int x80_6, .ref (r 18)]) S (c_mp_lay l D cs h r g tf ta pf na ma_80 wa ef ea xf xa (upd cf109 42 z259) ca_80 z353 1  (show 0 ≤ (cf109 48).toInt from by first | exact oz_c0af2c5e34 e116 k80_19 g7 k80_15 | omega) (show (cf109 48).toInt < 1100 from by first | with_reducible rfl | with_reducible assumption | omega) (show 0 ≤ z353.toInt from by first | exact oz_47940b811e tz353 | omega) (show z353.toInt ≤ 5 from by first | exact oz_9d1cbf99c5 tz353 | omega) (show 0 ≤ (1 : Int) from by first | decide | omega) (show (1 : Int) ≤ 4096 from by first | decide | omega) (show 0 ≤ (cf109 54).toInt from by first | exact oz_f3ebed1ad0 e125 k80_16 | omega) (show (cf109 54).toInt ≤ 40000000 from by first | with_reducible rfl | with_reducible assumption | omega) htk _) hT (pr := []) (pcs := [wdP cs h r g tf ta pf na ma_80 wa (upd cf109 42 z259) ca_80 ef ea xf xa]) hw px_X.tt (px_recv hT hw 0 0 rfl rfl rfl) m12_189 m12_186 m12_188 ms_12_0 m1_21 q_Mpg_lay ⟨show 0 + 1 ≤ (6 * d + 30) from by first | with_reducible rfl | with_reducible assumption | omega, show 8 + (3 + 11) + 0 ≤ (260 * d + 1200) from by first | with_reducible rfl | with_reducible assumption | omega⟩ hl.1 rfl (Nat.le_of_ble_eq_true rfl) d_Mpg_checkFunction_172 ⟨Nat.le_of_ble_eq_true rfl, Nat.le_of_ble_eq_true rfl⟩) hw hA (fun v359 p358 H locs hp358 hw => ?_)
                obtain ⟨cf356, ca357, rfl, e360, e361, e362, e363, e364, e365, e366, e367, e368, e369, e370, e371, e372, e373, e374, e375, e376, e377, e378, e379, e380, e381, e382⟩ := hp358
                replace e360 : v359.toInt = (cf109 48).toInt := e360
                replace e361 : (cf356 48).toInt = (cf109 48).toInt + 1 := e361
                replace e362 : (cf109 54).toInt ≤ (cf356 54).toInt := e362
                replace e363 : (cf356 54).toInt ≤ (cf109 54).toInt + 4096 := e363
                replace e364 : z353.toInt ≤ 3 → (cf356 54).toInt = (cf109 54).toInt + (1 : Int) := e364
                replace e365 : 4 ≤ z353.toInt → (cf356 54).toInt = (cf109 54).toInt + 2 := e365
                replace e366 : (cf356 30).toInt = (cf109 30).toInt := e366
                replace e367 : (cf356 31).toInt = (cf109 31).toInt := e367
                replace e368 : (cf356 33).toInt = (cf109 33).toInt := e368
                replace e369 : (cf356 37).toInt = (cf109 37).toInt := e369
                replace e370 : (cf356 38).toInt = (cf109 38).toInt := e370
                replace e371 : (cf356 41).toInt = (cf109 41).toInt := e371
                replace e372 : (cf356 42).toInt = z259.toInt := e372
                replace e373 : (cf356 43).toInt = (cf109 43).toInt := e373
                replace e374 : (cf356 44).toInt = (cf109 44).toInt := e374
                replace e375 : (cf356 45).toInt = (cf109 45).toInt := e375
                replace e376 : (cf356 46).toInt = (cf109 46).toInt := e376
                replace e377 : (cf356 47).toInt = (cf109 47).toInt := e377
                replace e378 : (cf356 55).toInt = (cf109 55).toInt := e378
                replace e379 : (cf356 57).toInt = (cf109 57).toInt := e379
                replace e380 : (cf356 58).toInt = (cf109 58).toInt := e380
                replace e381 : (cf356 59).toInt = (cf109 59).toInt := e381
                replace e382 : LyU ca_80 ca357 (cf109 48) z353 (cf109 54) (1 : Int32) (txo (cf109 43).toInt) := e382
                have hlu : LyU ca_80 ca357 (cf109 48) z353 (cf109 54) (1 : Int32) tx := (by rw [← htx]; exact (by rw [show nd.toInt = (cf109 43).toInt by omega]; exact e382))
                have hcl_e382 : CaG ca_80 ca357 (cf356 33).toInt (cf109 48).toInt := cag_ly hlu (by omega) (by omega)
                have hsr : SyR ca357 ys (cf356 48).toInt (cf356 54).toInt tx := SyR.eq (SyR.ly (cells' := (cf356 54).toInt) (SyR.eq hsr (ns' := (cf109 48).toInt) (by omega) rfl) hlu rfl (by omega) (by omega) (by omega) ⟨by omega, by omega⟩ ⟨by omega, by omega⟩ (fun q => by omega) (fun q => by omega) (fun q => by omega)) (by omega) rfl
                have hkt := hkt.cg hcl_e382 (by omega)
                have hks := hks.cg hcl_e382 (by omega) (by omega) (n2 := (cf356 48).toInt) (by omega)
                have hcg := hcg.tr hcl_e382 (by omega) (by omega)
                have hft := hft.cg hcl_e382
                have hfp := hfp.cg hcl_e382
                have hprs : PrS ca357 (cf356 48).toInt ys na ma_80 lo mid_80 (na 17 nd.toNatClampNeg) x80_6 := PrS.tr hprs (FrC.rf (lo := 0) (hi := 0)) (by omega) hcl_e382 (by omega) (by omega)
                have hzfu : ZFu cf356 ta na ca p0 := (fun q9 => hzfu (by omega))
                have hs49 : (ca357 49 (cf109 48).toNatClampNeg).toInt = z353.toInt := (by rw [hlu.2.1 (by omega) (by omega)])
                have hs52 : (ca357 52 (cf109 48).toNatClampNeg).toInt = (1 : Int) := (by rw [hlu.2.2.2.1]; rfl)
                have hsy : SyA ca357 (cf356 48).toInt ys (cf109 48) := hlu.sa (by omega) (by omega) ⟨by omega, by omega⟩ (by omega)
                have hwr : WrV cf356 (tf 6).toInt := WrV.eq hwr (by omega) (by omega)
                replace hw : pw D A s.heap H locs [wdP cs h r g tf ta pf na ma_80 wa cf356 ca357 ef ea xf xa] := hw
                have lv359 := Int32.le_toInt v359
                have uv359 := Int32.toInt_lt v359
                have hyv : (cf109 48) = v359 := i_eq.mpr (by omega); rw [hyv] at hsy hs49 hs52
                refine px_iast S hT hw 0 14 (n := 2100) (f := (ma_80 18)) (x := x80_6) (y := v359) rfl gp_18 (vp_in_iff.mpr (by constructor <;> omega)) d_Mpg_checkFunction_175 (w' := wdP cs h r g tf ta pf na (va_up ma_80 18 (upd (ma_80 18) x80_6.toNatClampNeg v359)) wa cf356 ca357 ef ea xf xa) (ps' := [wdP cs h r g tf ta pf na (va_up ma_80 18 (upd (ma_80 18) x80_6.toNatClampNeg v359)) wa cf356 ca357 ef ea xf xa]) sp_18 rfl (fun H locs hw => ?_)
                obtain ⟨ma383, hu_ma383⟩ : ∃ y : Nat → Nat → Int32, y = va_up ma_80 18 (upd (ma_80 18) x80_6.toNatClampNeg v359) := ⟨_, rfl⟩
                have hw : pw D A s.heap _ _ [wdP cs h r g tf ta pf na ma383 wa cf356 ca357 ef ea xf xa] := (by rw [hu_ma383]; exact hw)
                have hf1_ma383 : FrC x80_6.toInt (x80_6.toInt + 1) ma_80 ma383 := (by rw [hu_ma383]; exact FrC.w FrC.rf (by omega) (by omega) (by omega))
                have han : Ann na ma0 ma383 := (by rw [hu_ma383]; exact Ann.w18 han (by omega))
                have hfc := hfc.tr hf1_ma383 (by omega) (by omega)
                have hprs : PrS ca357 (cf356 48).toInt ys na ma383 lo mid_80 (na 17 nd.toNatClampNeg) x80_6 := PrS.tr hprs hf1_ma383 (by omega) (CaG.rf (kn := 0) (ns := 5000)) (by omega) (by omega)
                have hzfu : ZFu cf356 ta na ca p0 := (fun q9 => hzfu (by omega))
                have hv_18_x80_6 : ma383 18 x80_6.toNatClampNeg = v359 := (by rw [hu_ma383, va_up_s, pk_us])
                have hnhv_18_x80_6 : (ma383 18 x80_6.toNatClampNeg).toInt = v359.toInt := (by rw [hv_18_x80_6])
                refine lv_aload_n S.x S.b d_Mpg_checkFunction_176 rfl (lv_at hl 2 rfl) ?_
                refine lv_aload_n S.x S.b d_Mpg_checkFunction_177 rfl (lv_at hl 2 rfl) ?_
                refine px_get S k_Mpg hT hw 0 0 15 (v := .ref (r 15)) rfl rfl rfl (by decide) m9_239 d_Mpg_checkFunction_178 ?_
                refine lv_iload S.x S.b d_Mpg_checkFunction_181 (lv_at hl 7 rfl) ?_
                refine px_iald S hT hw 0 11 (n := 2100) (f := (na 15)) rfl gp_15 (x := x80_6) (vp_in_iff.mpr (by constructor <;> omega)) d_Mpg_checkFunction_183 ?_
                refine lv_topi (fun z384 ez384 => ?_)
                have lz384 := Int32.le_toInt z384
                have uz384 := Int32.toInt_lt z384
                have rz384 := PaV.tok hpa_x80_6 ez384
                refine lv_iload S.x S.b d_Mpg_checkFunction_184 (lv_at hl 1 rfl) ?_
                refine lv_if_ne (tgt := 193) S.x S.b d_Mpg_checkFunction_186 (by decide) (fun c385 => ?_) (fun c385 => ?_)
                ·
                  refine lv_aload_n S.x S.b d_Mpg_checkFunction_193 rfl (lv_at hl 2 rfl) ?_
                  refine px_get S k_Mpg hT hw 0 0 22 (v := .ref (r 22)) rfl rfl rfl (by decide) m10_9 d_Mpg_checkFunction_194 ?_
                  refine lv_iload S.x S.b d_Mpg_checkFunction_197 (lv_at hl 7 rfl) ?_
                  refine px_iald S hT hw 0 18 (n := 2100) (f := (ma383 22)) rfl gp_22 (x := x80_6) (vp_in_iff.mpr (by constructor <;> omega)) d_Mpg_checkFunction_199 ?_
                  refine lv_topi (fun z386 ez386 => ?_)
                  have lz386 := Int32.le_toInt z386
                  have uz386 := Int32.toInt_lt z386
                  have rz386 : z386.toInt = (ma0 22 x80_6.toNatClampNeg).toInt := (by rw [ez386, Ann.v22 han (by omega)])
                  refine lv_iconst (v := 1) S.x S.b d_Mpg_checkFunction_200 (by decide) ?_
                  refine lv_icmp_ne (tgt := 208) S.x S.b d_Mpg_checkFunction_201 (by decide) (fun c387 => ?_) (fun c387 => ?_)
                  · have nc387 : ¬ z386.toInt = (1 : Int) := mt (i_eq (x := z386) (y := 1)).mpr c387
                    refine lv_iconst (v := 2) S.x S.b d_Mpg_checkFunction_208 (by decide) ?_
                    refine lv_iconst (v := 0) S.x S.b d_Mpg_checkFunction_209 (by decide) ?_
                    refine lv_aload_n S.x S.b d_Mpg_checkFunction_210 rfl (lv_at hl 2 rfl) ?_
                    refine px_get S k_Mpg hT hw 0 0 18 (v := .ref (r 18)) rfl rfl rfl (by decide) m10_3 d_Mpg_checkFunction_211 ?_
                    refine lv_iload S.x S.b d_Mpg_checkFunction_214 (lv_at hl 7 rfl) ?_
                    refine px_iald S hT hw 0 14 (n := 2100) (f := (ma383 18)) rfl gp_18 (x := x80_6) (vp_in_iff.mpr (by constructor <;> omega)) d_Mpg_checkFunction_216 ?_
                    refine lv_topi (fun z388 ez388 => ?_)
                    have lz388 := Int32.le_toInt z388
                    have uz388 := Int32.toInt_lt z388
                    have hsz388 : v359 = z388 := (ez388.trans hv_18_x80_6).symm; subst hsz388
                    refine px_callv (pr := []) (px_runV (As := [.int z384, .int 2, .int 0, .int v359]) (rest := []) S (c_mp_know l D cs h r g tf ta pf na ma383 wa ef ea xf xa cf356 ca357 z384 2 0 v359  (show 0 ≤ (cf356 33).toInt from by first | exact oz_9bcc310e9c e368 e114 k80_11 g4 | omega) (show (cf356 33).toInt < 1100 from by first | with_reducible rfl | with_reducible assumption | omega) htk _) hT (pr := []) (pcs := [wdP cs h r g tf ta pf na ma383 wa cf356 ca357 ef ea xf xa]) hw px_X.tt (px_recv hT hw 0 0 rfl rfl rfl) m12_193 m12_190 m12_192 ms_12_1 m1_21 q_Mpg_know ⟨show 0 + 1 ≤ (6 * d + 30) from by first | with_reducible rfl | with_reducible assumption | omega, show 8 + (5 + 11) + 0 ≤ (260 * d + 1200) from by first | with_reducible rfl | with_reducible assumption | omega⟩ hl.1 rfl (Nat.le_of_ble_eq_true rfl) d_Mpg_checkFunction_217 ⟨Nat.le_of_ble_eq_true rfl, Nat.le_of_ble_eq_true rfl⟩) hw hA (fun p393 H locs hp393 hw => ?_)
                    obtain ⟨cf391, ca392, rfl, e395, e396, e397, e398, e399, e400, e401, e402, e403, e404, e405, e406, e407, e408, e409, e410, e411, e412, e413⟩ := hp393
                    replace e395 : (cf391 33).toInt = (cf356 33).toInt + 1 := e395
                    replace e396 : (cf391 30).toInt = (cf356 30).toInt := e396
                    replace e397 : (cf391 31).toInt = (cf356 31).toInt := e397
                    replace e398 : (cf391 37).toInt = (cf356 37).toInt := e398
                    replace e399 : (cf391 38).toInt = (cf356 38).toInt := e399
                    replace e400 : (cf391 41).toInt = (cf356 41).toInt := e400
                    replace e401 : (cf391 42).toInt = (cf356 42).toInt := e401
                    replace e402 : (cf391 43).toInt = (cf356 43).toInt := e402
                    replace e403 : (cf391 44).toInt = (cf356 44).toInt := e403
                    replace e404 : (cf391 45).toInt = (cf356 45).toInt := e404
                    replace e405 : (cf391 46).toInt = (cf356 46).toInt := e405
                    replace e406 : (cf391 47).toInt = (cf356 47).toInt := e406
                    replace e407 : (cf391 48).toInt = (cf356 48).toInt := e407
                    replace e408 : (cf391 54).toInt = (cf356 54).toInt := e408
                    replace e409 : (cf391 55).toInt = (cf356 55).toInt := e409
                    replace e410 : (cf391 57).toInt = (cf356 57).toInt := e410
                    replace e411 : (cf391 58).toInt = (cf356 58).toInt := e411
                    replace e412 : (cf391 59).toInt = (cf356 59).toInt := e412
                    replace e413 : KwU ca357 ca392 (cf356 33) z384 (2 : Int32) (0 : Int32) v359 := e413
                    have hcw_e413 : CaG ca357 ca392 (cf356 33).toInt (cf391 48).toInt := cag_kw e413 (by omega) (by omega)
                    have hkt : KnT (tf 6).toInt ca392 (cf391 33).toInt := KnT.eq (KnT.kw (KnT.eq hkt (n' := (cf356 33).toInt) (by omega)) e413 rfl (by omega) (by omega) ⟨by omega, by omega⟩) (by omega)
                    have hks : KnS ca392 (cf391 33).toInt (cf391 48).toInt ys := KnS.eq (KnS.kw (KnS.eq hks (n' := (cf356 33).toInt) (by omega) rfl) e413 rfl (by omega) (Or.inr (Or.inl ⟨by omega, hsy⟩))) (by omega) (by omega)
                    have hcg := hcg.tr hcw_e413 (by omega) (by omega)
                    have hft := hft.cg hcw_e413
                    have hfp := hfp.cg hcw_e413
                    have hsr := hsr.cg hcw_e413 (by omega)
                    have hprs : PrS ca392 (cf391 48).toInt ys na ma383 lo mid_80 (na 17 nd.toNatClampNeg) x80_6 := PrS.tr hprs (FrC.rf (lo := 0) (hi := 0)) (by omega) hcw_e413 (by omega) (by omega)
                    have hzfu : ZFu cf391 ta na ca p0 := (fun q9 => hzfu (by omega))
                    have hsb_e413 := hsy.1.1
                    have hcy_e413 := cl_nat (x := v359) (by first | exact oz_f3ebed1ad0 e360 hsb_e413.1 | omega)
                    have hs49 : (ca392 49 v359.toNatClampNeg).toInt = _ := (congrArg Int32.toInt (hcw_e413.2.2 _ (by omega)).1).trans hs49
                    have hs52 : (ca392 52 v359.toNatClampNeg).toInt = _ := (congrArg Int32.toInt (hcw_e413.2.2 _ (by omega)).2.2.2).trans hs52
                    have hsy : SyA ca392 (cf391 48).toInt ys v359 := hsy.cg hcw_e413 (by omega) (by omega)
                    have hwr : WrV cf391 (tf 6).toInt := WrV.eq hwr (by omega) (by omega)
                    replace hw : pw D A s.heap H locs [wdP cs h r g tf ta pf na ma383 wa cf391 ca392 ef ea xf xa] := hw
                    refine lv_aload_n S.x S.b d_Mpg_checkFunction_220 rfl (lv_at hl 2 rfl) ?_
                    refine px_get S k_Mpg hT hw 0 0 21 (v := .ref (r 21)) rfl rfl rfl (by decide) m10_7 d_Mpg_checkFunction_221 ?_
                    refine lv_iload S.x S.b d_Mpg_checkFunction_224 (lv_at hl 7 rfl) ?_
                    refine px_iald S hT hw 0 17 (n := 2100) (f := (na 21)) rfl gp_21 (x := x80_6) (vp_in_iff.mpr (by constructor <;> omega)) d_Mpg_checkFunction_226 ?_
                    refine lv_topi (fun z414 ez414 => ?_)
                    have lz414 := Int32.le_toInt z414
                    have uz414 := Int32.toInt_lt z414
                    refine lv_istore (lv' := [(6, .int z414), (8, .int 1), (7, .int 1), (0, .ref h), (1, .int p0), (2, .int nd), (4, .int x80_4), (5, .int x80_5)]) S.x S.b d_Mpg_checkFunction_227 hl (by decide) rfl (fun ls hl => ?_)
                    refine lv_goto (tgt := 80) S.x S.b d_Mpg_checkFunction_229 (by decide) ?_
                    exact ih80 ma383 cf391 ca392 md105 (wr_80 - wv106) x80_4 x80_5 z414 _ _ ls (show (cf391 30).toInt = 0 → (cf 30).toInt = 0 from by first | with_reducible rfl | with_reducible assumption | omega) (show WrV cf391 (tf 6).toInt from hwr) (show (cf391 38).toInt = (cf 38).toInt from by first | exact oz_ff3084e3c1 k80_2 e399 e115 e370 | omega) (show (cf391 44).toInt = (cf 44).toInt from by first | exact oz_ff3084e3c1 k80_3 e403 e123 e374 | omega) (show (cf391 45).toInt = (cf 45).toInt from by first | exact oz_ff3084e3c1 k80_4 e404 e124 e375 | omega) (show (cf391 46).toInt = (cf 46).toInt from by first | exact oz_ff3084e3c1 k80_5 e405 e117 e376 | omega) (show (cf391 47).toInt = (cf 47).toInt from by first | exact oz_ff3084e3c1 k80_6 e406 e118 e377 | omega) (show (cf391 41).toInt = (cf 41).toInt from by first | exact oz_ff3084e3c1 k80_7 e400 e129 e371 | omega) (show (cf391 55).toInt = (cf 55).toInt from by first | exact oz_ff3084e3c1 k80_8 e409 e126 e378 | omega) (show (cf391 37).toInt = (cf 33).toInt from by first | exact oz_ff3084e3c1 k80_9 e398 e120 e369 | omega) (show (cf391 43).toInt = nd.toInt from by first | exact oz_ff3084e3c1 k80_10 e402 e122 e373 | omega) (show (cf 33).toInt ≤ (cf391 33).toInt from by first | exact oz_6e66b3a32a k80_11 e395 e114 e368 | omega) (show 6 * (cf391 33).toInt ≤ 6 * (cf 33).toInt + (wp - (wr_80 - wv106)) from by first | with_reducible rfl | with_reducible assumption | omega) (show (cf 48).toInt ≤ (cf391 48).toInt from by first | exact oz_2da8b60292 k80_19 e407 k80_15 e116 hsb_e413.2 | omega) (show 6 * (cf391 48).toInt ≤ 6 * (cf 48).toInt + (wp - (wr_80 - wv106)) from by first | with_reducible rfl | with_reducible assumption | omega) (show 4 ≤ (cf391 42).toInt from by first | exact oz_c55b6a1f99 e401 e372 tz259 e121 k80_15 | omega) (show 0 ≤ (cf391 54).toInt from by first | exact oz_ecc8fd4544 e408 e362 e125 k80_16 | omega) (show (cf391 54).toInt ≤ 4 * ((cf391 42).toInt - 4) from by first | exact oz_64d2d2f693 e401 e408 e372 tz353 e365 e125 tz259 k80_17 e121 | omega) (show (cf391 54).toInt ≤ 4096 * ((cf391 48).toInt - (cf 48).toInt) from by first | exact oz_8173734d0d k80_18 e407 e408 e116 e125 e363 hsb_e413.2 | omega) (show (cf391 42).toInt - 4 ≤ 4096 * ((cf391 48).toInt - (cf 48).toInt) from by first | exact oz_22c2709563 k80_19 e401 e407 e116 e121 e372 hsb_e413.2 tz259 | omega) (show x80_4.toInt = (cf 33).toInt from by first | exact k80_20 | omega) (show x80_5.toInt = (cf 37).toInt from by first | exact k80_21 | omega) (show nd.toInt + 1 ≤ md105 from by first | with_reducible rfl | with_reducible assumption | omega) (show md105 ≤ m1 from by first | with_reducible rfl | with_reducible assumption | omega) (show 0 ≤ (wr_80 - wv106) from by first | with_reducible rfl | with_reducible assumption | omega) (show (wr_80 - wv106) ≤ wp from by first | with_reducible rfl | with_reducible assumption | omega) (show KnT (tf 6).toInt ca392 (cf391 33).toInt from (KnT.eq hkt (by omega))) (show KnS ca392 (cf391 33).toInt (cf391 48).toInt ys from (KnS.eq hks (by omega) (by omega))) (show CaG ca ca392 (cf 33).toInt (cf 48).toInt from (hcg.le (by omega) (by omega))) (show SyR ca392 ys (cf391 48).toInt (cf391 54).toInt tx from (SyR.eq hsr (by omega) (by omega))) (show Ann na ma0 ma383 from han) (show FrC lo hi ma ma383 from hfc) (show RvP ta (tf 6).toInt na ma0 md105 m1 (wr_80 - wv106) z414 from (by rw [ez414]; exact hrp2)) (show PrS ca392 (cf391 48).toInt ys na ma383 lo md105 (na 17 nd.toNatClampNeg) z414 from (PrS.nx (PrS.to hprs (by omega) (Int.le_refl _) (by omega)) (by omega) hv_18_x80_6 (by omega) (by omega) (Or.inr ⟨by omega, hsy, by omega⟩) ez414)) (show ZFu cf391 ta na ca p0 from (fun zz => hzfu (by have q9 : (cf391 30).toInt = 0 := zz; omega))) (show m1 - md105 < (n_80 : Int) from by first | with_reducible rfl | with_reducible assumption | omega) hw (lv_sub hl [3, 4, 5, 6, 7, 0] rfl)
                  · have nc387 : z386.toInt = (1 : Int) := (i_eq (x := z386) (y := 1)).mp c387
                    refine lv_iconst (v := 3) S.x S.b d_Mpg_checkFunction_204 (by decide) ?_
                    refine lv_goto (tgt := 209) S.x S.b d_Mpg_checkFunction_205 (by decide) ?_
                    refine lv_iconst (v := 0) S.x S.b d_Mpg_checkFunction_209 (by decide) ?_
                    refine lv_aload_n S.x S.b d_Mpg_checkFunction_210 rfl (lv_at hl 2 rfl) ?_
                    refine px_get S k_Mpg hT hw 0 0 18 (v := .ref (r 18)) rfl rfl rfl (by decide) m10_3 d_Mpg_checkFunction_211 ?_
                    refine lv_iload S.x S.b d_Mpg_checkFunction_214 (lv_at hl 7 rfl) ?_
                    refine px_iald S hT hw 0 14 (n := 2100) (f := (ma383 18)) rfl gp_18 (x := x80_6) (vp_in_iff.mpr (by constructor <;> omega)) d_Mpg_checkFunction_216 ?_
                    refine lv_topi (fun z415 ez415 => ?_)
                    have lz415 := Int32.le_toInt z415
                    have uz415 := Int32.toInt_lt z415
                    have hsz415 : v359 = z415 := (ez415.trans hv_18_x80_6).symm; subst hsz415
                    refine px_callv (pr := []) (px_runV (As := [.int z384, .int 3, .int 0, .int v359]) (rest := []) S (c_mp_know l D cs h r g tf ta pf na ma383 wa ef ea xf xa cf356 ca357 z384 3 0 v359  (show 0 ≤ (cf356 33).toInt from by first | exact oz_9bcc310e9c e368 e114 k80_11 g4 | omega) (show (cf356 33).toInt < 1100 from by first | with_reducible rfl | with_reducible assumption | omega) htk _) hT (pr := []) (pcs := [wdP cs h r g tf ta pf na ma383 wa cf356 ca357 ef ea xf xa]) hw px_X.tt (px_recv hT hw 0 0 rfl rfl rfl) m12_193 m12_190 m12_192 ms_12_1 m1_21 q_Mpg_know ⟨show 0 + 1 ≤ (6 * d + 30) from by first | with_reducible rfl | with_reducible assumption | omega, show 8 + (5 + 11) + 0 ≤ (260 * d + 1200) from by first | with_reducible rfl | with_reducible assumption | omega⟩ hl.1 rfl (Nat.le_of_ble_eq_true rfl) d_Mpg_checkFunction_217 ⟨Nat.le_of_ble_eq_true rfl, Nat.le_of_ble_eq_true rfl⟩) hw hA (fun p420 H locs hp420 hw => ?_)
                    obtain ⟨cf418, ca419, rfl, e422, e423, e424, e425, e426, e427, e428, e429, e430, e431, e432, e433, e434, e435, e436, e437, e438, e439, e440⟩ := hp420
                    replace e422 : (cf418 33).toInt = (cf356 33).toInt + 1 := e422
                    replace e423 : (cf418 30).toInt = (cf356 30).toInt := e423
                    replace e424 : (cf418 31).toInt = (cf356 31).toInt := e424
                    replace e425 : (cf418 37).toInt = (cf356 37).toInt := e425
                    replace e426 : (cf418 38).toInt = (cf356 38).toInt := e426
                    replace e427 : (cf418 41).toInt = (cf356 41).toInt := e427
                    replace e428 : (cf418 42).toInt = (cf356 42).toInt := e428
                    replace e429 : (cf418 43).toInt = (cf356 43).toInt := e429
                    replace e430 : (cf418 44).toInt = (cf356 44).toInt := e430
                    replace e431 : (cf418 45).toInt = (cf356 45).toInt := e431
                    replace e432 : (cf418 46).toInt = (cf356 46).toInt := e432
                    replace e433 : (cf418 47).toInt = (cf356 47).toInt := e433
                    replace e434 : (cf418 48).toInt = (cf356 48).toInt := e434
                    replace e435 : (cf418 54).toInt = (cf356 54).toInt := e435
                    replace e436 : (cf418 55).toInt = (cf356 55).toInt := e436
                    replace e437 : (cf418 57).toInt = (cf356 57).toInt := e437
                    replace e438 : (cf418 58).toInt = (cf356 58).toInt := e438
                    replace e439 : (cf418 59).toInt = (cf356 59).toInt := e439
                    replace e440 : KwU ca357 ca419 (cf356 33) z384 (3 : Int32) (0 : Int32) v359 := e440
                    have hcw_e440 : CaG ca357 ca419 (cf356 33).toInt (cf418 48).toInt := cag_kw e440 (by omega) (by omega)
                    have hkt : KnT (tf 6).toInt ca419 (cf418 33).toInt := KnT.eq (KnT.kw (KnT.eq hkt (n' := (cf356 33).toInt) (by omega)) e440 rfl (by omega) (by omega) ⟨by omega, by omega⟩) (by omega)
                    have hks : KnS ca419 (cf418 33).toInt (cf418 48).toInt ys := KnS.eq (KnS.kw (KnS.eq hks (n' := (cf356 33).toInt) (by omega) rfl) e440 rfl (by omega) (Or.inr (Or.inl ⟨by omega, hsy⟩))) (by omega) (by omega)
                    have hcg := hcg.tr hcw_e440 (by omega) (by omega)
                    have hft := hft.cg hcw_e440
                    have hfp := hfp.cg hcw_e440
                    have hsr := hsr.cg hcw_e440 (by omega)
                    have hprs : PrS ca419 (cf418 48).toInt ys na ma383 lo mid_80 (na 17 nd.toNatClampNeg) x80_6 := PrS.tr hprs (FrC.rf (lo := 0) (hi := 0)) (by omega) hcw_e440 (by omega) (by omega)
                    have hzfu : ZFu cf418 ta na ca p0 := (fun q9 => hzfu (by omega))
                    have hsb_e440 := hsy.1.1
                    have hcy_e440 := cl_nat (x := v359) (by first | exact oz_f3ebed1ad0 e360 hsb_e440.1 | omega)
                    have hs49 : (ca419 49 v359.toNatClampNeg).toInt = _ := (congrArg Int32.toInt (hcw_e440.2.2 _ (by omega)).1).trans hs49
                    have hs52 : (ca419 52 v359.toNatClampNeg).toInt = _ := (congrArg Int32.toInt (hcw_e440.2.2 _ (by omega)).2.2.2).trans hs52
                    have hsy : SyA ca419 (cf418 48).toInt ys v359 := hsy.cg hcw_e440 (by omega) (by omega)
                    have hwr : WrV cf418 (tf 6).toInt := WrV.eq hwr (by omega) (by omega)
                    replace hw : pw D A s.heap H locs [wdP cs h r g tf ta pf na ma383 wa cf418 ca419 ef ea xf xa] := hw
                    refine lv_aload_n S.x S.b d_Mpg_checkFunction_220 rfl (lv_at hl 2 rfl) ?_
                    refine px_get S k_Mpg hT hw 0 0 21 (v := .ref (r 21)) rfl rfl rfl (by decide) m10_7 d_Mpg_checkFunction_221 ?_
                    refine lv_iload S.x S.b d_Mpg_checkFunction_224 (lv_at hl 7 rfl) ?_
                    refine px_iald S hT hw 0 17 (n := 2100) (f := (na 21)) rfl gp_21 (x := x80_6) (vp_in_iff.mpr (by constructor <;> omega)) d_Mpg_checkFunction_226 ?_
                    refine lv_topi (fun z441 ez441 => ?_)
                    have lz441 := Int32.le_toInt z441
                    have uz441 := Int32.toInt_lt z441
                    refine lv_istore (lv' := [(6, .int z441), (8, .int 1), (7, .int 1), (0, .ref h), (1, .int p0), (2, .int nd), (4, .int x80_4), (5, .int x80_5)]) S.x S.b d_Mpg_checkFunction_227 hl (by decide) rfl (fun ls hl => ?_)
                    refine lv_goto (tgt := 80) S.x S.b d_Mpg_checkFunction_229 (by decide) ?_
                    exact ih80 ma383 cf418 ca419 md105 (wr_80 - wv106) x80_4 x80_5 z441 _ _ ls (show (cf418 30).toInt = 0 → (cf 30).toInt = 0 from by first | with_reducible rfl | with_reducible assumption | omega) (show WrV cf418 (tf 6).toInt from hwr) (show (cf418 38).toInt = (cf 38).toInt from by first | exact oz_ff3084e3c1 k80_2 e426 e115 e370 | omega) (show (cf418 44).toInt = (cf 44).toInt from by first | exact oz_ff3084e3c1 k80_3 e430 e123 e374 | omega) (show (cf418 45).toInt = (cf 45).toInt from by first | exact oz_ff3084e3c1 k80_4 e431 e124 e375 | omega) (show (cf418 46).toInt = (cf 46).toInt from by first | exact oz_ff3084e3c1 k80_5 e432 e117 e376 | omega) (show (cf418 47).toInt = (cf 47).toInt from by first | exact oz_ff3084e3c1 k80_6 e433 e118 e377 | omega) (show (cf418 41).toInt = (cf 41).toInt from by first | exact oz_ff3084e3c1 k80_7 e427 e129 e371 | omega) (show (cf418 55).toInt = (cf 55).toInt from by first | exact oz_ff3084e3c1 k80_8 e436 e126 e378 | omega) (show (cf418 37).toInt = (cf 33).toInt from by first | exact oz_ff3084e3c1 k80_9 e425 e120 e369 | omega) (show (cf418 43).toInt = nd.toInt from by first | exact oz_ff3084e3c1 k80_10 e429 e122 e373 | omega) (show (cf 33).toInt ≤ (cf418 33).toInt from by first | exact oz_6e66b3a32a k80_11 e422 e114 e368 | omega) (show 6 * (cf418 33).toInt ≤ 6 * (cf 33).toInt + (wp - (wr_80 - wv106)) from by first | with_reducible rfl | with_reducible assumption | omega) (show (cf 48).toInt ≤ (cf418 48).toInt from by first | exact oz_2da8b60292 k80_19 e434 k80_15 e116 hsb_e440.2 | omega) (show 6 * (cf418 48).toInt ≤ 6 * (cf 48).toInt + (wp - (wr_80 - wv106)) from by first | with_reducible rfl | with_reducible assumption | omega) (show 4 ≤ (cf418 42).toInt from by first | exact oz_c55b6a1f99 e428 e372 tz259 e121 k80_15 | omega) (show 0 ≤ (cf418 54).toInt from by first | exact oz_ecc8fd4544 e435 e362 e125 k80_16 | omega) (show (cf418 54).toInt ≤ 4 * ((cf418 42).toInt - 4) from by first | exact oz_64d2d2f693 e428 e435 e372 tz353 e365 e125 tz259 k80_17 e121 | omega) (show (cf418 54).toInt ≤ 4096 * ((cf418 48).toInt - (cf 48).toInt) from by first | exact oz_8173734d0d k80_18 e434 e435 e116 e125 e363 hsb_e440.2 | omega) (show (cf418 42).toInt - 4 ≤ 4096 * ((cf418 48).toInt - (cf 48).toInt) from by first | exact oz_22c2709563 k80_19 e428 e434 e116 e121 e372 hsb_e440.2 tz259 | omega) (show x80_4.toInt = (cf 33).toInt from by first | exact k80_20 | omega) (show x80_5.toInt = (cf 37).toInt from by first | exact k80_21 | omega) (show nd.toInt + 1 ≤ md105 from by first | with_reducible rfl | with_reducible assumption | omega) (show md105 ≤ m1 from by first | with_reducible rfl | with_reducible assumption | omega) (show 0 ≤ (wr_80 - wv106) from by first | with_reducible rfl | with_reducible assumption | omega) (show (wr_80 - wv106) ≤ wp from by first | with_reducible rfl | with_reducible assumption | omega) (show KnT (tf 6).toInt ca419 (cf418 33).toInt from (KnT.eq hkt (by omega))) (show KnS ca419 (cf418 33).toInt (cf418 48).toInt ys from (KnS.eq hks (by omega) (by omega))) (show CaG ca ca419 (cf 33).toInt (cf 48).toInt from (hcg.le (by omega) (by omega))) (show SyR ca419 ys (cf418 48).toInt (cf418 54).toInt tx from (SyR.eq hsr (by omega) (by omega))) (show Ann na ma0 ma383 from han) (show FrC lo hi ma ma383 from hfc) (show RvP ta (tf 6).toInt na ma0 md105 m1 (wr_80 - wv106) z441 from (by rw [ez441]; exact hrp2)) (show PrS ca419 (cf418 48).toInt ys na ma383 lo md105 (na 17 nd.toNatClampNeg) z441 from (PrS.nx (PrS.to hprs (by omega) (Int.le_refl _) (by omega)) (by omega) hv_18_x80_6 (by omega) (by omega) (Or.inr ⟨by omega, hsy, by omega⟩) ez441)) (show ZFu cf418 ta na ca p0 from (fun zz => hzfu (by have q9 : (cf418 30).toInt = 0 := zz; omega))) (show m1 - md105 < (n_80 : Int) from by first | with_reducible rfl | with_reducible assumption | omega) hw (lv_sub hl [3, 4, 5, 6, 7, 0] rfl)
                · exact absurd c385 (by decide)
  refine lv_aload_n S.x S.b d_Mpg_checkFunction_0 rfl (lv_at hl 0 rfl) ?_
  refine px_get S k_Mpg hT hw 0 0 39 (v := .ref (r 39)) rfl rfl rfl (by decide) m10_28 d_Mpg_checkFunction_1 ?_
  refine lv_iload_n S.x S.b d_Mpg_checkFunction_4 rfl (lv_at hl 1 rfl) ?_
  refine px_iald S hT hw 0 26 (n := 260) (f := (ca 39)) rfl gp_39 (x := p0) (vp_in_iff.mpr (by first | exact oz_8e6a47f383 g18 g19 g9 hf11 | (constructor <;> omega))) d_Mpg_checkFunction_5 ?_
  refine lv_topi (fun z442 ez442 => ?_)
  have lz442 := Int32.le_toInt z442
  have uz442 := Int32.toInt_lt z442
  have hsz442 : nd = z442 := e_nd.trans ez442.symm; subst hsz442
  refine lv_istore_n (lv' := [(2, .int nd), (0, .ref h), (1, .int p0)]) S.x S.b d_Mpg_checkFunction_6 rfl hl (by decide) rfl (fun ls hl => ?_)
  refine lv_aload_n S.x S.b d_Mpg_checkFunction_7 rfl (lv_at hl 1 rfl) ?_
  refine px_get S k_Mpg hT hw 0 0 15 (v := .ref (r 15)) rfl rfl rfl (by decide) m9_239 d_Mpg_checkFunction_8 ?_
  refine lv_iload_n S.x S.b d_Mpg_checkFunction_11 rfl (lv_at hl 0 rfl) ?_
  refine px_iald S hT hw 0 11 (n := 2100) (f := (na 15)) rfl gp_15 (x := nd) (vp_in_iff.mpr (by constructor <;> omega)) d_Mpg_checkFunction_12 ?_
  refine lv_topi (fun z443 ez443 => ?_)
  have lz443 := Int32.le_toInt z443
  have uz443 := Int32.toInt_lt z443
  have rz443 : z443.toInt = (na 15 nd.toNatClampNeg).toInt := (by rw [ez443])
  refine lv_istore_n (lv' := [(3, .int z443), (2, .int nd), (0, .ref h), (1, .int p0)]) S.x S.b d_Mpg_checkFunction_13 rfl hl (by decide) rfl (fun ls hl => ?_)
  refine lv_aload_n S.x S.b d_Mpg_checkFunction_14 rfl (lv_at hl 2 rfl) ?_
  refine lv_iload_n S.x S.b d_Mpg_checkFunction_15 rfl (lv_at hl 0 rfl) ?_
  refine px_calli (pr := []) (px_runV (As := [.int z443]) (rest := []) S (c_mp_findOwn l D cs h r g tf ta pf na ma wa cf ca ef ea xf xa z443  (show 0 ≤ z443.toInt from by first | with_reducible rfl | with_reducible assumption | omega) (show z443.toInt < (tf 6).toInt from by first | with_reducible rfl | with_reducible assumption | omega) (show (tf 6).toInt ≤ 2049 from by first | exact g3 | omega) htk _) hT (pr := []) (pcs := [wdP cs h r g tf ta pf na ma wa cf ca ef ea xf xa]) hw (oX_call (P := (fun A U H => (oP A g U H))) (pr := []) oG_P hw hA hP) (px_recv hT hw 0 0 rfl rfl rfl) m12_157 m12_154 m12_156 ms_11_8 m1_21 q_Mpg_findOwn ⟨show 6 + 1 ≤ (6 * d + 30) from by first | with_reducible rfl | with_reducible assumption | omega, show 8 + (3 + 11) + 230 ≤ (260 * d + 1200) from by first | with_reducible rfl | with_reducible assumption | omega⟩ hl.1 rfl (Nat.le_of_ble_eq_true rfl) d_Mpg_checkFunction_16 ⟨Nat.le_of_ble_eq_true rfl, Nat.le_of_ble_eq_true rfl⟩) hw hA (fun v445 p444 H locs hp444 hw => ?_)
  obtain ⟨rfl, e446, e447⟩ := hp444
  replace e446 : -1 ≤ v445.toInt := e446
  replace e447 : v445.toInt ≤ 9 := e447
  replace hw : pw D A s.heap H locs [wdP cs h r g tf ta pf na ma wa cf ca ef ea xf xa] := hw
  have lv445 := Int32.le_toInt v445
  have uv445 := Int32.toInt_lt v445
  refine lv_if_ge (tgt := 31) S.x S.b d_Mpg_checkFunction_19 (by decide) (fun c448 => ?_) (fun c448 => ?_)
  · have nc448 : (0 : Int) ≤ v445.toInt := (i_le (x := 0) (y := v445)).mp c448
    refine lv_aload_n S.x S.b d_Mpg_checkFunction_31 rfl (lv_at hl 2 rfl) ?_
    refine lv_iconst (v := 1) S.x S.b d_Mpg_checkFunction_32 (by decide) ?_
    refine lv_iload_n S.x S.b d_Mpg_checkFunction_33 rfl (lv_at hl 0 rfl) ?_
    refine px_callv (pr := []) (px_runV (As := [.int 1, .int z443]) (rest := []) S (c_mp_bad l D cs h r g tf ta pf na ma wa ca ef ea xf xa cf 1 z443  (show 1 ≤ (1 : Int) from by first | decide | omega) (show 0 ≤ z443.toInt from by first | with_reducible rfl | with_reducible assumption | omega) (show z443.toInt < (tf 6).toInt from by first | with_reducible rfl | with_reducible assumption | omega) htk hwr _) hT (pr := []) (pcs := [wdP cs h r g tf ta pf na ma wa cf ca ef ea xf xa]) hw px_X.tt (px_recv hT hw 0 0 rfl rfl rfl) m12_173 m12_170 m12_172 ms_11_12 m1_21 q_Mpg_bad ⟨show 0 + 1 ≤ (6 * d + 30) from by first | with_reducible rfl | with_reducible assumption | omega, show 8 + (3 + 11) + 0 ≤ (260 * d + 1200) from by first | with_reducible rfl | with_reducible assumption | omega⟩ hl.1 rfl (Nat.le_of_ble_eq_true rfl) d_Mpg_checkFunction_34 ⟨Nat.le_of_ble_eq_true rfl, Nat.le_of_ble_eq_true rfl⟩) hw hA (fun p451 H locs hp451 hw => ?_)
    obtain ⟨cf450, rfl, e453, e454, e455, e456, e457, e458, e459, e460, e461, e462, e463, e464, e465, e466, e467, e468, e469, e470, e471⟩ := hp451
    replace e453 : KpE cf cf450 := e453
    have hkz_e453 := e453.2
    replace e454 : WrV cf450 (tf 6).toInt := e454
    have hwr := e454
    have hw0_e454 := hwr.1
    replace e455 : 1 ≤ (cf450 30).toInt := e455
    replace e456 : (cf450 33).toInt = (cf 33).toInt := e456
    replace e457 : (cf450 38).toInt = (cf 38).toInt := e457
    replace e458 : (cf450 48).toInt = (cf 48).toInt := e458
    replace e459 : (cf450 46).toInt = (cf 46).toInt := e459
    replace e460 : (cf450 47).toInt = (cf 47).toInt := e460
    replace e461 : (cf450 57).toInt = (cf 57).toInt := e461
    replace e462 : (cf450 37).toInt = (cf 37).toInt := e462
    replace e463 : (cf450 42).toInt = (cf 42).toInt := e463
    replace e464 : (cf450 43).toInt = (cf 43).toInt := e464
    replace e465 : (cf450 44).toInt = (cf 44).toInt := e465
    replace e466 : (cf450 45).toInt = (cf 45).toInt := e466
    replace e467 : (cf450 54).toInt = (cf 54).toInt := e467
    replace e468 : (cf450 55).toInt = (cf 55).toInt := e468
    replace e469 : (cf450 58).toInt = (cf 58).toInt := e469
    replace e470 : (cf450 59).toInt = (cf 59).toInt := e470
    replace e471 : (cf450 41).toInt = (cf 41).toInt := e471
    replace hw : pw D A s.heap H locs [wdP cs h r g tf ta pf na ma wa cf450 ca ef ea xf xa] := hw
    refine lv_aload_n S.x S.b d_Mpg_checkFunction_37 rfl (lv_at hl 2 rfl) ?_
    refine px_get S k_Mpg hT hw 0 0 33 (v := .int (cf450 33)) rfl rfl rfl (by decide) m10_22 d_Mpg_checkFunction_38 ?_
    refine lv_istore (lv' := [(4, .int (cf450 33)), (3, .int z443), (2, .int nd), (0, .ref h), (1, .int p0)]) S.x S.b d_Mpg_checkFunction_41 hl (by decide) rfl (fun ls hl => ?_)
    refine lv_aload_n S.x S.b d_Mpg_checkFunction_43 rfl (lv_at hl 3 rfl) ?_
    refine px_get S k_Mpg hT hw 0 0 37 (v := .int (cf450 37)) rfl rfl rfl (by decide) m10_26 d_Mpg_checkFunction_44 ?_
    refine lv_istore (lv' := [(5, .int (cf450 37)), (4, .int (cf450 33)), (3, .int z443), (2, .int nd), (0, .ref h), (1, .int p0)]) S.x S.b d_Mpg_checkFunction_47 hl (by decide) rfl (fun ls hl => ?_)
    refine lv_aload_n S.x S.b d_Mpg_checkFunction_49 rfl (lv_at hl 4 rfl) ?_
    refine lv_aload_n S.x S.b d_Mpg_checkFunction_50 rfl (lv_at hl 4 rfl) ?_
    refine px_get S k_Mpg hT hw 0 0 33 (v := .int (cf450 33)) rfl rfl rfl (by decide) m10_22 d_Mpg_checkFunction_51 ?_
    refine px_put S k_Mpg hT hw 0 0 37 rfl rfl (by decide) m10_26 rfl rfl rfl (Nat.le_of_ble_eq_true rfl) d_Mpg_checkFunction_54 (w' := wdP cs h r g tf ta pf na ma wa (upd cf450 37 (cf450 33)) ca ef ea xf xa) (ps' := [wdP cs h r g tf ta pf na ma wa (upd cf450 37 (cf450 33)) ca ef ea xf xa]) rfl rfl (fun H locs hw => ?_)
    refine lv_aload_n S.x S.b d_Mpg_checkFunction_57 rfl (lv_at hl 4 rfl) ?_
    refine lv_iload_n S.x S.b d_Mpg_checkFunction_58 rfl (lv_at hl 3 rfl) ?_
    refine px_put S k_Mpg hT hw 0 0 43 rfl rfl (by decide) m10_34 rfl rfl rfl (Nat.le_of_ble_eq_true rfl) d_Mpg_checkFunction_59 (w' := wdP cs h r g tf ta pf na ma wa (upd (upd cf450 37 (cf450 33)) 43 nd) ca ef ea xf xa) (ps' := [wdP cs h r g tf ta pf na ma wa (upd (upd cf450 37 (cf450 33)) 43 nd) ca ef ea xf xa]) rfl rfl (fun H locs hw => ?_)
    refine lv_aload_n S.x S.b d_Mpg_checkFunction_62 rfl (lv_at hl 4 rfl) ?_
    refine lv_iconst (v := 4) S.x S.b d_Mpg_checkFunction_63 (by decide) ?_
    refine px_put S k_Mpg hT hw 0 0 42 rfl rfl (by decide) m10_33 rfl rfl rfl (Nat.le_of_ble_eq_true rfl) d_Mpg_checkFunction_64 (w' := wdP cs h r g tf ta pf na ma wa (upd (upd (upd cf450 37 (cf450 33)) 42 4) 43 nd) ca ef ea xf xa) (ps' := [wdP cs h r g tf ta pf na ma wa (upd (upd (upd cf450 37 (cf450 33)) 42 4) 43 nd) ca ef ea xf xa]) rfl rfl (fun H locs hw => ?_)
    refine lv_aload_n S.x S.b d_Mpg_checkFunction_67 rfl (lv_at hl 4 rfl) ?_
    refine lv_iconst (v := 0) S.x S.b d_Mpg_checkFunction_68 (by decide) ?_
    refine px_put S k_Mpg hT hw 0 0 54 rfl rfl (by decide) m10_49 rfl rfl rfl (Nat.le_of_ble_eq_true rfl) d_Mpg_checkFunction_69 (w' := wdP cs h r g tf ta pf na ma wa (upd (upd (upd (upd cf450 37 (cf450 33)) 42 4) 43 nd) 54 0) ca ef ea xf xa) (ps' := [wdP cs h r g tf ta pf na ma wa (upd (upd (upd (upd cf450 37 (cf450 33)) 42 4) 43 nd) 54 0) ca ef ea xf xa]) rfl rfl (fun H locs hw => ?_)
    refine lv_aload_n S.x S.b d_Mpg_checkFunction_72 rfl (lv_at hl 4 rfl) ?_
    refine px_get S k_Mpg hT hw 0 0 17 (v := .ref (r 17)) rfl rfl rfl (by decide) m10_1 d_Mpg_checkFunction_73 ?_
    refine lv_iload_n S.x S.b d_Mpg_checkFunction_76 rfl (lv_at hl 3 rfl) ?_
    refine px_iald S hT hw 0 13 (n := 2100) (f := (na 17)) rfl gp_17 (x := nd) (vp_in_iff.mpr (by constructor <;> omega)) d_Mpg_checkFunction_77 ?_
    refine lv_topi (fun z472 ez472 => ?_)
    have lz472 := Int32.le_toInt z472
    have uz472 := Int32.toInt_lt z472
    have rz472 : z472.toInt = (na 17 nd.toNatClampNeg).toInt := by rw [ez472]
    have hq77 : z472.toInt = (na 17 nd.toNatClampNeg).toInt := (by rw [ez472])
    refine lv_istore (lv' := [(6, .int z472), (5, .int (cf450 37)), (4, .int (cf450 33)), (3, .int z443), (2, .int nd), (0, .ref h), (1, .int p0)]) S.x S.b d_Mpg_checkFunction_78 hl (by decide) rfl (fun ls hl => ?_)
    exact J80 ((m1 - (nd.toInt + 1)).toNat + 1) ma (upd (upd (upd (upd cf450 37 (cf450 33)) 42 4) 43 nd) 54 0) ca (nd.toInt + 1) wp (cf450 33) (cf450 37) z472 _ _ ls (show (cf450 30).toInt = 0 → (cf 30).toInt = 0 from by first | exact hkz_e453 | omega) (show WrV (upd (upd (upd (upd cf450 37 (cf450 33)) 42 4) 43 nd) 54 0) (tf 6).toInt from (WrV.u (WrV.u (WrV.u (WrV.u hwr (by decide) (by decide)) (by decide) (by decide)) (by decide) (by decide)) (by decide) (by decide))) (show (cf450 38).toInt = (cf 38).toInt from by first | exact e457 | omega) (show (cf450 44).toInt = (cf 44).toInt from by first | exact e465 | omega) (show (cf450 45).toInt = (cf 45).toInt from by first | exact e466 | omega) (show (cf450 46).toInt = (cf 46).toInt from by first | exact e459 | omega) (show (cf450 47).toInt = (cf 47).toInt from by first | exact e460 | omega) (show (cf450 41).toInt = (cf 41).toInt from by first | exact e471 | omega) (show (cf450 55).toInt = (cf 55).toInt from by first | exact e468 | omega) (show (cf450 33).toInt = (cf 33).toInt from by first | exact e456 | omega) (show nd.toInt = nd.toInt from rfl) (show (cf 33).toInt ≤ (cf450 33).toInt from by first | exact oz_f9b42d1b56 e456 | omega) (show 6 * (cf450 33).toInt ≤ 6 * (cf 33).toInt + (wp - wp) from by first | exact oz_3b2a82b8fc e456 | omega) (show (cf 48).toInt ≤ (cf450 48).toInt from by first | exact oz_f9b42d1b56 e458 | omega) (show 6 * (cf450 48).toInt ≤ 6 * (cf 48).toInt + (wp - wp) from by first | exact oz_3b2a82b8fc e458 | omega) (show 4 ≤ (4 : Int) from by first | decide | omega) (show 0 ≤ (0 : Int) from by first | decide | omega) (show (0 : Int) ≤ 4 * ((4 : Int) - 4) from by first | exact oz_53c6623dd4 | omega) (show (0 : Int) ≤ 4096 * ((cf450 48).toInt - (cf 48).toInt) from by first | exact oz_87aa8a2640 e458 | omega) (show (4 : Int) - 4 ≤ 4096 * ((cf450 48).toInt - (cf 48).toInt) from by first | exact oz_fee1adc983 e458 | omega) (show (cf450 33).toInt = (cf 33).toInt from by first | exact e456 | omega) (show (cf450 37).toInt = (cf 37).toInt from by first | exact e462 | omega) (show nd.toInt + 1 ≤ (nd.toInt + 1) from by first | exact oz_a1bc7e1f12 | omega) (show (nd.toInt + 1) ≤ m1 from by first | with_reducible rfl | with_reducible assumption | omega) (show 0 ≤ wp from by first | with_reducible rfl | with_reducible assumption | omega) (show wp ≤ wp from by first | exact oz_1cb5f934a5 | omega) (show KnT (tf 6).toInt ca (cf450 33).toInt from (KnT.eq hkt (by omega))) (show KnS ca (cf450 33).toInt (cf450 48).toInt ys from (KnS.eq hks (by omega) (by omega))) (show CaG ca ca (cf 33).toInt (cf 48).toInt from (hcg.le (by omega) (by omega))) (show SyR ca ys (cf450 48).toInt (0 : Int) tx from (SyR.eq hsr (by omega) (by omega))) (show Ann na ma0 ma from han) (show FrC lo hi ma ma from hfc) (show RvP ta (tf 6).toInt na ma0 (nd.toInt + 1) m1 wp z472 from (by rw [ez472]; exact hrpA)) (show PrS ca (cf450 48).toInt ys na ma lo (nd.toInt + 1) (na 17 nd.toNatClampNeg) z472 from (prs_0 ez472.symm)) (show ZFu (upd (upd (upd (upd cf450 37 (cf450 33)) 42 4) 43 nd) 54 0) ta na ca p0 from (fun zz => absurd (show (cf450 30).toInt = 0 from zz) (by omega))) (show m1 - (nd.toInt + 1) < ((((m1 - (nd.toInt + 1)).toNat + 1 : Nat) : Int) : Int) from by first | exact oz_natlt | omega) hw (lv_sub hl [5, 6, 4, 2, 1, 0] rfl)
  · have nc448 : ¬ (0 : Int) ≤ v445.toInt := mt (i_le (x := 0) (y := v445)).mpr c448
    refine lv_aload_n S.x S.b d_Mpg_checkFunction_22 rfl (lv_at hl 2 rfl) ?_
    refine lv_iload_n S.x S.b d_Mpg_checkFunction_23 rfl (lv_at hl 0 rfl) ?_
    refine px_calli (pr := []) (px_runV (As := [.int z443]) (rest := []) S (c_mp_findFunction2 l D cs h r g tf ta pf na ma wa cf ca ef ea xf xa z443  (show 0 ≤ z443.toInt from by first | with_reducible rfl | with_reducible assumption | omega) (show z443.toInt < (tf 6).toInt from by first | with_reducible rfl | with_reducible assumption | omega) (show (tf 6).toInt ≤ 2049 from by first | exact g3 | omega) (show 0 ≤ (cf 38).toInt from by first | exact oz_f3ebed1ad0 g9 g10 | omega) htk (FnT.eq hft (by omega)) _) hT (pr := []) (pcs := [wdP cs h r g tf ta pf na ma wa cf ca ef ea xf xa]) hw px_X.tt (px_recv hT hw 0 0 rfl rfl rfl) m12_165 m12_162 m12_164 ms_11_10 m1_21 q_Mpg_findFunction ⟨show 1 + 1 ≤ (6 * d + 30) from by first | with_reducible rfl | with_reducible assumption | omega, show 8 + (3 + 11) + 40 ≤ (260 * d + 1200) from by first | with_reducible rfl | with_reducible assumption | omega⟩ hl.1 rfl (Nat.le_of_ble_eq_true rfl) d_Mpg_checkFunction_24 ⟨Nat.le_of_ble_eq_true rfl, Nat.le_of_ble_eq_true rfl⟩) hw hA (fun v474 p473 H locs hp473 hw => ?_)
    obtain ⟨rfl, e475, e476, e477⟩ := hp473
    replace e475 : -1 ≤ v474.toInt := e475
    replace e476 : v474.toInt < (cf 38).toInt := e476
    replace e477 : FfV ta na ca (cf 38).toInt z443 v474.toInt := e477
    have hff := e477
    replace hw : pw D A s.heap H locs [wdP cs h r g tf ta pf na ma wa cf ca ef ea xf xa] := hw
    have lv474 := Int32.le_toInt v474
    have uv474 := Int32.toInt_lt v474
    refine lv_iload_n S.x S.b d_Mpg_checkFunction_27 rfl (lv_at hl 3 rfl) ?_
    refine lv_icmp_eq (tgt := 37) S.x S.b d_Mpg_checkFunction_28 (by decide) (fun c478 => ?_) (fun c478 => ?_)
    · have nc478 : v474.toInt = p0.toInt := (i_eq (x := v474) (y := p0)).mp c478
      refine lv_aload_n S.x S.b d_Mpg_checkFunction_37 rfl (lv_at hl 2 rfl) ?_
      refine px_get S k_Mpg hT hw 0 0 33 (v := .int (cf 33)) rfl rfl rfl (by decide) m10_22 d_Mpg_checkFunction_38 ?_
      refine lv_istore (lv' := [(4, .int (cf 33)), (3, .int z443), (2, .int nd), (0, .ref h), (1, .int p0)]) S.x S.b d_Mpg_checkFunction_41 hl (by decide) rfl (fun ls hl => ?_)
      refine lv_aload_n S.x S.b d_Mpg_checkFunction_43 rfl (lv_at hl 3 rfl) ?_
      refine px_get S k_Mpg hT hw 0 0 37 (v := .int (cf 37)) rfl rfl rfl (by decide) m10_26 d_Mpg_checkFunction_44 ?_
      refine lv_istore (lv' := [(5, .int (cf 37)), (4, .int (cf 33)), (3, .int z443), (2, .int nd), (0, .ref h), (1, .int p0)]) S.x S.b d_Mpg_checkFunction_47 hl (by decide) rfl (fun ls hl => ?_)
      refine lv_aload_n S.x S.b d_Mpg_checkFunction_49 rfl (lv_at hl 4 rfl) ?_
      refine lv_aload_n S.x S.b d_Mpg_checkFunction_50 rfl (lv_at hl 4 rfl) ?_
      refine px_get S k_Mpg hT hw 0 0 33 (v := .int (cf 33)) rfl rfl rfl (by decide) m10_22 d_Mpg_checkFunction_51 ?_
      refine px_put S k_Mpg hT hw 0 0 37 rfl rfl (by decide) m10_26 rfl rfl rfl (Nat.le_of_ble_eq_true rfl) d_Mpg_checkFunction_54 (w' := wdP cs h r g tf ta pf na ma wa (upd cf 37 (cf 33)) ca ef ea xf xa) (ps' := [wdP cs h r g tf ta pf na ma wa (upd cf 37 (cf 33)) ca ef ea xf xa]) rfl rfl (fun H locs hw => ?_)
      refine lv_aload_n S.x S.b d_Mpg_checkFunction_57 rfl (lv_at hl 4 rfl) ?_
      refine lv_iload_n S.x S.b d_Mpg_checkFunction_58 rfl (lv_at hl 3 rfl) ?_
      refine px_put S k_Mpg hT hw 0 0 43 rfl rfl (by decide) m10_34 rfl rfl rfl (Nat.le_of_ble_eq_true rfl) d_Mpg_checkFunction_59 (w' := wdP cs h r g tf ta pf na ma wa (upd (upd cf 37 (cf 33)) 43 nd) ca ef ea xf xa) (ps' := [wdP cs h r g tf ta pf na ma wa (upd (upd cf 37 (cf 33)) 43 nd) ca ef ea xf xa]) rfl rfl (fun H locs hw => ?_)
      refine lv_aload_n S.x S.b d_Mpg_checkFunction_62 rfl (lv_at hl 4 rfl) ?_
      refine lv_iconst (v := 4) S.x S.b d_Mpg_checkFunction_63 (by decide) ?_
      refine px_put S k_Mpg hT hw 0 0 42 rfl rfl (by decide) m10_33 rfl rfl rfl (Nat.le_of_ble_eq_true rfl) d_Mpg_checkFunction_64 (w' := wdP cs h r g tf ta pf na ma wa (upd (upd (upd cf 37 (cf 33)) 42 4) 43 nd) ca ef ea xf xa) (ps' := [wdP cs h r g tf ta pf na ma wa (upd (upd (upd cf 37 (cf 33)) 42 4) 43 nd) ca ef ea xf xa]) rfl rfl (fun H locs hw => ?_)
      refine lv_aload_n S.x S.b d_Mpg_checkFunction_67 rfl (lv_at hl 4 rfl) ?_
      refine lv_iconst (v := 0) S.x S.b d_Mpg_checkFunction_68 (by decide) ?_
      refine px_put S k_Mpg hT hw 0 0 54 rfl rfl (by decide) m10_49 rfl rfl rfl (Nat.le_of_ble_eq_true rfl) d_Mpg_checkFunction_69 (w' := wdP cs h r g tf ta pf na ma wa (upd (upd (upd (upd cf 37 (cf 33)) 42 4) 43 nd) 54 0) ca ef ea xf xa) (ps' := [wdP cs h r g tf ta pf na ma wa (upd (upd (upd (upd cf 37 (cf 33)) 42 4) 43 nd) 54 0) ca ef ea xf xa]) rfl rfl (fun H locs hw => ?_)
      refine lv_aload_n S.x S.b d_Mpg_checkFunction_72 rfl (lv_at hl 4 rfl) ?_
      refine px_get S k_Mpg hT hw 0 0 17 (v := .ref (r 17)) rfl rfl rfl (by decide) m10_1 d_Mpg_checkFunction_73 ?_
      refine lv_iload_n S.x S.b d_Mpg_checkFunction_76 rfl (lv_at hl 3 rfl) ?_
      refine px_iald S hT hw 0 13 (n := 2100) (f := (na 17)) rfl gp_17 (x := nd) (vp_in_iff.mpr (by constructor <;> omega)) d_Mpg_checkFunction_77 ?_
      refine lv_topi (fun z479 ez479 => ?_)
      have lz479 := Int32.le_toInt z479
      have uz479 := Int32.toInt_lt z479
      have rz479 : z479.toInt = (na 17 nd.toNatClampNeg).toInt := by rw [ez479]
      have hq77 : z479.toInt = (na 17 nd.toNatClampNeg).toInt := (by rw [ez479])
      refine lv_istore (lv' := [(6, .int z479), (5, .int (cf 37)), (4, .int (cf 33)), (3, .int z443), (2, .int nd), (0, .ref h), (1, .int p0)]) S.x S.b d_Mpg_checkFunction_78 hl (by decide) rfl (fun ls hl => ?_)
      exact J80 ((m1 - (nd.toInt + 1)).toNat + 1) ma (upd (upd (upd (upd cf 37 (cf 33)) 42 4) 43 nd) 54 0) ca (nd.toInt + 1) wp (cf 33) (cf 37) z479 _ _ ls (show (cf 30).toInt = 0 → (cf 30).toInt = 0 from by first | exact fun q9 => q9 | omega) (show WrV (upd (upd (upd (upd cf 37 (cf 33)) 42 4) 43 nd) 54 0) (tf 6).toInt from (WrV.u (WrV.u (WrV.u (WrV.u hwr (by decide) (by decide)) (by decide) (by decide)) (by decide) (by decide)) (by decide) (by decide))) (show (cf 38).toInt = (cf 38).toInt from rfl) (show (cf 44).toInt = (cf 44).toInt from rfl) (show (cf 45).toInt = (cf 45).toInt from rfl) (show (cf 46).toInt = (cf 46).toInt from rfl) (show (cf 47).toInt = (cf 47).toInt from rfl) (show (cf 41).toInt = (cf 41).toInt from rfl) (show (cf 55).toInt = (cf 55).toInt from rfl) (show (cf 33).toInt = (cf 33).toInt from rfl) (show nd.toInt = nd.toInt from rfl) (show (cf 33).toInt ≤ (cf 33).toInt from by first | exact oz_1cb5f934a5 | omega) (show 6 * (cf 33).toInt ≤ 6 * (cf 33).toInt + (wp - wp) from by first | exact oz_1c3b0c11f9 | omega) (show (cf 48).toInt ≤ (cf 48).toInt from by first | exact oz_1cb5f934a5 | omega) (show 6 * (cf 48).toInt ≤ 6 * (cf 48).toInt + (wp - wp) from by first | exact oz_1c3b0c11f9 | omega) (show 4 ≤ (4 : Int) from by first | decide | omega) (show 0 ≤ (0 : Int) from by first | decide | omega) (show (0 : Int) ≤ 4 * ((4 : Int) - 4) from by first | exact oz_53c6623dd4 | omega) (show (0 : Int) ≤ 4096 * ((cf 48).toInt - (cf 48).toInt) from by first | exact oz_0e660507e8 | omega) (show (4 : Int) - 4 ≤ 4096 * ((cf 48).toInt - (cf 48).toInt) from by first | exact oz_9715964488 | omega) (show (cf 33).toInt = (cf 33).toInt from rfl) (show (cf 37).toInt = (cf 37).toInt from rfl) (show nd.toInt + 1 ≤ (nd.toInt + 1) from by first | exact oz_a1bc7e1f12 | omega) (show (nd.toInt + 1) ≤ m1 from by first | with_reducible rfl | with_reducible assumption | omega) (show 0 ≤ wp from by first | with_reducible rfl | with_reducible assumption | omega) (show wp ≤ wp from by first | exact oz_1cb5f934a5 | omega) (show KnT (tf 6).toInt ca (cf 33).toInt from (KnT.eq hkt (by omega))) (show KnS ca (cf 33).toInt (cf 48).toInt ys from (KnS.eq hks (by omega) (by omega))) (show CaG ca ca (cf 33).toInt (cf 48).toInt from (hcg.le (by omega) (by omega))) (show SyR ca ys (cf 48).toInt (0 : Int) tx from (SyR.eq hsr (by omega) (by omega))) (show Ann na ma0 ma from han) (show FrC lo hi ma ma from hfc) (show RvP ta (tf 6).toInt na ma0 (nd.toInt + 1) m1 wp z479 from (by rw [ez479]; exact hrpA)) (show PrS ca (cf 48).toInt ys na ma lo (nd.toInt + 1) (na 17 nd.toNatClampNeg) z479 from (prs_0 ez479.symm)) (show ZFu (upd (upd (upd (upd cf 37 (cf 33)) 42 4) 43 nd) 54 0) ta na ca p0 from (zfu_mk hff (by omega) (by omega) e_nd ez443)) (show m1 - (nd.toInt + 1) < ((((m1 - (nd.toInt + 1)).toNat + 1 : Nat) : Int) : Int) from by first | exact oz_natlt | omega) hw (lv_sub hl [5, 6, 4, 2, 1, 0] rfl)
    · have nc478 : ¬ v474.toInt = p0.toInt := mt (i_eq (x := v474) (y := p0)).mpr c478
      refine lv_aload_n S.x S.b d_Mpg_checkFunction_31 rfl (lv_at hl 2 rfl) ?_
      refine lv_iconst (v := 1) S.x S.b d_Mpg_checkFunction_32 (by decide) ?_
      refine lv_iload_n S.x S.b d_Mpg_checkFunction_33 rfl (lv_at hl 0 rfl) ?_
      refine px_callv (pr := []) (px_runV (As := [.int 1, .int z443]) (rest := []) S (c_mp_bad l D cs h r g tf ta pf na ma wa ca ef ea xf xa cf 1 z443  (show 1 ≤ (1 : Int) from by first | decide | omega) (show 0 ≤ z443.toInt from by first | with_reducible rfl | with_reducible assumption | omega) (show z443.toInt < (tf 6).toInt from by first | with_reducible rfl | with_reducible assumption | omega) htk hwr _) hT (pr := []) (pcs := [wdP cs h r g tf ta pf na ma wa cf ca ef ea xf xa]) hw px_X.tt (px_recv hT hw 0 0 rfl rfl rfl) m12_173 m12_170 m12_172 ms_11_12 m1_21 q_Mpg_bad ⟨show 0 + 1 ≤ (6 * d + 30) from by first | with_reducible rfl | with_reducible assumption | omega, show 8 + (3 + 11) + 0 ≤ (260 * d + 1200) from by first | with_reducible rfl | with_reducible assumption | omega⟩ hl.1 rfl (Nat.le_of_ble_eq_true rfl) d_Mpg_checkFunction_34 ⟨Nat.le_of_ble_eq_true rfl, Nat.le_of_ble_eq_true rfl⟩) hw hA (fun p482 H locs hp482 hw => ?_)
      obtain ⟨cf481, rfl, e484, e485, e486, e487, e488, e489, e490, e491, e492, e493, e494, e495, e496, e497, e498, e499, e500, e501, e502⟩ := hp482
      replace e484 : KpE cf cf481 := e484
      have hkz_e484 := e484.2
      replace e485 : WrV cf481 (tf 6).toInt := e485
      have hwr := e485
      have hw0_e485 := hwr.1
      replace e486 : 1 ≤ (cf481 30).toInt := e486
      replace e487 : (cf481 33).toInt = (cf 33).toInt := e487
      replace e488 : (cf481 38).toInt = (cf 38).toInt := e488
      replace e489 : (cf481 48).toInt = (cf 48).toInt := e489
      replace e490 : (cf481 46).toInt = (cf 46).toInt := e490
      replace e491 : (cf481 47).toInt = (cf 47).toInt := e491
      replace e492 : (cf481 57).toInt = (cf 57).toInt := e492
      replace e493 : (cf481 37).toInt = (cf 37).toInt := e493
      replace e494 : (cf481 42).toInt = (cf 42).toInt := e494
      replace e495 : (cf481 43).toInt = (cf 43).toInt := e495
      replace e496 : (cf481 44).toInt = (cf 44).toInt := e496
      replace e497 : (cf481 45).toInt = (cf 45).toInt := e497
      replace e498 : (cf481 54).toInt = (cf 54).toInt := e498
      replace e499 : (cf481 55).toInt = (cf 55).toInt := e499
      replace e500 : (cf481 58).toInt = (cf 58).toInt := e500
      replace e501 : (cf481 59).toInt = (cf 59).toInt := e501
      replace e502 : (cf481 41).toInt = (cf 41).toInt := e502
      replace hw : pw D A s.heap H locs [wdP cs h r g tf ta pf na ma wa cf481 ca ef ea xf xa] := hw
      refine lv_aload_n S.x S.b d_Mpg_checkFunction_37 rfl (lv_at hl 2 rfl) ?_
      refine px_get S k_Mpg hT hw 0 0 33 (v := .int (cf481 33)) rfl rfl rfl (by decide) m10_22 d_Mpg_checkFunction_38 ?_
      refine lv_istore (lv' := [(4, .int (cf481 33)), (3, .int z443), (2, .int nd), (0, .ref h), (1, .int p0)]) S.x S.b d_Mpg_checkFunction_41 hl (by decide) rfl (fun ls hl => ?_)
      refine lv_aload_n S.x S.b d_Mpg_checkFunction_43 rfl (lv_at hl 3 rfl) ?_
      refine px_get S k_Mpg hT hw 0 0 37 (v := .int (cf481 37)) rfl rfl rfl (by decide) m10_26 d_Mpg_checkFunction_44 ?_
      refine lv_istore (lv' := [(5, .int (cf481 37)), (4, .int (cf481 33)), (3, .int z443), (2, .int nd), (0, .ref h), (1, .int p0)]) S.x S.b d_Mpg_checkFunction_47 hl (by decide) rfl (fun ls hl => ?_)
      refine lv_aload_n S.x S.b d_Mpg_checkFunction_49 rfl (lv_at hl 4 rfl) ?_
      refine lv_aload_n S.x S.b d_Mpg_checkFunction_50 rfl (lv_at hl 4 rfl) ?_
      refine px_get S k_Mpg hT hw 0 0 33 (v := .int (cf481 33)) rfl rfl rfl (by decide) m10_22 d_Mpg_checkFunction_51 ?_
      refine px_put S k_Mpg hT hw 0 0 37 rfl rfl (by decide) m10_26 rfl rfl rfl (Nat.le_of_ble_eq_true rfl) d_Mpg_checkFunction_54 (w' := wdP cs h r g tf ta pf na ma wa (upd cf481 37 (cf481 33)) ca ef ea xf xa) (ps' := [wdP cs h r g tf ta pf na ma wa (upd cf481 37 (cf481 33)) ca ef ea xf xa]) rfl rfl (fun H locs hw => ?_)
      refine lv_aload_n S.x S.b d_Mpg_checkFunction_57 rfl (lv_at hl 4 rfl) ?_
      refine lv_iload_n S.x S.b d_Mpg_checkFunction_58 rfl (lv_at hl 3 rfl) ?_
      refine px_put S k_Mpg hT hw 0 0 43 rfl rfl (by decide) m10_34 rfl rfl rfl (Nat.le_of_ble_eq_true rfl) d_Mpg_checkFunction_59 (w' := wdP cs h r g tf ta pf na ma wa (upd (upd cf481 37 (cf481 33)) 43 nd) ca ef ea xf xa) (ps' := [wdP cs h r g tf ta pf na ma wa (upd (upd cf481 37 (cf481 33)) 43 nd) ca ef ea xf xa]) rfl rfl (fun H locs hw => ?_)
      refine lv_aload_n S.x S.b d_Mpg_checkFunction_62 rfl (lv_at hl 4 rfl) ?_
      refine lv_iconst (v := 4) S.x S.b d_Mpg_checkFunction_63 (by decide) ?_
      refine px_put S k_Mpg hT hw 0 0 42 rfl rfl (by decide) m10_33 rfl rfl rfl (Nat.le_of_ble_eq_true rfl) d_Mpg_checkFunction_64 (w' := wdP cs h r g tf ta pf na ma wa (upd (upd (upd cf481 37 (cf481 33)) 42 4) 43 nd) ca ef ea xf xa) (ps' := [wdP cs h r g tf ta pf na ma wa (upd (upd (upd cf481 37 (cf481 33)) 42 4) 43 nd) ca ef ea xf xa]) rfl rfl (fun H locs hw => ?_)
      refine lv_aload_n S.x S.b d_Mpg_checkFunction_67 rfl (lv_at hl 4 rfl) ?_
      refine lv_iconst (v := 0) S.x S.b d_Mpg_checkFunction_68 (by decide) ?_
      refine px_put S k_Mpg hT hw 0 0 54 rfl rfl (by decide) m10_49 rfl rfl rfl (Nat.le_of_ble_eq_true rfl) d_Mpg_checkFunction_69 (w' := wdP cs h r g tf ta pf na ma wa (upd (upd (upd (upd cf481 37 (cf481 33)) 42 4) 43 nd) 54 0) ca ef ea xf xa) (ps' := [wdP cs h r g tf ta pf na ma wa (upd (upd (upd (upd cf481 37 (cf481 33)) 42 4) 43 nd) 54 0) ca ef ea xf xa]) rfl rfl (fun H locs hw => ?_)
      refine lv_aload_n S.x S.b d_Mpg_checkFunction_72 rfl (lv_at hl 4 rfl) ?_
      refine px_get S k_Mpg hT hw 0 0 17 (v := .ref (r 17)) rfl rfl rfl (by decide) m10_1 d_Mpg_checkFunction_73 ?_
      refine lv_iload_n S.x S.b d_Mpg_checkFunction_76 rfl (lv_at hl 3 rfl) ?_
      refine px_iald S hT hw 0 13 (n := 2100) (f := (na 17)) rfl gp_17 (x := nd) (vp_in_iff.mpr (by constructor <;> omega)) d_Mpg_checkFunction_77 ?_
      refine lv_topi (fun z503 ez503 => ?_)
      have lz503 := Int32.le_toInt z503
      have uz503 := Int32.toInt_lt z503
      have rz503 : z503.toInt = (na 17 nd.toNatClampNeg).toInt := by rw [ez503]
      have hq77 : z503.toInt = (na 17 nd.toNatClampNeg).toInt := (by rw [ez503])
      refine lv_istore (lv' := [(6, .int z503), (5, .int (cf481 37)), (4, .int (cf481 33)), (3, .int z443), (2, .int nd), (0, .ref h), (1, .int p0)]) S.x S.b d_Mpg_checkFunction_78 hl (by decide) rfl (fun ls hl => ?_)
      exact J80 ((m1 - (nd.toInt + 1)).toNat + 1) ma (upd (upd (upd (upd cf481 37 (cf481 33)) 42 4) 43 nd) 54 0) ca (nd.toInt + 1) wp (cf481 33) (cf481 37) z503 _ _ ls (show (cf481 30).toInt = 0 → (cf 30).toInt = 0 from by first | exact hkz_e484 | omega) (show WrV (upd (upd (upd (upd cf481 37 (cf481 33)) 42 4) 43 nd) 54 0) (tf 6).toInt from (WrV.u (WrV.u (WrV.u (WrV.u hwr (by decide) (by decide)) (by decide) (by decide)) (by decide) (by decide)) (by decide) (by decide))) (show (cf481 38).toInt = (cf 38).toInt from by first | exact e488 | omega) (show (cf481 44).toInt = (cf 44).toInt from by first | exact e496 | omega) (show (cf481 45).toInt = (cf 45).toInt from by first | exact e497 | omega) (show (cf481 46).toInt = (cf 46).toInt from by first | exact e490 | omega) (show (cf481 47).toInt = (cf 47).toInt from by first | exact e491 | omega) (show (cf481 41).toInt = (cf 41).toInt from by first | exact e502 | omega) (show (cf481 55).toInt = (cf 55).toInt from by first | exact e499 | omega) (show (cf481 33).toInt = (cf 33).toInt from by first | exact e487 | omega) (show nd.toInt = nd.toInt from rfl) (show (cf 33).toInt ≤ (cf481 33).toInt from by first | exact oz_f9b42d1b56 e487 | omega) (show 6 * (cf481 33).toInt ≤ 6 * (cf 33).toInt + (wp - wp) from by first | exact oz_3b2a82b8fc e487 | omega) (show (cf 48).toInt ≤ (cf481 48).toInt from by first | exact oz_f9b42d1b56 e489 | omega) (show 6 * (cf481 48).toInt ≤ 6 * (cf 48).toInt + (wp - wp) from by first | exact oz_3b2a82b8fc e489 | omega) (show 4 ≤ (4 : Int) from by first | decide | omega) (show 0 ≤ (0 : Int) from by first | decide | omega) (show (0 : Int) ≤ 4 * ((4 : Int) - 4) from by first | exact oz_53c6623dd4 | omega) (show (0 : Int) ≤ 4096 * ((cf481 48).toInt - (cf 48).toInt) from by first | exact oz_87aa8a2640 e489 | omega) (show (4 : Int) - 4 ≤ 4096 * ((cf481 48).toInt - (cf 48).toInt) from by first | exact oz_fee1adc983 e489 | omega) (show (cf481 33).toInt = (cf 33).toInt from by first | exact e487 | omega) (show (cf481 37).toInt = (cf 37).toInt from by first | exact e493 | omega) (show nd.toInt + 1 ≤ (nd.toInt + 1) from by first | exact oz_a1bc7e1f12 | omega) (show (nd.toInt + 1) ≤ m1 from by first | with_reducible rfl | with_reducible assumption | omega) (show 0 ≤ wp from by first | with_reducible rfl | with_reducible assumption | omega) (show wp ≤ wp from by first | exact oz_1cb5f934a5 | omega) (show KnT (tf 6).toInt ca (cf481 33).toInt from (KnT.eq hkt (by omega))) (show KnS ca (cf481 33).toInt (cf481 48).toInt ys from (KnS.eq hks (by omega) (by omega))) (show CaG ca ca (cf 33).toInt (cf 48).toInt from (hcg.le (by omega) (by omega))) (show SyR ca ys (cf481 48).toInt (0 : Int) tx from (SyR.eq hsr (by omega) (by omega))) (show Ann na ma0 ma from han) (show FrC lo hi ma ma from hfc) (show RvP ta (tf 6).toInt na ma0 (nd.toInt + 1) m1 wp z503 from (by rw [ez503]; exact hrpA)) (show PrS ca (cf481 48).toInt ys na ma lo (nd.toInt + 1) (na 17 nd.toNatClampNeg) z503 from (prs_0 ez503.symm)) (show ZFu (upd (upd (upd (upd cf481 37 (cf481 33)) 42 4) 43 nd) 54 0) ta na ca p0 from (fun zz => absurd (show (cf481 30).toInt = 0 from zz) (by omega))) (show m1 - (nd.toInt + 1) < ((((m1 - (nd.toInt + 1)).toNat + 1 : Nat) : Int) : Int) from by first | exact oz_natlt | omega) hw (lv_sub hl [5, 6, 4, 2, 1, 0] rfl)
