theorem oz_b3999dd098 {a0 a1 a2 : Int} (h0 : a0 + 2 ≤ a2) (h1 : a1 = a2 + 1) : a0 + 1 ≤ a1 := by omega
theorem oz_c8502d292a {a0 a1 a2 a3 : Int} (h0 : a2 = a1 + 2) (h1 : a0 = a3 - (1 : Int)) (h2 : a3 = a2 - 1) : a0 = a1 := by omega
theorem oz_0cb7fdb6b4 {a0 a1 a2 a3 a4 a5 : Int} (h0 : a0 = a1) (h1 : 0 ≤ a1) (h2 : a1 ≤ a2 + 10) (h3 : a2 + 2 ≤ a3) (h4 : a3 + 1 ≤ a4) (h5 : a4 < a5) (h6 : a5 ≤ 2049) : 0 ≤ a0 ∧ a0 < ((2100 : Nat) : Int) := by omega
theorem oz_f68e1bae62 {a0 : Int} (h0 : a0 < (0 : Int)) : a0 < 2100 := by omega
theorem oz_d3d3a7f06a {a0 a1 : Int} (h0 : a1 < a0) (h1 : ¬ a1 < (0 : Int)) : 0 ≤ a0 := by omega
theorem oz_50fbb05cd2 {a0 a1 a2 a3 a4 : Int} (h0 : a0 - a1 ≤ a2 - a3) (h1 : a1 ≤ a3 + 10) (h2 : a2 < a4) (h3 : a4 ≤ 2049) : a0 < 2100 := by omega
theorem oz_ffb5f7237d {a0 a1 a2 a3 : Int} (h0 : a0 = a1 + (1 : Int)) (h1 : a1 = a2) (h2 : a3 + 2 ≤ a2) (h3 : 0 ≤ a3) : 0 ≤ a0 := by omega
theorem oz_76c30dab77 {a0 a1 a2 a3 a4 : Int} (h0 : a0 = a1) (h1 : 0 ≤ a1) (h2 : a1 ≤ a2 + 10) (h3 : a2 + 2 ≤ a3) (h4 : a3 < a4) (h5 : a4 ≤ 2049) : 0 ≤ a0 ∧ a0 < ((2100 : Nat) : Int) := by omega
theorem oz_1b5264ebed {a0 a1 a2 a3 a4 a5 : Int} (h0 : a0 < a1) (h1 : a1 - a2 ≤ a3 - a4) (h2 : a2 ≤ a4 + 10) (h3 : a3 < a5) (h4 : a5 ≤ 2049) : a0 < 2100 := by omega
theorem oz_1b7dd3e4ae {a0 a1 a2 a3 a4 : Int} (h0 : a0 + 2 ≤ a2) (h1 : a1 = a3 + 1) (h2 : a4 = a2) (h3 : a3 = a4 + (1 : Int)) : a0 + 2 ≤ a1 := by omega
theorem oz_7f3387d82f {a0 a1 a2 a3 : Int} (h0 : a0 < a2) (h1 : a1 = a3) (h2 : a3 = a2 + 1) : a0 < a1 := by omega
theorem oz_48901975ad {a0 a1 a2 a3 a4 a5 a6 a7 a8 : Int} (h0 : a4 - a1 ≤ a5 - a3) (h1 : a2 = a6 + 1) (h2 : a0 = a7) (h3 : a7 = a4 + 1) (h4 : a8 = a5) (h5 : a6 = a8 + (1 : Int)) : a0 - a1 ≤ a2 - a3 := by omega
theorem oz_598f97ecb5 {a0 a1 a3 a4 a5 : Int} {n2 : Nat} (h0 : a0 - a3 < (n2 : Int)) (h1 : a1 = a4 + 1) (h2 : a5 = a3) (h3 : a4 = a5 + (1 : Int)) : a0 - a1 < (n2 : Int) := by omega
theorem oz_a454ae152d {a0 a1 a2 a3 : Int} (h0 : a0 = a1 + 1) (h1 : a2 < a1) (h2 : 0 ≤ a3) (h3 : a2 = a3) : 0 ≤ a0 := by omega
theorem oz_9d54c0695a {a0 a1 a2 a3 a4 a5 a6 : Int} (h0 : a0 = a2 + 1) (h1 : a1 = a3 + (1 : Int)) (h2 : a2 - a4 ≤ a5 - a6) (h3 : a3 = a5) (h4 : a4 ≤ a6 + 10) : a0 ≤ a1 + 10 := by omega
theorem oz_e5fce5812b {a0 a1 a2 a3 a4 : Int} (h0 : a1 + 1 ≤ a0) (h1 : a1 = a2 + (1 : Int)) (h2 : 0 ≤ a3) (h3 : a3 + 2 ≤ a4) (h4 : a2 = a4) : 0 ≤ a0 := by omega
theorem oz_42d356aa53 {a0 a1 a2 a3 a4 a5 a6 a7 a8 : Int} (h0 : a0 = a1) (h1 : 0 ≤ a1) (h2 : a1 ≤ a2 + 10) (h3 : a2 + 2 ≤ a3) (h4 : a4 = a3) (h5 : a5 ≤ 2049) (h6 : a6 = a4 + (1 : Int)) (h7 : a6 + 1 ≤ a7) (h8 : a8 = a7 + 1) (h9 : a8 < a5) : 0 ≤ a0 ∧ a0 < ((2100 : Nat) : Int) := by omega
theorem oz_76e8d69b32 {a0 a1 a2 a3 a4 a5 a6 a7 a8 a9 : Int} (h0 : a0 < a1) (h1 : a1 - a2 ≤ a3 - a4) (h2 : a2 ≤ a4 + 10) (h3 : a5 = a3) (h4 : a6 ≤ 2049) (h5 : a7 = a5 + (1 : Int)) (h6 : a7 + 1 ≤ a8) (h7 : a9 = a8 + 1) (h8 : a9 < a6) : a0 < 2100 := by omega
theorem oz_9b08fec897 {a0 a1 a2 a3 a4 : Int} (h0 : a2 = a1 + 2) (h1 : a0 = a3) (h2 : a4 = a2) (h3 : a3 = a4) : a0 = a1 + 2 := by omega
theorem oz_c4e72dd71c {a0 a1 a2 a3 a4 a5 : Int} (h0 : a0 + 2 ≤ a2) (h1 : a1 = a3 + 1) (h2 : a4 = a2) (h3 : a5 + 1 ≤ a3) (h4 : a5 = a4 + (1 : Int)) : a0 + 2 ≤ a1 := by omega
theorem oz_307014c40f {a0 a1 a2 a3 a4 : Int} (h0 : a0 < a2) (h1 : a1 = a3) (h2 : a4 = a2 + 1) (h3 : a4 + 1 ≤ a3) : a0 < a1 := by omega
theorem oz_266ee2c208 {a0 a1 a2 a3 a4 a5 a6 a7 a8 a9 a10 : Int} (h0 : a4 - a1 ≤ a5 - a3) (h1 : a2 = a6 + 1) (h2 : a0 = a7) (h3 : a8 = a4 + 1) (h4 : a9 = a5) (h5 : a7 - a8 ≤ a6 - a10) (h6 : a10 = a9 + (1 : Int)) : a0 - a1 ≤ a2 - a3 := by omega
theorem oz_6b4cc8397a {a0 a1 a2 a3 a4 : Int} (h0 : a0 = a2) (h1 : a1 = a3) (h2 : a4 = a2 + 1) (h3 : a4 + 1 ≤ a3) : a0 < a1 := by omega
theorem oz_04fb17c32a {a0 a1 a3 a4 a5 a6 : Int} {n2 : Nat} (h0 : a0 - a3 < (n2 : Int)) (h1 : a1 = a4 + 1) (h2 : a5 = a3) (h3 : a6 + 1 ≤ a4) (h4 : a6 = a5 + (1 : Int)) : a0 - a1 < (n2 : Int) := by omega
theorem oz_98be4ab6f7 {a0 a1 a2 a3 a4 : Int} (h0 : a2 = a1) (h1 : a0 = a3 + 1) (h2 : a4 = a2 + 1) (h3 : a3 = a4) : a0 = a1 + 2 := by omega
theorem oz_f8f0dbf1fb {a0 a1 a2 a3 a4 : Int} (h0 : a2 = a0) (h1 : a1 = a3 + 1) (h2 : a4 = a2 + 1) (h3 : a4 + 1 ≤ a3) : a0 + 2 ≤ a1 := by omega
theorem oz_59e62d555c {a0 a1 a2 a3 a4 a5 : Int} (h0 : a0 = a2) (h1 : a1 = a3) (h2 : a4 = a2 + 1) (h3 : a5 + 1 ≤ a3) (h4 : a5 = a4) : a0 < a1 := by omega
theorem oz_bb3ffa4880 {a0 a1 a2 a3 a4 a5 a6 a7 a8 a9 : Int} (h0 : a4 = a1 + 1) (h1 : a5 = a3) (h2 : a2 = a6 + 1) (h3 : a0 = a7) (h4 : a8 = a5 + 1) (h5 : a9 = a4) (h6 : a7 - a9 ≤ a6 - a8) : a0 - a1 ≤ a2 - a3 := by omega
theorem oz_476abe6f46 {a0 a1 a2 a3 a4 : Int} (h0 : a0 = a1) (h1 : a2 + 1 ≤ a1) (h2 : a2 = a3) (h3 : a3 = a4 + 1) (h4 : 0 ≤ a4) : (-1 : Int) < a0 := by omega
abbrev b_Mpg_switching : ByteArray := prog_16_method_56_code
def y_Mpg_switching : MethodName := ⟨"HomeSystemModel$Program", "switching", "()I"⟩
theorem d_Mpg_switching_0 : decode b_Mpg_switching 0 = .ok (.aload_n 0, 1) := by decide +kernel
theorem d_Mpg_switching_1 : decode b_Mpg_switching 1 = .ok (.bipush 28, 2) := by decide +kernel
theorem d_Mpg_switching_3 : decode b_Mpg_switching 3 = .ok (.aload_n 0, 1) := by decide +kernel
theorem d_Mpg_switching_4 : decode b_Mpg_switching 4 = .ok (.getfield 360, 3) := by decide +kernel
theorem d_Mpg_switching_7 : decode b_Mpg_switching 7 = .ok (.invokevirtual 406, 3) := by decide +kernel
theorem d_Mpg_switching_10 : decode b_Mpg_switching 10 = .ok (.istore_n 1, 1) := by decide +kernel
theorem d_Mpg_switching_11 : decode b_Mpg_switching 11 = .ok (.aload_n 0, 1) := by decide +kernel
theorem d_Mpg_switching_12 : decode b_Mpg_switching 12 = .ok (.invokevirtual 383, 3) := by decide +kernel
theorem d_Mpg_switching_15 : decode b_Mpg_switching 15 = .ok (.aload_n 0, 1) := by decide +kernel
theorem d_Mpg_switching_16 : decode b_Mpg_switching 16 = .ok (.getfield 216, 3) := by decide +kernel
theorem d_Mpg_switching_19 : decode b_Mpg_switching 19 = .ok (.iload_n 1, 1) := by decide +kernel
theorem d_Mpg_switching_20 : decode b_Mpg_switching 20 = .ok (.aload_n 0, 1) := by decide +kernel
theorem d_Mpg_switching_21 : decode b_Mpg_switching 21 = .ok (.invokevirtual 494, 3) := by decide +kernel
theorem d_Mpg_switching_24 : decode b_Mpg_switching 24 = .ok (.iastore, 1) := by decide +kernel
theorem d_Mpg_switching_25 : decode b_Mpg_switching 25 = .ok (.aload_n 0, 1) := by decide +kernel
theorem d_Mpg_switching_26 : decode b_Mpg_switching 26 = .ok (.ldc 91, 2) := by decide +kernel
theorem d_Mpg_switching_28 : decode b_Mpg_switching 28 = .ok (.invokevirtual 457, 3) := by decide +kernel
theorem d_Mpg_switching_31 : decode b_Mpg_switching 31 = .ok (.iconst (-1), 1) := by decide +kernel
theorem d_Mpg_switching_32 : decode b_Mpg_switching 32 = .ok (.istore_n 2, 1) := by decide +kernel
theorem d_Mpg_switching_33 : decode b_Mpg_switching 33 = .ok (.aload_n 0, 1) := by decide +kernel
theorem d_Mpg_switching_34 : decode b_Mpg_switching 34 = .ok (.ldc 93, 2) := by decide +kernel
theorem d_Mpg_switching_36 : decode b_Mpg_switching 36 = .ok (.invokevirtual 366, 3) := by decide +kernel
theorem d_Mpg_switching_39 : decode b_Mpg_switching 39 = .ok (.ifCond .ne 134, 3) := by decide +kernel
theorem d_Mpg_switching_42 : decode b_Mpg_switching 42 = .ok (.iconst (-1), 1) := by decide +kernel
theorem d_Mpg_switching_43 : decode b_Mpg_switching 43 = .ok (.istore_n 3, 1) := by decide +kernel
theorem d_Mpg_switching_44 : decode b_Mpg_switching 44 = .ok (.aload_n 0, 1) := by decide +kernel
theorem d_Mpg_switching_45 : decode b_Mpg_switching 45 = .ok (.bipush 10, 2) := by decide +kernel
theorem d_Mpg_switching_47 : decode b_Mpg_switching 47 = .ok (.invokevirtual 377, 3) := by decide +kernel
theorem d_Mpg_switching_50 : decode b_Mpg_switching 50 = .ok (.ifCond .eq 43, 3) := by decide +kernel
theorem d_Mpg_switching_53 : decode b_Mpg_switching 53 = .ok (.aload_n 0, 1) := by decide +kernel
theorem d_Mpg_switching_54 : decode b_Mpg_switching 54 = .ok (.bipush 29, 2) := by decide +kernel
theorem d_Mpg_switching_56 : decode b_Mpg_switching 56 = .ok (.aload_n 0, 1) := by decide +kernel
theorem d_Mpg_switching_57 : decode b_Mpg_switching 57 = .ok (.getfield 360, 3) := by decide +kernel
theorem d_Mpg_switching_60 : decode b_Mpg_switching 60 = .ok (.invokevirtual 406, 3) := by decide +kernel
theorem d_Mpg_switching_63 : decode b_Mpg_switching 63 = .ok (.istore_n 3, 1) := by decide +kernel
theorem d_Mpg_switching_64 : decode b_Mpg_switching 64 = .ok (.aload_n 0, 1) := by decide +kernel
theorem d_Mpg_switching_65 : decode b_Mpg_switching 65 = .ok (.dup, 1) := by decide +kernel
theorem d_Mpg_switching_66 : decode b_Mpg_switching 66 = .ok (.getfield 360, 3) := by decide +kernel
theorem d_Mpg_switching_69 : decode b_Mpg_switching 69 = .ok (.iconst 1, 1) := by decide +kernel
theorem d_Mpg_switching_70 : decode b_Mpg_switching 70 = .ok (.iadd, 1) := by decide +kernel
theorem d_Mpg_switching_71 : decode b_Mpg_switching 71 = .ok (.putfield 360, 3) := by decide +kernel
theorem d_Mpg_switching_74 : decode b_Mpg_switching 74 = .ok (.aload_n 0, 1) := by decide +kernel
theorem d_Mpg_switching_75 : decode b_Mpg_switching 75 = .ok (.getfield 216, 3) := by decide +kernel
theorem d_Mpg_switching_78 : decode b_Mpg_switching 78 = .ok (.iload_n 3, 1) := by decide +kernel
theorem d_Mpg_switching_79 : decode b_Mpg_switching 79 = .ok (.aload_n 0, 1) := by decide +kernel
theorem d_Mpg_switching_80 : decode b_Mpg_switching 80 = .ok (.invokevirtual 451, 3) := by decide +kernel
theorem d_Mpg_switching_83 : decode b_Mpg_switching 83 = .ok (.iastore, 1) := by decide +kernel
theorem d_Mpg_switching_84 : decode b_Mpg_switching 84 = .ok (.aload_n 0, 1) := by decide +kernel
theorem d_Mpg_switching_85 : decode b_Mpg_switching 85 = .ok (.ldc 103, 2) := by decide +kernel
theorem d_Mpg_switching_87 : decode b_Mpg_switching 87 = .ok (.invokevirtual 386, 3) := by decide +kernel
theorem d_Mpg_switching_90 : decode b_Mpg_switching 90 = .ok (.goto 60, 3) := by decide +kernel
theorem d_Mpg_switching_93 : decode b_Mpg_switching 93 = .ok (.aload_n 0, 1) := by decide +kernel
theorem d_Mpg_switching_94 : decode b_Mpg_switching 94 = .ok (.bipush 11, 2) := by decide +kernel
theorem d_Mpg_switching_96 : decode b_Mpg_switching 96 = .ok (.invokevirtual 377, 3) := by decide +kernel
theorem d_Mpg_switching_99 : decode b_Mpg_switching 99 = .ok (.ifCond .eq 33, 3) := by decide +kernel
theorem d_Mpg_switching_102 : decode b_Mpg_switching 102 = .ok (.aload_n 0, 1) := by decide +kernel
theorem d_Mpg_switching_103 : decode b_Mpg_switching 103 = .ok (.bipush 30, 2) := by decide +kernel
theorem d_Mpg_switching_105 : decode b_Mpg_switching 105 = .ok (.aload_n 0, 1) := by decide +kernel
theorem d_Mpg_switching_106 : decode b_Mpg_switching 106 = .ok (.getfield 360, 3) := by decide +kernel
theorem d_Mpg_switching_109 : decode b_Mpg_switching 109 = .ok (.invokevirtual 406, 3) := by decide +kernel
theorem d_Mpg_switching_112 : decode b_Mpg_switching 112 = .ok (.istore_n 3, 1) := by decide +kernel
theorem d_Mpg_switching_113 : decode b_Mpg_switching 113 = .ok (.aload_n 0, 1) := by decide +kernel
theorem d_Mpg_switching_114 : decode b_Mpg_switching 114 = .ok (.dup, 1) := by decide +kernel
theorem d_Mpg_switching_115 : decode b_Mpg_switching 115 = .ok (.getfield 360, 3) := by decide +kernel
theorem d_Mpg_switching_118 : decode b_Mpg_switching 118 = .ok (.iconst 1, 1) := by decide +kernel
theorem d_Mpg_switching_119 : decode b_Mpg_switching 119 = .ok (.iadd, 1) := by decide +kernel
theorem d_Mpg_switching_120 : decode b_Mpg_switching 120 = .ok (.putfield 360, 3) := by decide +kernel
theorem d_Mpg_switching_123 : decode b_Mpg_switching 123 = .ok (.aload_n 0, 1) := by decide +kernel
theorem d_Mpg_switching_124 : decode b_Mpg_switching 124 = .ok (.ldc 103, 2) := by decide +kernel
theorem d_Mpg_switching_126 : decode b_Mpg_switching 126 = .ok (.invokevirtual 386, 3) := by decide +kernel
theorem d_Mpg_switching_129 : decode b_Mpg_switching 129 = .ok (.goto 21, 3) := by decide +kernel
theorem d_Mpg_switching_132 : decode b_Mpg_switching 132 = .ok (.aload_n 0, 1) := by decide +kernel
theorem d_Mpg_switching_133 : decode b_Mpg_switching 133 = .ok (.iload_n 2, 1) := by decide +kernel
theorem d_Mpg_switching_134 : decode b_Mpg_switching 134 = .ok (.ifCond .lt 7, 3) := by decide +kernel
theorem d_Mpg_switching_137 : decode b_Mpg_switching 137 = .ok (.iconst 1, 1) := by decide +kernel
theorem d_Mpg_switching_138 : decode b_Mpg_switching 138 = .ok (.goto 4, 3) := by decide +kernel
theorem d_Mpg_switching_141 : decode b_Mpg_switching 141 = .ok (.iconst 0, 1) := by decide +kernel
theorem d_Mpg_switching_142 : decode b_Mpg_switching 142 = .ok (.invokevirtual 373, 3) := by decide +kernel
theorem d_Mpg_switching_145 : decode b_Mpg_switching 145 = .ok (.aload_n 0, 1) := by decide +kernel
theorem d_Mpg_switching_146 : decode b_Mpg_switching 146 = .ok (.invokevirtual 463, 3) := by decide +kernel
theorem d_Mpg_switching_149 : decode b_Mpg_switching 149 = .ok (.istore_n 3, 1) := by decide +kernel
theorem d_Mpg_switching_150 : decode b_Mpg_switching 150 = .ok (.aload_n 0, 1) := by decide +kernel
theorem d_Mpg_switching_151 : decode b_Mpg_switching 151 = .ok (.getfield 219, 3) := by decide +kernel
theorem d_Mpg_switching_154 : decode b_Mpg_switching 154 = .ok (.iload_n 1, 1) := by decide +kernel
theorem d_Mpg_switching_155 : decode b_Mpg_switching 155 = .ok (.aload_n 0, 1) := by decide +kernel
theorem d_Mpg_switching_156 : decode b_Mpg_switching 156 = .ok (.aload_n 0, 1) := by decide +kernel
theorem d_Mpg_switching_157 : decode b_Mpg_switching 157 = .ok (.getfield 219, 3) := by decide +kernel
theorem d_Mpg_switching_160 : decode b_Mpg_switching 160 = .ok (.iload_n 1, 1) := by decide +kernel
theorem d_Mpg_switching_161 : decode b_Mpg_switching 161 = .ok (.iaload, 1) := by decide +kernel
theorem d_Mpg_switching_162 : decode b_Mpg_switching 162 = .ok (.iload_n 2, 1) := by decide +kernel
theorem d_Mpg_switching_163 : decode b_Mpg_switching 163 = .ok (.iload_n 3, 1) := by decide +kernel
theorem d_Mpg_switching_164 : decode b_Mpg_switching 164 = .ok (.invokevirtual 466, 3) := by decide +kernel
theorem d_Mpg_switching_167 : decode b_Mpg_switching 167 = .ok (.iastore, 1) := by decide +kernel
theorem d_Mpg_switching_168 : decode b_Mpg_switching 168 = .ok (.iload_n 3, 1) := by decide +kernel
theorem d_Mpg_switching_169 : decode b_Mpg_switching 169 = .ok (.istore_n 2, 1) := by decide +kernel
theorem d_Mpg_switching_170 : decode b_Mpg_switching 170 = .ok (.goto (-137), 3) := by decide +kernel
theorem d_Mpg_switching_173 : decode b_Mpg_switching 173 = .ok (.aload_n 0, 1) := by decide +kernel
theorem d_Mpg_switching_174 : decode b_Mpg_switching 174 = .ok (.ldc 93, 2) := by decide +kernel
theorem d_Mpg_switching_176 : decode b_Mpg_switching 176 = .ok (.invokevirtual 439, 3) := by decide +kernel
theorem d_Mpg_switching_179 : decode b_Mpg_switching 179 = .ok (.aload_n 0, 1) := by decide +kernel
theorem d_Mpg_switching_180 : decode b_Mpg_switching 180 = .ok (.dup, 1) := by decide +kernel
theorem d_Mpg_switching_181 : decode b_Mpg_switching 181 = .ok (.getfield 380, 3) := by decide +kernel
theorem d_Mpg_switching_184 : decode b_Mpg_switching 184 = .ok (.iconst 1, 1) := by decide +kernel
theorem d_Mpg_switching_185 : decode b_Mpg_switching 185 = .ok (.isub, 1) := by decide +kernel
theorem d_Mpg_switching_186 : decode b_Mpg_switching 186 = .ok (.putfield 380, 3) := by decide +kernel
theorem d_Mpg_switching_189 : decode b_Mpg_switching 189 = .ok (.iload_n 1, 1) := by decide +kernel
theorem d_Mpg_switching_190 : decode b_Mpg_switching 190 = .ok (.ireturn, 1) := by decide +kernel
theorem q_Mpg_switching : px_y y_Mpg_switching 0 := by unfold px_y; decide +kernel
set_option maxHeartbeats 4000000 in
set_option maxRecDepth 100000 in
theorem c_mp_switching (l : Launch) (D : va_G) (cs : Nat → ClassId) (h : Nat) (r : Nat → Nat) (g : Nat → Nat → Option Nat) (tf : Nat → Int32) (ta : Nat → Nat → Int32) (cf : Nat → Int32) (ca : Nat → Nat → Int32) (ef : Nat → Int32) (ea : Nat → Nat → Int32) (xf : Nat → Int32) (xa : Nat → Nat → Int32) (pf : Nat → Int32) (na : Nat → Nat → Int32) (ma : Nat → Nat → Int32) (wa : Nat → Nat → Int32) (lv : Nat) (g0 : 0 ≤ (pf 11).toInt) (g1 : (pf 11).toInt < (tf 6).toInt) (g2 : (tf 6).toInt ≤ 2049) (g3 : 0 ≤ (pf 12).toInt) (g4 : (pf 12).toInt ≤ 60) (g5 : 0 ≤ (pf 13).toInt) (g6 : (pf 13).toInt ≤ (pf 11).toInt + 10) (g7 : 0 ≤ (pf 26).toInt) (g8 : (pf 26).toInt ≤ (pf 12).toInt) (g9 : 61 ≤ (pf 12).toInt + (lv : Int)) (g10 : lv ≤ 61) (g11 : (pf 11).toInt + 1 < (tf 6).toInt) (hlf : l.flags = pinnedFlags ++ [noTraceFlag]) (htk : TkI tf ta) (hfs : FsI (tf 6).toInt (pf 13).toInt na) (hLT : LvT l D cs lv) : ThI l y_Mpg_switching b_Mpg_switching 4 (.int) D cs (8 * lv + 26) (220 * lv + 1200) [.ref h] [wdP cs h r g tf ta pf na ma wa cf ca ef ea xf xa] (oX (fun A U H => (oN A U H) ∧ (oP A g U H)) [wdP cs h r g tf ta pf na ma wa cf ca ef ea xf xa]) "java/lang/IllegalArgumentException" (fun v ps => ∃ (pf' : Nat → Int32) (na' : Nat → Nat → Int32) (ma' : Nat → Nat → Int32) (wa' : Nat → Nat → Int32), (ps = [wdP cs h r g tf ta pf' na' ma' wa' cf ca ef ea xf xa]) ∧ ((pf 11).toInt + 1 ≤ (pf' 11).toInt) ∧ ((pf' 11).toInt < (tf 6).toInt) ∧ ((pf 13).toInt + 1 ≤ (pf' 13).toInt) ∧ ((pf' 13).toInt - (pf 13).toInt ≤ (pf' 11).toInt - (pf 11).toInt) ∧ (bp ta (pf 11) + 1 ≤ bp ta (pf' 11)) ∧ ((pf' 12).toInt = (pf 12).toInt) ∧ ((pf' 24).toInt = (pf 24).toInt) ∧ ((pf' 25).toInt = (pf 25).toInt) ∧ ((pf' 26).toInt = (pf 26).toInt) ∧ (FrB (pf 13).toInt na ma na' ma') ∧ (FrW (pf 26).toInt wa wa') ∧ (VlS ta (tf 6).toInt na' ma' v (pf 13).toInt (pf' 13).toInt (3 * (bp ta (pf' 11) - bp ta (pf 11))) (200 - (pf 12).toInt)) ∧ (FsI (tf 6).toInt (pf' 13).toInt na')) (fun ps => ∃ (pf' : Nat → Int32) (na' : Nat → Nat → Int32) (ma' : Nat → Nat → Int32) (wa' : Nat → Nat → Int32), ps = [wdP cs h r g tf ta pf' na' ma' wa' cf ca ef ea xf xa] ∧ 0 ≤ (pf' 11).toInt ∧ (pf' 11).toInt + 1 ≤ (tf 6).toInt) := by
  refine th_enter (by decide) (Nat.le_of_ble_eq_true rfl) ?_
  intro p e s m below meth c A ls hAe S hr hlk hnm hA hT hX hw hl hne hadm
  have hl : lv_has ls 4 [(0, .ref h)] := hl
  have cstm1 : ((-1) : Int32).toInt = (-1) := rfl
  have cst0 : (0 : Int32).toInt = 0 := rfl
  have cst1 : (1 : Int32).toInt = 1 := rfl
  have cst10 : (10 : Int32).toInt = 10 := rfl
  have cst11 : (11 : Int32).toInt = 11 := rfl
  have cst28 : (28 : Int32).toInt = 28 := rfl
  have cst29 : (29 : Int32).toInt = 29 := rfl
  have cst30 : (30 : Int32).toInt = 30 := rfl
  have hX : (fun A U H => (oN A U H) ∧ (oP A g U H)) A s s.heap := by rw [hAe]; exact hX
  obtain ⟨hN, hP⟩ := hX
  have hZ := hP.1
  have hF0 := hP.2.1
  have hfb : FrB (pf 13).toInt na ma na ma := FrB.rf
  have hfw : FrW (pf 26).toInt wa wa := FrW.rf
  have J33 : ∀ (n_33 : Nat) (pf_33 : Nat → Int32) (na_33 : Nat → Nat → Int32) (ma_33 : Nat → Nat → Int32) (wa_33 : Nat → Nat → Int32) (x33_1 x33_2 : Int32) (H : Heap) (locs : List Loc) (ls : Array Slot), ((pf_33 24).toInt = (pf 24).toInt) → ((pf_33 25).toInt = (pf 25).toInt) → ((pf_33 26).toInt = (pf 26).toInt) → ((pf_33 12).toInt = (pf 12).toInt + 2) → ((pf_33 12).toInt ≤ 60) → ((pf 11).toInt + 2 ≤ (pf_33 11).toInt) → ((pf_33 11).toInt < (tf 6).toInt) → (x33_1.toInt = (pf 13).toInt) → (x33_1.toInt < (pf_33 13).toInt) → ((pf_33 13).toInt - (pf 13).toInt ≤ (pf_33 11).toInt - (pf 11).toInt) → (bp ta (pf 11) + 2 ≤ bp ta (pf_33 11)) → (x33_2.toInt = -1 ∨ x33_1.toInt + 1 ≤ x33_2.toInt) → (x33_2.toInt < (pf_33 13).toInt) → (FrB (pf 13).toInt na ma na_33 ma_33) → (FrW (pf 26).toInt wa wa_33) → (NdF (tf 6).toInt na_33 x33_1 28 (pf 11)) → (SwV ta (tf 6).toInt na_33 ma_33 x33_1 x33_2 (pf_33 13).toInt (3 * (bp ta (pf_33 11) - bp ta (pf 11)) - 3) (198 - (pf 12).toInt)) → (FsI (tf 6).toInt (pf_33 13).toInt na_33) → (tf 6).toInt - (pf_33 11).toInt < (n_33 : Int) → pw D A s.heap H locs [wdP cs h r g tf ta pf_33 na_33 ma_33 wa_33 cf ca ef ea xf xa] → lv_has ls 4 [(0, .ref h), (1, .int x33_1), (2, .int x33_2)] → W p l e { frames := (8 * lv + 26), cells := 1, slots := 6, locals := (220 * lv + 1200) } s m [.ref h].toArray below meth c H locs 0 0 (tx_MQ below (thQi D (va_A ([wdP cs h r g tf ta pf na ma wa cf ca ef ea xf xa] : List va_W).flatten s.heap.size) "java/lang/IllegalArgumentException" (fun v ps => ∃ (pf' : Nat → Int32) (na' : Nat → Nat → Int32) (ma' : Nat → Nat → Int32) (wa' : Nat → Nat → Int32), (ps = [wdP cs h r g tf ta pf' na' ma' wa' cf ca ef ea xf xa]) ∧ ((pf 11).toInt + 1 ≤ (pf' 11).toInt) ∧ ((pf' 11).toInt < (tf 6).toInt) ∧ ((pf 13).toInt + 1 ≤ (pf' 13).toInt) ∧ ((pf' 13).toInt - (pf 13).toInt ≤ (pf' 11).toInt - (pf 11).toInt) ∧ (bp ta (pf 11) + 1 ≤ bp ta (pf' 11)) ∧ ((pf' 12).toInt = (pf 12).toInt) ∧ ((pf' 24).toInt = (pf 24).toInt) ∧ ((pf' 25).toInt = (pf 25).toInt) ∧ ((pf' 26).toInt = (pf 26).toInt) ∧ (FrB (pf 13).toInt na ma na' ma') ∧ (FrW (pf 26).toInt wa wa') ∧ (VlS ta (tf 6).toInt na' ma' v (pf 13).toInt (pf' 13).toInt (3 * (bp ta (pf' 11) - bp ta (pf 11))) (200 - (pf 12).toInt)) ∧ (FsI (tf 6).toInt (pf' 13).toInt na')) (fun ps => ∃ (pf' : Nat → Int32) (na' : Nat → Nat → Int32) (ma' : Nat → Nat → Int32) (wa' : Nat → Nat → Int32), ps = [wdP cs h r g tf ta pf' na' ma' wa' cf ca ef ea xf xa] ∧ 0 ≤ (pf' 11).toInt ∧ (pf' 11).toInt + 1 ≤ (tf 6).toInt) s.heap.size (tot s.heap)) [.ref h].toArray s 1 6 A) (F0 m 33 ls []) := by
    intro  n_33
    induction n_33 with
    | zero =>
      intro pf_33 na_33 ma_33 wa_33 x33_1 x33_2 H locs ls k33_0 k33_1 k33_2 k33_3 k33_4 k33_5 k33_6 k33_7 k33_8 k33_9 k33_10 k33_11 k33_12 k33_13 k33_14 k33_15 k33_16 k33_17 hm hw hl
      have lx33_1 := Int32.le_toInt x33_1
      have ux33_1 := Int32.toInt_lt x33_1
      have lx33_2 := Int32.le_toInt x33_2
      have ux33_2 := Int32.toInt_lt x33_2
      have hfb := k33_13
      have hfw := k33_14
      have hf_14_x33_1 := k33_15.2.1
      have hf_15_x33_1 := k33_15.2.2.1
      have hf_21_x33_1 := k33_15.2.2.2.2
      have hnt_x33_1 := k33_15.2.2.2.1
      obtain ⟨a17, b18, m17, Wa17, Wr17, hf_17_x33_1, hf_18_x33_1, hm17, hm18, hv_a17, hz_x33_2, hW17, hW18, hx17⟩ := k33_16
      have hn_a17 := hv_a17.num fe_ok
      have hfs := k33_17
      exact absurd hm (by first | with_reducible rfl | with_reducible assumption | omega)
    | succ n_33 ih33 =>
      intro pf_33 na_33 ma_33 wa_33 x33_1 x33_2 H locs ls k33_0 k33_1 k33_2 k33_3 k33_4 k33_5 k33_6 k33_7 k33_8 k33_9 k33_10 k33_11 k33_12 k33_13 k33_14 k33_15 k33_16 k33_17 hm hw hl
      have lx33_1 := Int32.le_toInt x33_1
      have ux33_1 := Int32.toInt_lt x33_1
      have lx33_2 := Int32.le_toInt x33_2
      have ux33_2 := Int32.toInt_lt x33_2
      have hfb := k33_13
      have hfw := k33_14
      have hf_14_x33_1 := k33_15.2.1
      have hf_15_x33_1 := k33_15.2.2.1
      have hf_21_x33_1 := k33_15.2.2.2.2
      have hnt_x33_1 := k33_15.2.2.2.1
      obtain ⟨a17, b18, m17, Wa17, Wr17, hf_17_x33_1, hf_18_x33_1, hm17, hm18, hv_a17, hz_x33_2, hW17, hW18, hx17⟩ := k33_16
      have hn_a17 := hv_a17.num fe_ok
      have hfs := k33_17
      refine lv_aload_n S.x S.b d_Mpg_switching_33 rfl (lv_at hl 0 rfl) ?_
      obtain ⟨sk1, hRsk1, st2, sb3, hSsk1⟩ := oP_lit hP (k := 93) (tx := "}") (n := 1) (List.mem_of_getElem? (i := 38) rfl)
      refine va_ldcS S.x S.b S.own hRsk1 d_Mpg_switching_34 ?_
      refine px_calli (pr := []) (px_runV (As := [.ref sk1]) (rest := []) S (c_mp_is l D cs sk1 1 h r g tf ta pf_33 na_33 ma_33 wa_33 cf ca ef ea xf xa   (show 0 ≤ (pf_33 11).toInt from by first | exact oz_f101e7799b k33_5 g0 | omega) (show (pf_33 11).toInt < (tf 6).toInt from by first | exact k33_6 | omega) (show (tf 6).toInt ≤ 2049 from by first | exact g2 | omega) (show 1 ≤ 100 from by first | decide | omega) htk _) hT (pr := []) (pcs := [wdP cs h r g tf ta pf_33 na_33 ma_33 wa_33 cf ca ef ea xf xa]) hw (oX_call (P := (fun A U H => (oP A g U H) ∧ (StS A sk1 1 U H))) (pr := []) (oG_and oG_P oG_Q) hw hA ⟨hP, ⟨_, _, hSsk1⟩⟩) (px_recv hT hw 0 0 rfl rfl rfl) m11_217 m11_214 m11_216 ms_8_14 m1_21 q_Mpg_is ⟨show 3 + 1 ≤ (8 * lv + 26) from by first | with_reducible rfl | with_reducible assumption | omega, show 8 + (2 + 11) + 120 ≤ (220 * lv + 1200) from by first | with_reducible rfl | with_reducible assumption | omega⟩ hl.1 rfl (Nat.le_of_ble_eq_true rfl) d_Mpg_switching_36 ⟨Nat.le_of_ble_eq_true rfl, Nat.le_of_ble_eq_true rfl⟩) hw hA (fun v5 p4 H locs hp4 hw => ?_)
      obtain ⟨rfl, e6, e7⟩ := hp4
      have e6 := z_rng e6
      have e7 : v5.toInt = 1 → (pf_33 11).toInt + 1 < (tf 6).toInt ∧ so ta (pf_33 11) = 5 := e7
      have hw : pw D A s.heap H locs [wdP cs h r g tf ta pf_33 na_33 ma_33 wa_33 cf ca ef ea xf xa] := hw
      have lv5 := Int32.le_toInt v5
      have uv5 := Int32.toInt_lt v5
      refine lv_if_ne (tgt := 173) S.x S.b d_Mpg_switching_39 (by decide) (fun c8 => ?_) (fun c8 => ?_)
      · have nc8 : ¬ v5.toInt = (0 : Int) := mt (i_eq (x := v5) (y := 0)).mpr c8
        refine lv_aload_n S.x S.b d_Mpg_switching_173 rfl (lv_at hl 0 rfl) ?_
        obtain ⟨sk9, hRsk9, st10, sb11, hSsk9⟩ := oP_lit hP (k := 93) (tx := "}") (n := 1) (List.mem_of_getElem? (i := 38) rfl)
        refine va_ldcS S.x S.b S.own hRsk9 d_Mpg_switching_174 ?_
        refine th_callv (ps0 := [wdP cs h r g tf ta pf na ma wa cf ca ef ea xf xa]) (pr := []) (pcs := [wdP cs h r g tf ta pf_33 na_33 ma_33 wa_33 cf ca ef ea xf xa]) (As := [.ref sk9]) (rest := []) (c_mp_closes l D cs sk9 1 h r g tf ta na_33 ma_33 wa_33 cf ca ef ea xf xa pf_33   (show 0 ≤ (pf_33 11).toInt from by first | exact oz_f101e7799b k33_5 g0 | omega) (show (pf_33 11).toInt < (tf 6).toInt from by first | exact k33_6 | omega) (show (tf 6).toInt ≤ 2049 from by first | exact g2 | omega) (show 1 ≤ (pf_33 12).toInt from by first | exact oz_f363bd7209 k33_3 g3 | omega) (show (pf_33 12).toInt ≤ 60 from by first | exact k33_4 | omega) (show 1 ≤ 100 from by first | decide | omega) hlf htk) S hT hw (oX_call (P := (fun A U H => (oN A U H) ∧ (oP A g U H) ∧ (StS A sk9 1 U H))) (pr := []) (oG_and oG_N (oG_and oG_P oG_Q)) hw hA ⟨hN, hP, ⟨_, _, hSsk9⟩⟩) (px_recv hT hw 0 0 rfl rfl rfl) m12_53 m12_50 m12_52 ms_9_14 m1_21 q_Mpg_closes ⟨show 8 + 1 ≤ (8 * lv + 26) from by first | with_reducible rfl | with_reducible assumption | omega, show 8 + (2 + 11) + 280 ≤ (220 * lv + 1200) from by first | with_reducible rfl | with_reducible assumption | omega⟩ hl.1 rfl (Nat.le_of_ble_eq_true rfl) d_Mpg_switching_176 ⟨Nat.le_of_ble_eq_true rfl, Nat.le_of_ble_eq_true rfl⟩ hne hlk hA hAe (fun o t h => Or.inr h) ?_ (fun p14 H locs hp14 hw => ?_)
        · exact fun p1 H1 locs1 hp hw => by obtain ⟨pq1, pq2, pq3, pq4, rfl, hq1, hq2⟩ := hp; exact ⟨_, ⟨pq1, pq2, pq3, pq4, rfl, hq1, hq2⟩, hw⟩
        obtain ⟨pf13, rfl, e16, e17, e18, e19, e20, e21, e22, e23⟩ := hp14
        have e16 : (pf13 11).toInt = (pf_33 11).toInt + 1 := e16
        have e17 : (pf13 11).toInt < (tf 6).toInt := e17
        have e18 : bp ta (pf_33 11) + 1 ≤ bp ta (pf13 11) := e18
        have e19 : (pf13 12).toInt = (pf_33 12).toInt - 1 := e19
        have e20 : (pf13 13).toInt = (pf_33 13).toInt := e20
        have e21 : (pf13 24).toInt = (pf_33 24).toInt := e21
        have e22 : (pf13 25).toInt = (pf_33 25).toInt := e22
        have e23 : (pf13 26).toInt = (pf_33 26).toInt := e23
        have hw : pw D A s.heap H locs [wdP cs h r g tf ta pf13 na_33 ma_33 wa_33 cf ca ef ea xf xa] := hw
        refine lv_aload_n S.x S.b d_Mpg_switching_179 rfl (lv_at hl 0 rfl) ?_
        refine lv_dup S.x S.b d_Mpg_switching_180 rfl ?_
        refine px_get S k_Mpg hT hw 0 0 12 (v := .int (pf13 12)) rfl rfl rfl (by decide) m9_236 d_Mpg_switching_181 ?_
        refine lv_iconst (v := 1) S.x S.b d_Mpg_switching_184 (by decide) ?_
        refine lv_isub S.x S.b d_Mpg_switching_185 ?_
        have lr24 := Int32.le_toInt (pf13 12)
        have ur24 := Int32.toInt_lt (pf13 12)
        refine lv_topi (fun z25 ez25 => ?_)
        have tz25 : z25.toInt = ((pf13 12).toInt - (1 : Int) + 2147483648) % 4294967296 - 2147483648 := by rw [ez25]; exact i_sub (pf13 12) 1
        have lz25 := Int32.le_toInt z25
        have uz25 := Int32.toInt_lt z25
        try replace tz25 : z25.toInt = (pf13 12).toInt - (1 : Int) := by omega
        refine px_put S k_Mpg hT hw 0 0 12 rfl rfl (by decide) m9_236 rfl rfl rfl (Nat.le_of_ble_eq_true rfl) d_Mpg_switching_186 (w' := wdP cs h r g tf ta (upd pf13 12 z25) na_33 ma_33 wa_33 cf ca ef ea xf xa) (ps' := [wdP cs h r g tf ta (upd pf13 12 z25) na_33 ma_33 wa_33 cf ca ef ea xf xa]) rfl rfl (fun H locs hw => ?_)
        refine lv_iload_n S.x S.b d_Mpg_switching_189 rfl (lv_at hl 1 rfl) ?_
        exact th_iret (v := x33_1) S hr rfl hlk hAe hw (⟨(upd pf13 12 z25), na_33, ma_33, wa_33, rfl, (show (pf 11).toInt + 1 ≤ (pf13 11).toInt from by first | exact oz_b3999dd098 k33_5 e16 | omega), (show (pf13 11).toInt < (tf 6).toInt from by first | exact e17 | omega), (show (pf 13).toInt + 1 ≤ (pf13 13).toInt from by first | exact oz_5e3266e4e3 k33_7 e20 k33_8 | omega), (show (pf13 13).toInt - (pf 13).toInt ≤ (pf13 11).toInt - (pf 11).toInt from by first | exact oz_050fdfc2ab k33_9 e16 e20 | omega), (show bp ta (pf 11) + 1 ≤ bp ta (pf13 11) from by first | with_reducible rfl | with_reducible assumption | omega), (show z25.toInt = (pf 12).toInt from by first | exact oz_c8502d292a k33_3 tz25 e19 | omega), (show (pf13 24).toInt = (pf 24).toInt from by first | exact oz_1687f4cc65 k33_0 e21 | omega), (show (pf13 25).toInt = (pf 25).toInt from by first | exact oz_1687f4cc65 k33_1 e22 | omega), (show (pf13 26).toInt = (pf 26).toInt from by first | exact oz_1687f4cc65 k33_2 e23 | omega), (show FrB (pf 13).toInt na ma na_33 ma_33 from hfb), (show FrW (pf 26).toInt wa wa_33 from hfw), (show VlS ta (tf 6).toInt na_33 ma_33 x33_1 (pf 13).toInt (pf13 13).toInt (3 * (bp ta (pf13 11) - bp ta (pf 11))) (200 - (pf 12).toInt) from (VlV.le (st_switch (hi := (pf13 13).toInt) (D := (198 - (pf 12).toInt)) (x := x33_2) ⟨by first | with_reducible rfl | with_reducible assumption | omega, hf_14_x33_1, hf_15_x33_1, ⟨by first | with_reducible rfl | with_reducible assumption | omega, by first | with_reducible rfl | with_reducible assumption | omega⟩, hf_21_x33_1⟩ hf_17_x33_1 (by first | with_reducible rfl | with_reducible assumption | omega) (VlV.le hv_a17 (Int.le_refl _) (Int.le_refl _) (Int.le_refl _) (by first | with_reducible rfl | with_reducible assumption | omega)) (by rw [hf_18_x33_1]; exact RzV.le hz_x33_2 (Int.le_refl _) (by first | with_reducible rfl | with_reducible assumption | omega) (Int.le_refl _) (by first | with_reducible rfl | with_reducible assumption | omega)) (by first | with_reducible rfl | with_reducible assumption | omega) (by first | with_reducible rfl | with_reducible assumption | omega) (by first | with_reducible rfl | with_reducible assumption | omega)) (by first | with_reducible rfl | with_reducible assumption | omega) (by first | with_reducible rfl | with_reducible assumption | omega) (by first | with_reducible rfl | with_reducible assumption | omega) (by first | with_reducible rfl | with_reducible assumption | omega))), (show FsI (tf 6).toInt (pf13 13).toInt na_33 from (FsI.le hfs (by first | with_reducible rfl | with_reducible assumption | omega)))⟩) d_Mpg_switching_190
      · have nc8 : v5.toInt = (0 : Int) := (i_eq (x := v5) (y := 0)).mp c8
        refine lv_iconst (v := (-1)) S.x S.b d_Mpg_switching_42 (by decide) ?_
        refine lv_istore_n (lv' := [(3, .int (-1)), (0, .ref h), (1, .int x33_1), (2, .int x33_2)]) S.x S.b d_Mpg_switching_43 rfl hl (by decide) rfl (fun ls hl => ?_)
        refine lv_aload_n S.x S.b d_Mpg_switching_44 rfl (lv_at hl 1 rfl) ?_
        refine lv_bipush (v := 10) S.x S.b d_Mpg_switching_45 (by decide) ?_
        refine px_calli (pr := []) (px_runV (As := [.int 10]) (rest := []) S (c_mp_isKey l D cs h r g tf ta pf_33 na_33 ma_33 wa_33 cf ca ef ea xf xa 10  (show 0 ≤ (pf_33 11).toInt from by first | exact oz_f101e7799b k33_5 g0 | omega) (show (pf_33 11).toInt < (tf 6).toInt from by first | exact k33_6 | omega) (show (tf 6).toInt ≤ 2049 from by first | exact g2 | omega) htk _) hT (pr := []) (pcs := [wdP cs h r g tf ta pf_33 na_33 ma_33 wa_33 cf ca ef ea xf xa]) hw px_X.tt (px_recv hT hw 0 0 rfl rfl rfl) m11_201 m11_198 m11_200 ms_8_10 m1_21 q_Mpg_isKey ⟨show 0 + 1 ≤ (8 * lv + 26) from by first | with_reducible rfl | with_reducible assumption | omega, show 8 + (2 + 11) + 0 ≤ (220 * lv + 1200) from by first | with_reducible rfl | with_reducible assumption | omega⟩ hl.1 rfl (Nat.le_of_ble_eq_true rfl) d_Mpg_switching_47 ⟨Nat.le_of_ble_eq_true rfl, Nat.le_of_ble_eq_true rfl⟩) hw hA (fun v27 p26 H locs hp26 hw => ?_)
        obtain ⟨rfl, e28, e29⟩ := hp26
        have e28 := z_rng e28
        have e29 : v27.toInt = 1 → (pf_33 11).toInt + 1 < (tf 6).toInt ∧ so ta (pf_33 11) = 2 ∧ wh ta (pf_33 11) = (10 : Int) := e29
        have hw : pw D A s.heap H locs [wdP cs h r g tf ta pf_33 na_33 ma_33 wa_33 cf ca ef ea xf xa] := hw
        have lv27 := Int32.le_toInt v27
        have uv27 := Int32.toInt_lt v27
        refine lv_if_eq (tgt := 93) S.x S.b d_Mpg_switching_50 (by decide) (fun c30 => ?_) (fun c30 => ?_)
        · have nc30 : v27.toInt = (0 : Int) := (i_eq (x := v27) (y := 0)).mp c30
          refine lv_aload_n S.x S.b d_Mpg_switching_93 rfl (lv_at hl 1 rfl) ?_
          refine lv_bipush (v := 11) S.x S.b d_Mpg_switching_94 (by decide) ?_
          refine px_calli (pr := []) (px_runV (As := [.int 11]) (rest := []) S (c_mp_isKey l D cs h r g tf ta pf_33 na_33 ma_33 wa_33 cf ca ef ea xf xa 11  (show 0 ≤ (pf_33 11).toInt from by first | exact oz_f101e7799b k33_5 g0 | omega) (show (pf_33 11).toInt < (tf 6).toInt from by first | exact k33_6 | omega) (show (tf 6).toInt ≤ 2049 from by first | exact g2 | omega) htk _) hT (pr := []) (pcs := [wdP cs h r g tf ta pf_33 na_33 ma_33 wa_33 cf ca ef ea xf xa]) hw px_X.tt (px_recv hT hw 0 0 rfl rfl rfl) m11_201 m11_198 m11_200 ms_8_10 m1_21 q_Mpg_isKey ⟨show 0 + 1 ≤ (8 * lv + 26) from by first | with_reducible rfl | with_reducible assumption | omega, show 8 + (2 + 11) + 0 ≤ (220 * lv + 1200) from by first | with_reducible rfl | with_reducible assumption | omega⟩ hl.1 rfl (Nat.le_of_ble_eq_true rfl) d_Mpg_switching_96 ⟨Nat.le_of_ble_eq_true rfl, Nat.le_of_ble_eq_true rfl⟩) hw hA (fun v32 p31 H locs hp31 hw => ?_)
          obtain ⟨rfl, e33, e34⟩ := hp31
          have e33 := z_rng e33
          have e34 : v32.toInt = 1 → (pf_33 11).toInt + 1 < (tf 6).toInt ∧ so ta (pf_33 11) = 2 ∧ wh ta (pf_33 11) = (11 : Int) := e34
          have hw : pw D A s.heap H locs [wdP cs h r g tf ta pf_33 na_33 ma_33 wa_33 cf ca ef ea xf xa] := hw
          have lv32 := Int32.le_toInt v32
          have uv32 := Int32.toInt_lt v32
          refine lv_if_eq (tgt := 132) S.x S.b d_Mpg_switching_99 (by decide) (fun c35 => ?_) (fun c35 => ?_)
          · have nc35 : v32.toInt = (0 : Int) := (i_eq (x := v32) (y := 0)).mp c35
            refine lv_aload_n S.x S.b d_Mpg_switching_132 rfl (lv_at hl 1 rfl) ?_
            refine lv_iload_n S.x S.b d_Mpg_switching_133 rfl (lv_at hl 3 rfl) ?_
            refine lv_if_lt (tgt := 141) S.x S.b d_Mpg_switching_134 (by decide) (fun c36 => ?_) (fun c36 => ?_)
            · have nc36 : x33_2.toInt < (0 : Int) := (i_lt (x := x33_2) (y := 0)).mp c36
              refine lv_iconst (v := 0) S.x S.b d_Mpg_switching_141 (by decide) ?_
              refine th_callv (ps0 := [wdP cs h r g tf ta pf na ma wa cf ca ef ea xf xa]) (pr := [wdP cs h r g tf ta pf_33 na_33 ma_33 wa_33 cf ca ef ea xf xa]) (pcs := []) (As := [.int 0]) (rest := []) (c_mp_need l hlf D cs h 0) S hT hw (oX_call (P := (fun A U H => (oN A U H))) (pr := [wdP cs h r g tf ta pf_33 na_33 ma_33 wa_33 cf ca ef ea xf xa]) oG_N hw hA hN) (px_recv hT hw 0 0 rfl rfl rfl) m11_233 m11_230 m11_232 ms_9_0 m1_21 q_Mpg_need ⟨show 6 + 1 ≤ (8 * lv + 26) from by first | with_reducible rfl | with_reducible assumption | omega, show 8 + (2 + 11) + 100 ≤ (220 * lv + 1200) from by first | with_reducible rfl | with_reducible assumption | omega⟩ hl.1 rfl (Nat.le_of_ble_eq_true rfl) d_Mpg_switching_142 ⟨Nat.le_of_ble_eq_true rfl, Nat.le_of_ble_eq_true rfl⟩ hne hlk hA hAe (fun o t h => Or.inr h) ?_ (fun p37 H locs hp37 hw => ?_)
              · exact fun p1 H1 locs1 hp hw => by subst hp; exact ⟨_, ⟨pf_33, na_33, ma_33, wa_33, rfl, by first | with_reducible rfl | with_reducible assumption | omega, by first | with_reducible rfl | with_reducible assumption | omega⟩, hw.sub [0] rfl rfl⟩
              obtain ⟨rfl, hndp37⟩ := hp37
              have hndp37 : ¬ (0 : Int) = 0 := hndp37
              have hw : pw D A s.heap H locs [wdP cs h r g tf ta pf_33 na_33 ma_33 wa_33 cf ca ef ea xf xa] := hw
              refine lv_aload_n S.x S.b d_Mpg_switching_145 rfl (lv_at hl 1 rfl) ?_
              refine th_calli (ps0 := [wdP cs h r g tf ta pf na ma wa cf ca ef ea xf xa]) (pr := []) (pcs := [wdP cs h r g tf ta pf_33 na_33 ma_33 wa_33 cf ca ef ea xf xa]) (As := []) (rest := []) ((hLT.go (by first | with_reducible rfl | with_reducible assumption | omega)) h r g tf ta cf ca ef ea xf xa pf_33 na_33 ma_33 wa_33   (show 0 ≤ (pf_33 11).toInt from by first | exact oz_f101e7799b k33_5 g0 | omega) (show (pf_33 11).toInt < (tf 6).toInt from by first | exact k33_6 | omega) (show (tf 6).toInt ≤ 2049 from by first | exact g2 | omega) (show 0 ≤ (pf_33 12).toInt from by first | exact oz_1c15e031a7 k33_3 g3 | omega) (show (pf_33 12).toInt ≤ 60 from by first | exact k33_4 | omega) (show 0 ≤ (pf_33 13).toInt from by first | exact oz_36c2aaaab5 k33_8 g5 k33_7 | omega) (show (pf_33 13).toInt ≤ (pf_33 11).toInt + 10 from by first | exact oz_80aa4b08cf k33_9 g6 | omega) (show 0 ≤ (pf_33 26).toInt from by first | exact oz_f3ebed1ad0 k33_2 g7 | omega) (show (pf_33 26).toInt ≤ (pf_33 12).toInt from by first | exact oz_bdbcb40766 k33_2 k33_3 g8 | omega) (show 61 ≤ (pf_33 12).toInt + ((lv - 1 : Nat) : Int) from by first | with_reducible rfl | with_reducible assumption | omega) (show lv - 1 ≤ 61 from by first | with_reducible rfl | with_reducible assumption | omega) hlf htk (FsI.le (N' := (pf_33 13).toInt) hfs (by first | with_reducible rfl | with_reducible assumption | omega))) S hT hw (oX_call (P := (fun A U H => (oN A U H) ∧ (oP A g U H))) (pr := []) (oG_and oG_N oG_P) hw hA ⟨hN, hP⟩) (px_recv hT hw 0 0 rfl rfl rfl) m12_101 m12_98 m12_100 ms_10_10 m1_21 q_Mpg_statement ⟨show (8 * (lv - 1) + 28) + 1 ≤ (8 * lv + 26) from by first | with_reducible rfl | with_reducible assumption | omega, show 8 + (2 + 11) + (220 * (lv - 1) + 1280) ≤ (220 * lv + 1200) from by first | with_reducible rfl | with_reducible assumption | omega⟩ hl.1 rfl (Nat.le_of_ble_eq_true rfl) d_Mpg_switching_146 ⟨Nat.le_of_ble_eq_true rfl, Nat.le_of_ble_eq_true rfl⟩ hne hlk hA hAe (fun o t h => Or.inr h) ?_ (fun v48 p47 H locs hp47 hw => ?_)
              · exact fun p1 H1 locs1 hp hw => by obtain ⟨pq1, pq2, pq3, pq4, rfl, hq1, hq2⟩ := hp; exact ⟨_, ⟨pq1, pq2, pq3, pq4, rfl, hq1, hq2⟩, hw⟩
              obtain ⟨pf43, na44, ma45, wa46, rfl, e49, e50, e51, e52, e53, e54, e55, e56, e57, e58, e59, e60, e61⟩ := hp47
              have e49 : (pf_33 11).toInt + 1 ≤ (pf43 11).toInt := e49
              have e50 : (pf43 11).toInt < (tf 6).toInt := e50
              have e51 : (pf_33 13).toInt + 1 ≤ (pf43 13).toInt := e51
              have e52 : (pf43 13).toInt - (pf_33 13).toInt ≤ (pf43 11).toInt - (pf_33 11).toInt := e52
              have e53 : bp ta (pf_33 11) + 1 ≤ bp ta (pf43 11) := e53
              have e54 : (pf43 12).toInt = (pf_33 12).toInt := e54
              have e55 : (pf43 24).toInt = (pf_33 24).toInt := e55
              have e56 : (pf43 25).toInt = (pf_33 25).toInt := e56
              have e57 : (pf43 26).toInt = (pf_33 26).toInt := e57
              have e58 : FrB (pf_33 13).toInt na_33 ma_33 na44 ma45 := e58
              have hf_14_x33_1 := (fb_n e58 (by first | with_reducible rfl | with_reducible assumption | omega) (by first | with_reducible rfl | with_reducible assumption | omega)).trans hf_14_x33_1
              have hf_15_x33_1 := (fb_n e58 (by first | with_reducible rfl | with_reducible assumption | omega) (by first | with_reducible rfl | with_reducible assumption | omega)).trans hf_15_x33_1
              have hf_21_x33_1 := (fb_n e58 (by first | with_reducible rfl | with_reducible assumption | omega) (by first | with_reducible rfl | with_reducible assumption | omega)).trans hf_21_x33_1
              have hf_17_x33_1 := (fb_n e58 (by first | with_reducible rfl | with_reducible assumption | omega) (by first | with_reducible rfl | with_reducible assumption | omega)).trans hf_17_x33_1
              have hf_18_x33_1 := (fb_m e58 (by first | with_reducible rfl | with_reducible assumption | omega) (by first | with_reducible rfl | with_reducible assumption | omega)).trans hf_18_x33_1
              have hv_a17 := hv_a17.ag fe_ok (FrB.ag e58 (by first | with_reducible rfl | with_reducible assumption | omega))
              have hz_x33_2 := hz_x33_2.ag fs_ok (FrB.ag e58 (by first | with_reducible rfl | with_reducible assumption | omega))
              have hfb := hfb.tr e58 (by first | with_reducible rfl | with_reducible assumption | omega)
              have e59 : FrW (pf_33 26).toInt wa_33 wa46 := e59
              have hfw := hfw.tr e59 (by first | with_reducible rfl | with_reducible assumption | omega)
              have e60 : VlS ta (tf 6).toInt na44 ma45 v48 (pf_33 13).toInt (pf43 13).toInt (3 * (bp ta (pf43 11) - bp ta (pf_33 11))) (200 - (pf_33 12).toInt) := e60
              have hv_v48 := e60
              have hn_hv_v48 := hv_v48.num fs_ok
              have e61 : FsI (tf 6).toInt (pf43 13).toInt na44 := e61
              have hfs := e61
              have hw : pw D A s.heap H locs [wdP cs h r g tf ta pf43 na44 ma45 wa46 cf ca ef ea xf xa] := hw
              have lv48 := Int32.le_toInt v48
              have uv48 := Int32.toInt_lt v48
              refine lv_istore_n (lv' := [(3, .int v48), (0, .ref h), (1, .int x33_1), (2, .int x33_2)]) S.x S.b d_Mpg_switching_149 rfl hl (by decide) rfl (fun ls hl => ?_)
              refine lv_aload_n S.x S.b d_Mpg_switching_150 rfl (lv_at hl 1 rfl) ?_
              refine px_get S k_Mpg hT hw 0 0 18 (v := .ref (r 18)) rfl rfl rfl (by decide) m10_3 d_Mpg_switching_151 ?_
              refine lv_iload_n S.x S.b d_Mpg_switching_154 rfl (lv_at hl 2 rfl) ?_
              refine lv_aload_n S.x S.b d_Mpg_switching_155 rfl (lv_at hl 1 rfl) ?_
              refine lv_aload_n S.x S.b d_Mpg_switching_156 rfl (lv_at hl 1 rfl) ?_
              refine px_get S k_Mpg hT hw 0 0 18 (v := .ref (r 18)) rfl rfl rfl (by decide) m10_3 d_Mpg_switching_157 ?_
              refine lv_iload_n S.x S.b d_Mpg_switching_160 rfl (lv_at hl 2 rfl) ?_
              refine px_iald S hT hw 0 14 (n := 2100) (f := (ma45 18)) rfl gp_18 (x := x33_1) (vp_in_iff.mpr (by first | exact oz_0cb7fdb6b4 k33_7 g5 g6 k33_5 e49 e50 g2 | (constructor <;> omega))) d_Mpg_switching_161 ?_
              refine lv_topi (fun z62 ez62 => ?_)
              have lz62 := Int32.le_toInt z62
              have uz62 := Int32.toInt_lt z62
              have hsz62 : b18 = z62 := (ez62.trans hf_18_x33_1).symm; subst hsz62
              refine lv_iload_n S.x S.b d_Mpg_switching_162 rfl (lv_at hl 3 rfl) ?_
              refine lv_iload_n S.x S.b d_Mpg_switching_163 rfl (lv_at hl 0 rfl) ?_
              refine px_calli (pr := []) (px_runV (As := [.int b18, .int x33_2, .int v48]) (rest := [.int x33_1, .ref (r 18)]) S (c_mp_hang l D cs h r g tf ta pf43 ma45 wa46 cf ca ef ea xf xa na44 b18 x33_2 v48  (show x33_2.toInt < 2100 from by first | exact oz_f68e1bae62 nc36 | omega) htk _) hT (pr := []) (pcs := [wdP cs h r g tf ta pf43 na44 ma45 wa46 cf ca ef ea xf xa]) hw px_X.tt (px_recv hT hw 0 0 rfl rfl rfl) m12_77 m12_74 m12_76 ms_10_4 m1_21 q_Mpg_hang ⟨show 0 + 1 ≤ (8 * lv + 26) from by first | with_reducible rfl | with_reducible assumption | omega, show 8 + (4 + 11) + 0 ≤ (220 * lv + 1200) from by first | with_reducible rfl | with_reducible assumption | omega⟩ hl.1 rfl (Nat.le_of_ble_eq_true rfl) d_Mpg_switching_164 ⟨Nat.le_of_ble_eq_true rfl, Nat.le_of_ble_eq_true rfl⟩) hw hA (fun v66 p65 H locs hp65 hw => ?_)
              obtain ⟨na64, rfl, e67⟩ := hp65
              have e67 : Hg na44 na64 b18 x33_2 v48 v66 := e67
              have hf_14_x33_1 := (Hg.fld e67 (by first | with_reducible rfl | with_reducible assumption | omega) (by first | with_reducible rfl | with_reducible assumption | omega)).trans hf_14_x33_1
              have hf_15_x33_1 := (Hg.fld e67 (by first | with_reducible rfl | with_reducible assumption | omega) (by first | with_reducible rfl | with_reducible assumption | omega)).trans hf_15_x33_1
              have hf_21_x33_1 := (Hg.fld e67 (by first | with_reducible rfl | with_reducible assumption | omega) (by first | with_reducible rfl | with_reducible assumption | omega)).trans hf_21_x33_1
              have hf_17_x33_1 := (Hg.fld e67 (by first | with_reducible rfl | with_reducible assumption | omega) (by first | with_reducible rfl | with_reducible assumption | omega)).trans hf_17_x33_1
              have hrw_v48 := Hg.row e67 fs_ok hz_x33_2 (VlV.le hv_v48 (by first | with_reducible rfl | with_reducible assumption | omega) (Int.le_refl _) (Int.le_refl _) (by first | with_reducible rfl | with_reducible assumption | omega)) (by first | with_reducible rfl | with_reducible assumption | omega) (by first | with_reducible rfl | with_reducible assumption | omega)
              have hn_hrw_v48 := hrw_v48.num
              have hv_a17 := hv_a17.ag fe_ok (Hg.ag e67 (by first | with_reducible rfl | with_reducible assumption | omega))
              have hfb := Hg.fb e67 hfb (by first | with_reducible rfl | with_reducible assumption | omega)
              have hfs := FsI.hg hfs e67
              have hw : pw D A s.heap H locs [wdP cs h r g tf ta pf43 na64 ma45 wa46 cf ca ef ea xf xa] := hw
              have lv66 := Int32.le_toInt v66
              have uv66 := Int32.toInt_lt v66
              refine px_iast S hT hw 0 14 (n := 2100) (f := (ma45 18)) (x := x33_1) (y := v66) rfl gp_18 (vp_in_iff.mpr (by constructor <;> omega)) d_Mpg_switching_167 (w' := wdP cs h r g tf ta pf43 na64 (va_up ma45 18 (upd (ma45 18) x33_1.toNatClampNeg v66)) wa46 cf ca ef ea xf xa) (ps' := [wdP cs h r g tf ta pf43 na64 (va_up ma45 18 (upd (ma45 18) x33_1.toNatClampNeg v66)) wa46 cf ca ef ea xf xa]) sp_18 rfl (fun H locs hw => ?_)
              obtain ⟨ma68, hu_ma68⟩ : ∃ y : Nat → Nat → Int32, y = va_up ma45 18 (upd (ma45 18) x33_1.toNatClampNeg v66) := ⟨_, rfl⟩
              have hw : pw D A s.heap _ _ [wdP cs h r g tf ta pf43 na64 ma68 wa46 cf ca ef ea xf xa] := (by rw [hu_ma68]; exact hw)
              have hv_a17 := hv_a17.ag fe_ok (ag_m hu_ma68 (by first | with_reducible rfl | with_reducible assumption | omega) (by first | with_reducible rfl | with_reducible assumption | omega))
              have hrw_v48 := hrw_v48.ag fs_ok (ag_m hu_ma68 (by first | with_reducible rfl | with_reducible assumption | omega) (by first | with_reducible rfl | with_reducible assumption | omega))
              have hf_18_x33_1 : ma68 18 x33_1.toNatClampNeg = v66 := (by rw [hu_ma68, va_up_s, pk_us])
              have hfb : FrB (pf 13).toInt na ma na64 ma68 := (by rw [hu_ma68]; exact FrB.um hfb (by first | with_reducible rfl | with_reducible assumption | omega) (by first | with_reducible rfl | with_reducible assumption | omega))
              refine lv_iload_n S.x S.b d_Mpg_switching_168 rfl (lv_at hl 0 rfl) ?_
              refine lv_istore_n (lv' := [(2, .int v48), (3, .int v48), (0, .ref h), (1, .int x33_1)]) S.x S.b d_Mpg_switching_169 rfl hl (by decide) rfl (fun ls hl => ?_)
              refine lv_goto (tgt := 33) S.x S.b d_Mpg_switching_170 (by decide) ?_
              exact ih33 pf43 na64 ma68 wa46 x33_1 v48 _ _ ls (show (pf43 24).toInt = (pf 24).toInt from by first | exact oz_1687f4cc65 k33_0 e55 | omega) (show (pf43 25).toInt = (pf 25).toInt from by first | exact oz_1687f4cc65 k33_1 e56 | omega) (show (pf43 26).toInt = (pf 26).toInt from by first | exact oz_1687f4cc65 k33_2 e57 | omega) (show (pf43 12).toInt = (pf 12).toInt + 2 from by first | exact oz_29ee0aead2 k33_3 e54 | omega) (show (pf43 12).toInt ≤ 60 from by first | exact oz_a3db38fa3c e54 k33_4 | omega) (show (pf 11).toInt + 2 ≤ (pf43 11).toInt from by first | exact oz_7a8532e08c k33_5 e49 | omega) (show (pf43 11).toInt < (tf 6).toInt from by first | exact e50 | omega) (show x33_1.toInt = (pf 13).toInt from by first | exact k33_7 | omega) (show x33_1.toInt < (pf43 13).toInt from by first | exact oz_3a4745f90a k33_8 e51 | omega) (show (pf43 13).toInt - (pf 13).toInt ≤ (pf43 11).toInt - (pf 11).toInt from by first | exact oz_e76dadc267 k33_9 e52 | omega) (show bp ta (pf 11) + 2 ≤ bp ta (pf43 11) from by first | with_reducible rfl | with_reducible assumption | omega) (show v48.toInt = -1 ∨ x33_1.toInt + 1 ≤ v48.toInt from by first | with_reducible rfl | with_reducible assumption | omega) (show v48.toInt < (pf43 13).toInt from by first | with_reducible rfl | with_reducible assumption | omega) (show FrB (pf 13).toInt na ma na64 ma68 from hfb) (show FrW (pf 26).toInt wa wa46 from hfw) (show NdF (tf 6).toInt na64 x33_1 28 (pf 11) from ⟨by first | with_reducible rfl | with_reducible assumption | omega, hf_14_x33_1, hf_15_x33_1, ⟨by first | with_reducible rfl | with_reducible assumption | omega, by first | with_reducible rfl | with_reducible assumption | omega⟩, hf_21_x33_1⟩) (show SwV ta (tf 6).toInt na64 ma68 x33_1 v48 (pf43 13).toInt (3 * (bp ta (pf43 11) - bp ta (pf 11)) - 3) (198 - (pf 12).toInt) from ⟨_, _, _, _, _, hf_17_x33_1, hf_18_x33_1, by first | with_reducible rfl | with_reducible assumption | omega, by first | with_reducible rfl | with_reducible assumption | omega, (VlV.le hv_a17 (by first | with_reducible rfl | with_reducible assumption | omega) (Int.le_refl _) (Int.le_refl _) (by first | with_reducible rfl | with_reducible assumption | omega)), (Or.inr (RwV.le hrw_v48 (by first | with_reducible rfl | with_reducible assumption | omega) (by first | with_reducible rfl | with_reducible assumption | omega) (Int.le_refl _) (by first | with_reducible rfl | with_reducible assumption | omega))), by first | with_reducible rfl | with_reducible assumption | omega, by first | with_reducible rfl | with_reducible assumption | omega, by first | with_reducible rfl | with_reducible assumption | omega⟩) (show FsI (tf 6).toInt (pf43 13).toInt na64 from (FsI.le hfs (by first | with_reducible rfl | with_reducible assumption | omega))) (show (tf 6).toInt - (pf43 11).toInt < (n_33 : Int) from by first | exact oz_84bedd6ffc hm e49 | omega) hw (lv_sub hl [2, 3, 0] rfl)
            · have nc36 : ¬ x33_2.toInt < (0 : Int) := mt (i_lt (x := x33_2) (y := 0)).mpr c36
              refine lv_iconst (v := 1) S.x S.b d_Mpg_switching_137 (by decide) ?_
              refine lv_goto (tgt := 142) S.x S.b d_Mpg_switching_138 (by decide) ?_
              refine th_callv (ps0 := [wdP cs h r g tf ta pf na ma wa cf ca ef ea xf xa]) (pr := [wdP cs h r g tf ta pf_33 na_33 ma_33 wa_33 cf ca ef ea xf xa]) (pcs := []) (As := [.int 1]) (rest := []) (c_mp_need l hlf D cs h 1) S hT hw (oX_call (P := (fun A U H => (oN A U H))) (pr := [wdP cs h r g tf ta pf_33 na_33 ma_33 wa_33 cf ca ef ea xf xa]) oG_N hw hA hN) (px_recv hT hw 0 0 rfl rfl rfl) m11_233 m11_230 m11_232 ms_9_0 m1_21 q_Mpg_need ⟨show 6 + 1 ≤ (8 * lv + 26) from by first | with_reducible rfl | with_reducible assumption | omega, show 8 + (2 + 11) + 100 ≤ (220 * lv + 1200) from by first | with_reducible rfl | with_reducible assumption | omega⟩ hl.1 rfl (Nat.le_of_ble_eq_true rfl) d_Mpg_switching_142 ⟨Nat.le_of_ble_eq_true rfl, Nat.le_of_ble_eq_true rfl⟩ hne hlk hA hAe (fun o t h => Or.inr h) ?_ (fun p69 H locs hp69 hw => ?_)
              · exact fun p1 H1 locs1 hp hw => by subst hp; exact ⟨_, ⟨pf_33, na_33, ma_33, wa_33, rfl, by first | with_reducible rfl | with_reducible assumption | omega, by first | with_reducible rfl | with_reducible assumption | omega⟩, hw.sub [0] rfl rfl⟩
              obtain ⟨rfl, hndp69⟩ := hp69
              have hndp69 : ¬ (1 : Int) = 0 := hndp69
              have hw : pw D A s.heap H locs [wdP cs h r g tf ta pf_33 na_33 ma_33 wa_33 cf ca ef ea xf xa] := hw
              refine lv_aload_n S.x S.b d_Mpg_switching_145 rfl (lv_at hl 1 rfl) ?_
              refine th_calli (ps0 := [wdP cs h r g tf ta pf na ma wa cf ca ef ea xf xa]) (pr := []) (pcs := [wdP cs h r g tf ta pf_33 na_33 ma_33 wa_33 cf ca ef ea xf xa]) (As := []) (rest := []) ((hLT.go (by first | with_reducible rfl | with_reducible assumption | omega)) h r g tf ta cf ca ef ea xf xa pf_33 na_33 ma_33 wa_33   (show 0 ≤ (pf_33 11).toInt from by first | exact oz_f101e7799b k33_5 g0 | omega) (show (pf_33 11).toInt < (tf 6).toInt from by first | exact k33_6 | omega) (show (tf 6).toInt ≤ 2049 from by first | exact g2 | omega) (show 0 ≤ (pf_33 12).toInt from by first | exact oz_1c15e031a7 k33_3 g3 | omega) (show (pf_33 12).toInt ≤ 60 from by first | exact k33_4 | omega) (show 0 ≤ (pf_33 13).toInt from by first | exact oz_d3d3a7f06a k33_12 nc36 | omega) (show (pf_33 13).toInt ≤ (pf_33 11).toInt + 10 from by first | exact oz_80aa4b08cf k33_9 g6 | omega) (show 0 ≤ (pf_33 26).toInt from by first | exact oz_f3ebed1ad0 k33_2 g7 | omega) (show (pf_33 26).toInt ≤ (pf_33 12).toInt from by first | exact oz_bdbcb40766 k33_2 k33_3 g8 | omega) (show 61 ≤ (pf_33 12).toInt + ((lv - 1 : Nat) : Int) from by first | with_reducible rfl | with_reducible assumption | omega) (show lv - 1 ≤ 61 from by first | with_reducible rfl | with_reducible assumption | omega) hlf htk (FsI.le (N' := (pf_33 13).toInt) hfs (by first | with_reducible rfl | with_reducible assumption | omega))) S hT hw (oX_call (P := (fun A U H => (oN A U H) ∧ (oP A g U H))) (pr := []) (oG_and oG_N oG_P) hw hA ⟨hN, hP⟩) (px_recv hT hw 0 0 rfl rfl rfl) m12_101 m12_98 m12_100 ms_10_10 m1_21 q_Mpg_statement ⟨show (8 * (lv - 1) + 28) + 1 ≤ (8 * lv + 26) from by first | with_reducible rfl | with_reducible assumption | omega, show 8 + (2 + 11) + (220 * (lv - 1) + 1280) ≤ (220 * lv + 1200) from by first | with_reducible rfl | with_reducible assumption | omega⟩ hl.1 rfl (Nat.le_of_ble_eq_true rfl) d_Mpg_switching_146 ⟨Nat.le_of_ble_eq_true rfl, Nat.le_of_ble_eq_true rfl⟩ hne hlk hA hAe (fun o t h => Or.inr h) ?_ (fun v80 p79 H locs hp79 hw => ?_)
              · exact fun p1 H1 locs1 hp hw => by obtain ⟨pq1, pq2, pq3, pq4, rfl, hq1, hq2⟩ := hp; exact ⟨_, ⟨pq1, pq2, pq3, pq4, rfl, hq1, hq2⟩, hw⟩
              obtain ⟨pf75, na76, ma77, wa78, rfl, e81, e82, e83, e84, e85, e86, e87, e88, e89, e90, e91, e92, e93⟩ := hp79
              have e81 : (pf_33 11).toInt + 1 ≤ (pf75 11).toInt := e81
              have e82 : (pf75 11).toInt < (tf 6).toInt := e82
              have e83 : (pf_33 13).toInt + 1 ≤ (pf75 13).toInt := e83
              have e84 : (pf75 13).toInt - (pf_33 13).toInt ≤ (pf75 11).toInt - (pf_33 11).toInt := e84
              have e85 : bp ta (pf_33 11) + 1 ≤ bp ta (pf75 11) := e85
              have e86 : (pf75 12).toInt = (pf_33 12).toInt := e86
              have e87 : (pf75 24).toInt = (pf_33 24).toInt := e87
              have e88 : (pf75 25).toInt = (pf_33 25).toInt := e88
              have e89 : (pf75 26).toInt = (pf_33 26).toInt := e89
              have e90 : FrB (pf_33 13).toInt na_33 ma_33 na76 ma77 := e90
              have hf_14_x33_1 := (fb_n e90 (by first | with_reducible rfl | with_reducible assumption | omega) (by first | with_reducible rfl | with_reducible assumption | omega)).trans hf_14_x33_1
              have hf_15_x33_1 := (fb_n e90 (by first | with_reducible rfl | with_reducible assumption | omega) (by first | with_reducible rfl | with_reducible assumption | omega)).trans hf_15_x33_1
              have hf_21_x33_1 := (fb_n e90 (by first | with_reducible rfl | with_reducible assumption | omega) (by first | with_reducible rfl | with_reducible assumption | omega)).trans hf_21_x33_1
              have hf_17_x33_1 := (fb_n e90 (by first | with_reducible rfl | with_reducible assumption | omega) (by first | with_reducible rfl | with_reducible assumption | omega)).trans hf_17_x33_1
              have hf_18_x33_1 := (fb_m e90 (by first | with_reducible rfl | with_reducible assumption | omega) (by first | with_reducible rfl | with_reducible assumption | omega)).trans hf_18_x33_1
              have hv_a17 := hv_a17.ag fe_ok (FrB.ag e90 (by first | with_reducible rfl | with_reducible assumption | omega))
              have hz_x33_2 := hz_x33_2.ag fs_ok (FrB.ag e90 (by first | with_reducible rfl | with_reducible assumption | omega))
              have hfb := hfb.tr e90 (by first | with_reducible rfl | with_reducible assumption | omega)
              have e91 : FrW (pf_33 26).toInt wa_33 wa78 := e91
              have hfw := hfw.tr e91 (by first | with_reducible rfl | with_reducible assumption | omega)
              have e92 : VlS ta (tf 6).toInt na76 ma77 v80 (pf_33 13).toInt (pf75 13).toInt (3 * (bp ta (pf75 11) - bp ta (pf_33 11))) (200 - (pf_33 12).toInt) := e92
              have hv_v80 := e92
              have hn_hv_v80 := hv_v80.num fs_ok
              have e93 : FsI (tf 6).toInt (pf75 13).toInt na76 := e93
              have hfs := e93
              have hw : pw D A s.heap H locs [wdP cs h r g tf ta pf75 na76 ma77 wa78 cf ca ef ea xf xa] := hw
              have lv80 := Int32.le_toInt v80
              have uv80 := Int32.toInt_lt v80
              refine lv_istore_n (lv' := [(3, .int v80), (0, .ref h), (1, .int x33_1), (2, .int x33_2)]) S.x S.b d_Mpg_switching_149 rfl hl (by decide) rfl (fun ls hl => ?_)
              refine lv_aload_n S.x S.b d_Mpg_switching_150 rfl (lv_at hl 1 rfl) ?_
              refine px_get S k_Mpg hT hw 0 0 18 (v := .ref (r 18)) rfl rfl rfl (by decide) m10_3 d_Mpg_switching_151 ?_
              refine lv_iload_n S.x S.b d_Mpg_switching_154 rfl (lv_at hl 2 rfl) ?_
              refine lv_aload_n S.x S.b d_Mpg_switching_155 rfl (lv_at hl 1 rfl) ?_
              refine lv_aload_n S.x S.b d_Mpg_switching_156 rfl (lv_at hl 1 rfl) ?_
              refine px_get S k_Mpg hT hw 0 0 18 (v := .ref (r 18)) rfl rfl rfl (by decide) m10_3 d_Mpg_switching_157 ?_
              refine lv_iload_n S.x S.b d_Mpg_switching_160 rfl (lv_at hl 2 rfl) ?_
              refine px_iald S hT hw 0 14 (n := 2100) (f := (ma77 18)) rfl gp_18 (x := x33_1) (vp_in_iff.mpr (by first | exact oz_0cb7fdb6b4 k33_7 g5 g6 k33_5 e81 e82 g2 | (constructor <;> omega))) d_Mpg_switching_161 ?_
              refine lv_topi (fun z94 ez94 => ?_)
              have lz94 := Int32.le_toInt z94
              have uz94 := Int32.toInt_lt z94
              have hsz94 : b18 = z94 := (ez94.trans hf_18_x33_1).symm; subst hsz94
              refine lv_iload_n S.x S.b d_Mpg_switching_162 rfl (lv_at hl 3 rfl) ?_
              refine lv_iload_n S.x S.b d_Mpg_switching_163 rfl (lv_at hl 0 rfl) ?_
              refine px_calli (pr := []) (px_runV (As := [.int b18, .int x33_2, .int v80]) (rest := [.int x33_1, .ref (r 18)]) S (c_mp_hang l D cs h r g tf ta pf75 ma77 wa78 cf ca ef ea xf xa na76 b18 x33_2 v80  (show x33_2.toInt < 2100 from by first | exact oz_3c5529d13a k33_12 k33_9 g6 e81 e82 g2 | omega) htk _) hT (pr := []) (pcs := [wdP cs h r g tf ta pf75 na76 ma77 wa78 cf ca ef ea xf xa]) hw px_X.tt (px_recv hT hw 0 0 rfl rfl rfl) m12_77 m12_74 m12_76 ms_10_4 m1_21 q_Mpg_hang ⟨show 0 + 1 ≤ (8 * lv + 26) from by first | with_reducible rfl | with_reducible assumption | omega, show 8 + (4 + 11) + 0 ≤ (220 * lv + 1200) from by first | with_reducible rfl | with_reducible assumption | omega⟩ hl.1 rfl (Nat.le_of_ble_eq_true rfl) d_Mpg_switching_164 ⟨Nat.le_of_ble_eq_true rfl, Nat.le_of_ble_eq_true rfl⟩) hw hA (fun v98 p97 H locs hp97 hw => ?_)
              obtain ⟨na96, rfl, e99⟩ := hp97
              have e99 : Hg na76 na96 b18 x33_2 v80 v98 := e99
              have hf_14_x33_1 := (Hg.fld e99 (by first | with_reducible rfl | with_reducible assumption | omega) (by first | with_reducible rfl | with_reducible assumption | omega)).trans hf_14_x33_1
              have hf_15_x33_1 := (Hg.fld e99 (by first | with_reducible rfl | with_reducible assumption | omega) (by first | with_reducible rfl | with_reducible assumption | omega)).trans hf_15_x33_1
              have hf_21_x33_1 := (Hg.fld e99 (by first | with_reducible rfl | with_reducible assumption | omega) (by first | with_reducible rfl | with_reducible assumption | omega)).trans hf_21_x33_1
              have hf_17_x33_1 := (Hg.fld e99 (by first | with_reducible rfl | with_reducible assumption | omega) (by first | with_reducible rfl | with_reducible assumption | omega)).trans hf_17_x33_1
              have hrw_v80 := Hg.row e99 fs_ok hz_x33_2 (VlV.le hv_v80 (by first | with_reducible rfl | with_reducible assumption | omega) (Int.le_refl _) (Int.le_refl _) (by first | with_reducible rfl | with_reducible assumption | omega)) (by first | with_reducible rfl | with_reducible assumption | omega) (by first | with_reducible rfl | with_reducible assumption | omega)
              have hn_hrw_v80 := hrw_v80.num
              have hv_a17 := hv_a17.ag fe_ok (Hg.ag e99 (by first | with_reducible rfl | with_reducible assumption | omega))
              have hfb := Hg.fb e99 hfb (by first | with_reducible rfl | with_reducible assumption | omega)
              have hfs := FsI.hg hfs e99
              have hw : pw D A s.heap H locs [wdP cs h r g tf ta pf75 na96 ma77 wa78 cf ca ef ea xf xa] := hw
              have lv98 := Int32.le_toInt v98
              have uv98 := Int32.toInt_lt v98
              refine px_iast S hT hw 0 14 (n := 2100) (f := (ma77 18)) (x := x33_1) (y := v98) rfl gp_18 (vp_in_iff.mpr (by constructor <;> omega)) d_Mpg_switching_167 (w' := wdP cs h r g tf ta pf75 na96 (va_up ma77 18 (upd (ma77 18) x33_1.toNatClampNeg v98)) wa78 cf ca ef ea xf xa) (ps' := [wdP cs h r g tf ta pf75 na96 (va_up ma77 18 (upd (ma77 18) x33_1.toNatClampNeg v98)) wa78 cf ca ef ea xf xa]) sp_18 rfl (fun H locs hw => ?_)
              obtain ⟨ma100, hu_ma100⟩ : ∃ y : Nat → Nat → Int32, y = va_up ma77 18 (upd (ma77 18) x33_1.toNatClampNeg v98) := ⟨_, rfl⟩
              have hw : pw D A s.heap _ _ [wdP cs h r g tf ta pf75 na96 ma100 wa78 cf ca ef ea xf xa] := (by rw [hu_ma100]; exact hw)
              have hv_a17 := hv_a17.ag fe_ok (ag_m hu_ma100 (by first | with_reducible rfl | with_reducible assumption | omega) (by first | with_reducible rfl | with_reducible assumption | omega))
              have hrw_v80 := hrw_v80.ag fs_ok (ag_m hu_ma100 (by first | with_reducible rfl | with_reducible assumption | omega) (by first | with_reducible rfl | with_reducible assumption | omega))
              have hf_18_x33_1 : ma100 18 x33_1.toNatClampNeg = v98 := (by rw [hu_ma100, va_up_s, pk_us])
              have hfb : FrB (pf 13).toInt na ma na96 ma100 := (by rw [hu_ma100]; exact FrB.um hfb (by first | with_reducible rfl | with_reducible assumption | omega) (by first | with_reducible rfl | with_reducible assumption | omega))
              refine lv_iload_n S.x S.b d_Mpg_switching_168 rfl (lv_at hl 0 rfl) ?_
              refine lv_istore_n (lv' := [(2, .int v80), (3, .int v80), (0, .ref h), (1, .int x33_1)]) S.x S.b d_Mpg_switching_169 rfl hl (by decide) rfl (fun ls hl => ?_)
              refine lv_goto (tgt := 33) S.x S.b d_Mpg_switching_170 (by decide) ?_
              exact ih33 pf75 na96 ma100 wa78 x33_1 v80 _ _ ls (show (pf75 24).toInt = (pf 24).toInt from by first | exact oz_1687f4cc65 k33_0 e87 | omega) (show (pf75 25).toInt = (pf 25).toInt from by first | exact oz_1687f4cc65 k33_1 e88 | omega) (show (pf75 26).toInt = (pf 26).toInt from by first | exact oz_1687f4cc65 k33_2 e89 | omega) (show (pf75 12).toInt = (pf 12).toInt + 2 from by first | exact oz_29ee0aead2 k33_3 e86 | omega) (show (pf75 12).toInt ≤ 60 from by first | exact oz_a3db38fa3c e86 k33_4 | omega) (show (pf 11).toInt + 2 ≤ (pf75 11).toInt from by first | exact oz_7a8532e08c k33_5 e81 | omega) (show (pf75 11).toInt < (tf 6).toInt from by first | exact e82 | omega) (show x33_1.toInt = (pf 13).toInt from by first | exact k33_7 | omega) (show x33_1.toInt < (pf75 13).toInt from by first | exact oz_3a4745f90a k33_8 e83 | omega) (show (pf75 13).toInt - (pf 13).toInt ≤ (pf75 11).toInt - (pf 11).toInt from by first | exact oz_e76dadc267 k33_9 e84 | omega) (show bp ta (pf 11) + 2 ≤ bp ta (pf75 11) from by first | with_reducible rfl | with_reducible assumption | omega) (show v80.toInt = -1 ∨ x33_1.toInt + 1 ≤ v80.toInt from by first | with_reducible rfl | with_reducible assumption | omega) (show v80.toInt < (pf75 13).toInt from by first | with_reducible rfl | with_reducible assumption | omega) (show FrB (pf 13).toInt na ma na96 ma100 from hfb) (show FrW (pf 26).toInt wa wa78 from hfw) (show NdF (tf 6).toInt na96 x33_1 28 (pf 11) from ⟨by first | with_reducible rfl | with_reducible assumption | omega, hf_14_x33_1, hf_15_x33_1, ⟨by first | with_reducible rfl | with_reducible assumption | omega, by first | with_reducible rfl | with_reducible assumption | omega⟩, hf_21_x33_1⟩) (show SwV ta (tf 6).toInt na96 ma100 x33_1 v80 (pf75 13).toInt (3 * (bp ta (pf75 11) - bp ta (pf 11)) - 3) (198 - (pf 12).toInt) from ⟨_, _, _, _, _, hf_17_x33_1, hf_18_x33_1, by first | with_reducible rfl | with_reducible assumption | omega, by first | with_reducible rfl | with_reducible assumption | omega, (VlV.le hv_a17 (by first | with_reducible rfl | with_reducible assumption | omega) (Int.le_refl _) (Int.le_refl _) (by first | with_reducible rfl | with_reducible assumption | omega)), (Or.inr (RwV.le hrw_v80 (by first | with_reducible rfl | with_reducible assumption | omega) (by first | with_reducible rfl | with_reducible assumption | omega) (Int.le_refl _) (by first | with_reducible rfl | with_reducible assumption | omega))), by first | with_reducible rfl | with_reducible assumption | omega, by first | with_reducible rfl | with_reducible assumption | omega, by first | with_reducible rfl | with_reducible assumption | omega⟩) (show FsI (tf 6).toInt (pf75 13).toInt na96 from (FsI.le hfs (by first | with_reducible rfl | with_reducible assumption | omega))) (show (tf 6).toInt - (pf75 11).toInt < (n_33 : Int) from by first | exact oz_84bedd6ffc hm e81 | omega) hw (lv_sub hl [2, 3, 0] rfl)
          · have nc35 : ¬ v32.toInt = (0 : Int) := mt (i_eq (x := v32) (y := 0)).mpr c35
            refine lv_aload_n S.x S.b d_Mpg_switching_102 rfl (lv_at hl 1 rfl) ?_
            refine lv_bipush (v := 30) S.x S.b d_Mpg_switching_103 (by decide) ?_
            refine lv_aload_n S.x S.b d_Mpg_switching_105 rfl (lv_at hl 1 rfl) ?_
            refine px_get S k_Mpg hT hw 0 0 11 (v := .int (pf_33 11)) rfl rfl rfl (by decide) m9_235 d_Mpg_switching_106 ?_
            refine px_calli (pr := []) (px_runV (As := [.int 30, .int (pf_33 11)]) (rest := []) S (c_mp_make l D cs h r g tf ta wa_33 cf ca ef ea xf xa pf_33 na_33 ma_33 30 (pf_33 11)  (show 0 ≤ (pf_33 13).toInt from by first | exact oz_36c2aaaab5 k33_8 g5 k33_7 | omega) (show (pf_33 13).toInt < 2100 from by first | exact oz_50fbb05cd2 k33_9 g6 k33_6 g2 | omega) _) hT (pr := []) (pcs := [wdP cs h r g tf ta pf_33 na_33 ma_33 wa_33 cf ca ef ea xf xa]) hw px_X.tt (px_recv hT hw 0 0 rfl rfl rfl) m11_209 m11_206 m11_208 ms_8_12 m1_21 q_Mpg_make ⟨show 0 + 1 ≤ (8 * lv + 26) from by first | with_reducible rfl | with_reducible assumption | omega, show 8 + (3 + 11) + 0 ≤ (220 * lv + 1200) from by first | with_reducible rfl | with_reducible assumption | omega⟩ hl.1 rfl (Nat.le_of_ble_eq_true rfl) d_Mpg_switching_109 ⟨Nat.le_of_ble_eq_true rfl, Nat.le_of_ble_eq_true rfl⟩) hw hA (fun v108 p107 H locs hp107 hw => ?_)
            obtain ⟨pf104, na105, ma106, rfl, e109, e110, e111, e112, e113, e114, e115, e116⟩ := hp107
            have e109 : v108.toInt = (pf_33 13).toInt := e109
            have e110 : (pf104 13).toInt = (pf_33 13).toInt + 1 := e110
            have e111 : (pf104 11).toInt = (pf_33 11).toInt := e111
            have e112 : (pf104 12).toInt = (pf_33 12).toInt := e112
            have e113 : (pf104 24).toInt = (pf_33 24).toInt := e113
            have e114 : (pf104 25).toInt = (pf_33 25).toInt := e114
            have e115 : (pf104 26).toInt = (pf_33 26).toInt := e115
            have e116 : MkN na_33 ma_33 na105 ma106 v108 (30 : Int32) (pf_33 11) := e116
            obtain ⟨qb1171, qb1172, qb1173, qb1174⟩ := tk_eq (ta := ta) (x := (pf104 11)) (y := (pf_33 11)) (by first | with_reducible rfl | with_reducible assumption | omega)
            have hmk_v108 := e116
            have hfm_v108 := MkN.frb (b := v108.toInt) hmk_v108 (by first | with_reducible rfl | with_reducible assumption | omega) (by first | with_reducible rfl | with_reducible assumption | omega)
            have hf_14_x33_1 := (fb_n hfm_v108 (by first | with_reducible rfl | with_reducible assumption | omega) (by first | with_reducible rfl | with_reducible assumption | omega)).trans hf_14_x33_1
            have hf_15_x33_1 := (fb_n hfm_v108 (by first | with_reducible rfl | with_reducible assumption | omega) (by first | with_reducible rfl | with_reducible assumption | omega)).trans hf_15_x33_1
            have hf_21_x33_1 := (fb_n hfm_v108 (by first | with_reducible rfl | with_reducible assumption | omega) (by first | with_reducible rfl | with_reducible assumption | omega)).trans hf_21_x33_1
            have hf_17_x33_1 := (fb_n hfm_v108 (by first | with_reducible rfl | with_reducible assumption | omega) (by first | with_reducible rfl | with_reducible assumption | omega)).trans hf_17_x33_1
            have hf_18_x33_1 := (fb_m hfm_v108 (by first | with_reducible rfl | with_reducible assumption | omega) (by first | with_reducible rfl | with_reducible assumption | omega)).trans hf_18_x33_1
            have hv_a17 := hv_a17.ag fe_ok (FrB.ag hfm_v108 (by first | with_reducible rfl | with_reducible assumption | omega))
            have hz_x33_2 := hz_x33_2.ag fs_ok (FrB.ag hfm_v108 (by first | with_reducible rfl | with_reducible assumption | omega))
            have hfs := FsI.mk hfs hmk_v108 (by first | with_reducible rfl | with_reducible assumption | omega) (by first | with_reducible rfl | with_reducible assumption | omega) (by first | with_reducible rfl | with_reducible assumption | omega) (by first | with_reducible rfl | with_reducible assumption | omega)
            have hfb := hfb.tr hfm_v108 (by first | with_reducible rfl | with_reducible assumption | omega)
            have hf_14_v108 := hmk_v108.2.1 (by decide) (by decide)
            have hf_15_v108 := hmk_v108.2.2.1
            have hf_17_v108 := hmk_v108.2.2.2.2.1
            have hf_18_v108 := hmk_v108.2.2.2.2.2.1
            have hf_21_v108 := hmk_v108.2.2.2.2.2.2.2.2.1
            clear hmk_v108 hfm_v108
            have hw : pw D A s.heap H locs [wdP cs h r g tf ta pf104 na105 ma106 wa_33 cf ca ef ea xf xa] := hw
            have lv108 := Int32.le_toInt v108
            have uv108 := Int32.toInt_lt v108
            refine lv_istore_n (lv' := [(3, .int v108), (0, .ref h), (1, .int x33_1), (2, .int x33_2)]) S.x S.b d_Mpg_switching_112 rfl hl (by decide) rfl (fun ls hl => ?_)
            refine lv_aload_n S.x S.b d_Mpg_switching_113 rfl (lv_at hl 1 rfl) ?_
            refine lv_dup S.x S.b d_Mpg_switching_114 rfl ?_
            refine px_get S k_Mpg hT hw 0 0 11 (v := .int (pf104 11)) rfl rfl rfl (by decide) m9_235 d_Mpg_switching_115 ?_
            refine lv_iconst (v := 1) S.x S.b d_Mpg_switching_118 (by decide) ?_
            refine lv_iadd S.x S.b d_Mpg_switching_119 ?_
            have lr118 := Int32.le_toInt (pf104 11)
            have ur118 := Int32.toInt_lt (pf104 11)
            refine lv_topi (fun z119 ez119 => ?_)
            have tz119 : z119.toInt = ((pf104 11).toInt + (1 : Int) + 2147483648) % 4294967296 - 2147483648 := by rw [ez119]; exact i_add (pf104 11) 1
            have lz119 := Int32.le_toInt z119
            have uz119 := Int32.toInt_lt z119
            try replace tz119 : z119.toInt = (pf104 11).toInt + (1 : Int) := by omega
            have hnx119 := tk_n htk (x := (pf104 11)) (y := z119) (by first | with_reducible rfl | with_reducible assumption | omega) (by first | with_reducible rfl | with_reducible assumption | omega) (by first | with_reducible rfl | with_reducible assumption | omega)
            refine px_put S k_Mpg hT hw 0 0 11 rfl rfl (by decide) m9_235 rfl rfl rfl (Nat.le_of_ble_eq_true rfl) d_Mpg_switching_120 (w' := wdP cs h r g tf ta (upd pf104 11 z119) na105 ma106 wa_33 cf ca ef ea xf xa) (ps' := [wdP cs h r g tf ta (upd pf104 11 z119) na105 ma106 wa_33 cf ca ef ea xf xa]) rfl rfl (fun H locs hw => ?_)
            refine lv_aload_n S.x S.b d_Mpg_switching_123 rfl (lv_at hl 1 rfl) ?_
            obtain ⟨sk120, hRsk120, st121, sb122, hSsk120⟩ := oP_lit hP (k := 103) (tx := ":") (n := 1) (List.mem_of_getElem? (i := 43) rfl)
            refine va_ldcS S.x S.b S.own hRsk120 d_Mpg_switching_124 ?_
            refine th_callv (ps0 := [wdP cs h r g tf ta pf na ma wa cf ca ef ea xf xa]) (pr := []) (pcs := [wdP cs h r g tf ta (upd pf104 11 z119) na105 ma106 wa_33 cf ca ef ea xf xa]) (As := [.ref sk120]) (rest := []) (c_mp_take l D cs sk120 1 h r g tf ta na105 ma106 wa_33 cf ca ef ea xf xa (upd pf104 11 z119)   (show 0 ≤ z119.toInt from by first | exact oz_ffb5f7237d tz119 e111 k33_5 g0 | omega) (show z119.toInt < (tf 6).toInt from by first | with_reducible rfl | with_reducible assumption | omega) (show (tf 6).toInt ≤ 2049 from by first | exact g2 | omega) (show 1 ≤ 100 from by first | decide | omega) hlf htk) S hT hw (oX_call (P := (fun A U H => (oN A U H) ∧ (oP A g U H) ∧ (StS A sk120 1 U H))) (pr := []) (oG_and oG_N (oG_and oG_P oG_Q)) hw hA ⟨hN, hP, ⟨_, _, hSsk120⟩⟩) (px_recv hT hw 0 0 rfl rfl rfl) m12_57 m12_54 m12_56 ms_9_15 m1_21 q_Mpg_take ⟨show 7 + 1 ≤ (8 * lv + 26) from by first | with_reducible rfl | with_reducible assumption | omega, show 8 + (2 + 11) + 230 ≤ (220 * lv + 1200) from by first | with_reducible rfl | with_reducible assumption | omega⟩ hl.1 rfl (Nat.le_of_ble_eq_true rfl) d_Mpg_switching_126 ⟨Nat.le_of_ble_eq_true rfl, Nat.le_of_ble_eq_true rfl⟩ hne hlk hA hAe (fun o t h => Or.inr h) ?_ (fun p125 H locs hp125 hw => ?_)
            · exact fun p1 H1 locs1 hp hw => by obtain ⟨pq1, pq2, pq3, pq4, rfl, hq1, hq2⟩ := hp; exact ⟨_, ⟨pq1, pq2, pq3, pq4, rfl, hq1, hq2⟩, hw⟩
            obtain ⟨pf124, rfl, e127, e128, e129, e130, e131, e132, e133, e134⟩ := hp125
            have e127 : (pf124 11).toInt = z119.toInt + 1 := e127
            have e128 : (pf124 11).toInt < (tf 6).toInt := e128
            have e129 : bp ta z119 + 1 ≤ bp ta (pf124 11) := e129
            have e130 : (pf124 12).toInt = (pf104 12).toInt := e130
            have e131 : (pf124 13).toInt = (pf104 13).toInt := e131
            have e132 : (pf124 24).toInt = (pf104 24).toInt := e132
            have e133 : (pf124 25).toInt = (pf104 25).toInt := e133
            have e134 : (pf124 26).toInt = (pf104 26).toInt := e134
            have hw : pw D A s.heap H locs [wdP cs h r g tf ta pf124 na105 ma106 wa_33 cf ca ef ea xf xa] := hw
            refine lv_goto (tgt := 150) S.x S.b d_Mpg_switching_129 (by decide) ?_
            refine lv_aload_n S.x S.b d_Mpg_switching_150 rfl (lv_at hl 1 rfl) ?_
            have hv_v108 : VlS ta (tf 6).toInt na105 ma106 v108 v108.toInt (pf124 13).toInt _ _ := st_default (hi := (pf124 13).toInt) (D := 130) ⟨by first | with_reducible rfl | with_reducible assumption | omega, hf_14_v108, hf_15_v108, ⟨by first | with_reducible rfl | with_reducible assumption | omega, by first | with_reducible rfl | with_reducible assumption | omega⟩, hf_21_v108⟩ (by first | with_reducible rfl | with_reducible assumption | omega) (by first | with_reducible rfl | with_reducible assumption | omega); have hn_hv_v108 := hv_v108.num fs_ok
            refine px_get S k_Mpg hT hw 0 0 18 (v := .ref (r 18)) rfl rfl rfl (by decide) m10_3 d_Mpg_switching_151 ?_
            refine lv_iload_n S.x S.b d_Mpg_switching_154 rfl (lv_at hl 2 rfl) ?_
            refine lv_aload_n S.x S.b d_Mpg_switching_155 rfl (lv_at hl 1 rfl) ?_
            refine lv_aload_n S.x S.b d_Mpg_switching_156 rfl (lv_at hl 1 rfl) ?_
            refine px_get S k_Mpg hT hw 0 0 18 (v := .ref (r 18)) rfl rfl rfl (by decide) m10_3 d_Mpg_switching_157 ?_
            refine lv_iload_n S.x S.b d_Mpg_switching_160 rfl (lv_at hl 2 rfl) ?_
            refine px_iald S hT hw 0 14 (n := 2100) (f := (ma106 18)) rfl gp_18 (x := x33_1) (vp_in_iff.mpr (by first | exact oz_76c30dab77 k33_7 g5 g6 k33_5 k33_6 g2 | (constructor <;> omega))) d_Mpg_switching_161 ?_
            refine lv_topi (fun z135 ez135 => ?_)
            have lz135 := Int32.le_toInt z135
            have uz135 := Int32.toInt_lt z135
            have hsz135 : b18 = z135 := (ez135.trans hf_18_x33_1).symm; subst hsz135
            refine lv_iload_n S.x S.b d_Mpg_switching_162 rfl (lv_at hl 3 rfl) ?_
            refine lv_iload_n S.x S.b d_Mpg_switching_163 rfl (lv_at hl 0 rfl) ?_
            refine px_calli (pr := []) (px_runV (As := [.int b18, .int x33_2, .int v108]) (rest := [.int x33_1, .ref (r 18)]) S (c_mp_hang l D cs h r g tf ta pf124 ma106 wa_33 cf ca ef ea xf xa na105 b18 x33_2 v108  (show x33_2.toInt < 2100 from by first | exact oz_1b5264ebed k33_12 k33_9 g6 k33_6 g2 | omega) htk _) hT (pr := []) (pcs := [wdP cs h r g tf ta pf124 na105 ma106 wa_33 cf ca ef ea xf xa]) hw px_X.tt (px_recv hT hw 0 0 rfl rfl rfl) m12_77 m12_74 m12_76 ms_10_4 m1_21 q_Mpg_hang ⟨show 0 + 1 ≤ (8 * lv + 26) from by first | with_reducible rfl | with_reducible assumption | omega, show 8 + (4 + 11) + 0 ≤ (220 * lv + 1200) from by first | with_reducible rfl | with_reducible assumption | omega⟩ hl.1 rfl (Nat.le_of_ble_eq_true rfl) d_Mpg_switching_164 ⟨Nat.le_of_ble_eq_true rfl, Nat.le_of_ble_eq_true rfl⟩) hw hA (fun v139 p138 H locs hp138 hw => ?_)
            obtain ⟨na137, rfl, e140⟩ := hp138
            have e140 : Hg na105 na137 b18 x33_2 v108 v139 := e140
            have hf_14_x33_1 := (Hg.fld e140 (by first | with_reducible rfl | with_reducible assumption | omega) (by first | with_reducible rfl | with_reducible assumption | omega)).trans hf_14_x33_1
            have hf_15_x33_1 := (Hg.fld e140 (by first | with_reducible rfl | with_reducible assumption | omega) (by first | with_reducible rfl | with_reducible assumption | omega)).trans hf_15_x33_1
            have hf_21_x33_1 := (Hg.fld e140 (by first | with_reducible rfl | with_reducible assumption | omega) (by first | with_reducible rfl | with_reducible assumption | omega)).trans hf_21_x33_1
            have hf_17_x33_1 := (Hg.fld e140 (by first | with_reducible rfl | with_reducible assumption | omega) (by first | with_reducible rfl | with_reducible assumption | omega)).trans hf_17_x33_1
            have hrw_v108 := Hg.row e140 fs_ok hz_x33_2 (VlV.le hv_v108 (by first | with_reducible rfl | with_reducible assumption | omega) (Int.le_refl _) (Int.le_refl _) (by first | with_reducible rfl | with_reducible assumption | omega)) (by first | with_reducible rfl | with_reducible assumption | omega) (by first | with_reducible rfl | with_reducible assumption | omega)
            have hn_hrw_v108 := hrw_v108.num
            have hv_a17 := hv_a17.ag fe_ok (Hg.ag e140 (by first | with_reducible rfl | with_reducible assumption | omega))
            have hfb := Hg.fb e140 hfb (by first | with_reducible rfl | with_reducible assumption | omega)
            have hfs := FsI.hg hfs e140
            have hw : pw D A s.heap H locs [wdP cs h r g tf ta pf124 na137 ma106 wa_33 cf ca ef ea xf xa] := hw
            have lv139 := Int32.le_toInt v139
            have uv139 := Int32.toInt_lt v139
            refine px_iast S hT hw 0 14 (n := 2100) (f := (ma106 18)) (x := x33_1) (y := v139) rfl gp_18 (vp_in_iff.mpr (by constructor <;> omega)) d_Mpg_switching_167 (w' := wdP cs h r g tf ta pf124 na137 (va_up ma106 18 (upd (ma106 18) x33_1.toNatClampNeg v139)) wa_33 cf ca ef ea xf xa) (ps' := [wdP cs h r g tf ta pf124 na137 (va_up ma106 18 (upd (ma106 18) x33_1.toNatClampNeg v139)) wa_33 cf ca ef ea xf xa]) sp_18 rfl (fun H locs hw => ?_)
            obtain ⟨ma141, hu_ma141⟩ : ∃ y : Nat → Nat → Int32, y = va_up ma106 18 (upd (ma106 18) x33_1.toNatClampNeg v139) := ⟨_, rfl⟩
            have hw : pw D A s.heap _ _ [wdP cs h r g tf ta pf124 na137 ma141 wa_33 cf ca ef ea xf xa] := (by rw [hu_ma141]; exact hw)
            have hv_a17 := hv_a17.ag fe_ok (ag_m hu_ma141 (by first | with_reducible rfl | with_reducible assumption | omega) (by first | with_reducible rfl | with_reducible assumption | omega))
            have hrw_v108 := hrw_v108.ag fs_ok (ag_m hu_ma141 (by first | with_reducible rfl | with_reducible assumption | omega) (by first | with_reducible rfl | with_reducible assumption | omega))
            have hf_18_x33_1 : ma141 18 x33_1.toNatClampNeg = v139 := (by rw [hu_ma141, va_up_s, pk_us])
            have hfb : FrB (pf 13).toInt na ma na137 ma141 := (by rw [hu_ma141]; exact FrB.um hfb (by first | with_reducible rfl | with_reducible assumption | omega) (by first | with_reducible rfl | with_reducible assumption | omega))
            refine lv_iload_n S.x S.b d_Mpg_switching_168 rfl (lv_at hl 0 rfl) ?_
            refine lv_istore_n (lv' := [(2, .int v108), (3, .int v108), (0, .ref h), (1, .int x33_1)]) S.x S.b d_Mpg_switching_169 rfl hl (by decide) rfl (fun ls hl => ?_)
            refine lv_goto (tgt := 33) S.x S.b d_Mpg_switching_170 (by decide) ?_
            exact ih33 pf124 na137 ma141 wa_33 x33_1 v108 _ _ ls (show (pf124 24).toInt = (pf 24).toInt from by first | exact oz_e13fc83238 k33_0 e132 e113 | omega) (show (pf124 25).toInt = (pf 25).toInt from by first | exact oz_e13fc83238 k33_1 e133 e114 | omega) (show (pf124 26).toInt = (pf 26).toInt from by first | exact oz_e13fc83238 k33_2 e134 e115 | omega) (show (pf124 12).toInt = (pf 12).toInt + 2 from by first | exact oz_4fb0b9a079 k33_3 e130 e112 | omega) (show (pf124 12).toInt ≤ 60 from by first | exact oz_d791cd839d e130 e112 k33_4 | omega) (show (pf 11).toInt + 2 ≤ (pf124 11).toInt from by first | exact oz_1b7dd3e4ae k33_5 e127 e111 tz119 | omega) (show (pf124 11).toInt < (tf 6).toInt from by first | exact e128 | omega) (show x33_1.toInt = (pf 13).toInt from by first | exact k33_7 | omega) (show x33_1.toInt < (pf124 13).toInt from by first | exact oz_7f3387d82f k33_8 e131 e110 | omega) (show (pf124 13).toInt - (pf 13).toInt ≤ (pf124 11).toInt - (pf 11).toInt from by first | exact oz_48901975ad k33_9 e127 e131 e110 e111 tz119 | omega) (show bp ta (pf 11) + 2 ≤ bp ta (pf124 11) from by first | with_reducible rfl | with_reducible assumption | omega) (show v108.toInt = -1 ∨ x33_1.toInt + 1 ≤ v108.toInt from by first | with_reducible rfl | with_reducible assumption | omega) (show v108.toInt < (pf124 13).toInt from by first | exact oz_c94e31fc97 e109 e131 e110 | omega) (show FrB (pf 13).toInt na ma na137 ma141 from hfb) (show FrW (pf 26).toInt wa wa_33 from hfw) (show NdF (tf 6).toInt na137 x33_1 28 (pf 11) from ⟨by first | with_reducible rfl | with_reducible assumption | omega, hf_14_x33_1, hf_15_x33_1, ⟨by first | with_reducible rfl | with_reducible assumption | omega, by first | with_reducible rfl | with_reducible assumption | omega⟩, hf_21_x33_1⟩) (show SwV ta (tf 6).toInt na137 ma141 x33_1 v108 (pf124 13).toInt (3 * (bp ta (pf124 11) - bp ta (pf 11)) - 3) (198 - (pf 12).toInt) from ⟨_, _, _, _, _, hf_17_x33_1, hf_18_x33_1, by first | with_reducible rfl | with_reducible assumption | omega, by first | with_reducible rfl | with_reducible assumption | omega, (VlV.le hv_a17 (by first | with_reducible rfl | with_reducible assumption | omega) (Int.le_refl _) (Int.le_refl _) (by first | with_reducible rfl | with_reducible assumption | omega)), (Or.inr (RwV.le hrw_v108 (by first | with_reducible rfl | with_reducible assumption | omega) (by first | with_reducible rfl | with_reducible assumption | omega) (Int.le_refl _) (by first | with_reducible rfl | with_reducible assumption | omega))), by first | with_reducible rfl | with_reducible assumption | omega, by first | with_reducible rfl | with_reducible assumption | omega, by first | with_reducible rfl | with_reducible assumption | omega⟩) (show FsI (tf 6).toInt (pf124 13).toInt na137 from (FsI.le hfs (by first | with_reducible rfl | with_reducible assumption | omega))) (show (tf 6).toInt - (pf124 11).toInt < (n_33 : Int) from by first | exact oz_598f97ecb5 hm e127 e111 tz119 | omega) hw (lv_sub hl [2, 3, 0] rfl)
        · have nc30 : ¬ v27.toInt = (0 : Int) := mt (i_eq (x := v27) (y := 0)).mpr c30
          refine lv_aload_n S.x S.b d_Mpg_switching_53 rfl (lv_at hl 1 rfl) ?_
          refine lv_bipush (v := 29) S.x S.b d_Mpg_switching_54 (by decide) ?_
          refine lv_aload_n S.x S.b d_Mpg_switching_56 rfl (lv_at hl 1 rfl) ?_
          refine px_get S k_Mpg hT hw 0 0 11 (v := .int (pf_33 11)) rfl rfl rfl (by decide) m9_235 d_Mpg_switching_57 ?_
          refine px_calli (pr := []) (px_runV (As := [.int 29, .int (pf_33 11)]) (rest := []) S (c_mp_make l D cs h r g tf ta wa_33 cf ca ef ea xf xa pf_33 na_33 ma_33 29 (pf_33 11)  (show 0 ≤ (pf_33 13).toInt from by first | exact oz_36c2aaaab5 k33_8 g5 k33_7 | omega) (show (pf_33 13).toInt < 2100 from by first | exact oz_50fbb05cd2 k33_9 g6 k33_6 g2 | omega) _) hT (pr := []) (pcs := [wdP cs h r g tf ta pf_33 na_33 ma_33 wa_33 cf ca ef ea xf xa]) hw px_X.tt (px_recv hT hw 0 0 rfl rfl rfl) m11_209 m11_206 m11_208 ms_8_12 m1_21 q_Mpg_make ⟨show 0 + 1 ≤ (8 * lv + 26) from by first | with_reducible rfl | with_reducible assumption | omega, show 8 + (3 + 11) + 0 ≤ (220 * lv + 1200) from by first | with_reducible rfl | with_reducible assumption | omega⟩ hl.1 rfl (Nat.le_of_ble_eq_true rfl) d_Mpg_switching_60 ⟨Nat.le_of_ble_eq_true rfl, Nat.le_of_ble_eq_true rfl⟩) hw hA (fun v149 p148 H locs hp148 hw => ?_)
          obtain ⟨pf145, na146, ma147, rfl, e150, e151, e152, e153, e154, e155, e156, e157⟩ := hp148
          have e150 : v149.toInt = (pf_33 13).toInt := e150
          have e151 : (pf145 13).toInt = (pf_33 13).toInt + 1 := e151
          have e152 : (pf145 11).toInt = (pf_33 11).toInt := e152
          have e153 : (pf145 12).toInt = (pf_33 12).toInt := e153
          have e154 : (pf145 24).toInt = (pf_33 24).toInt := e154
          have e155 : (pf145 25).toInt = (pf_33 25).toInt := e155
          have e156 : (pf145 26).toInt = (pf_33 26).toInt := e156
          have e157 : MkN na_33 ma_33 na146 ma147 v149 (29 : Int32) (pf_33 11) := e157
          obtain ⟨qb1581, qb1582, qb1583, qb1584⟩ := tk_eq (ta := ta) (x := (pf145 11)) (y := (pf_33 11)) (by first | with_reducible rfl | with_reducible assumption | omega)
          have hmk_v149 := e157
          have hfm_v149 := MkN.frb (b := v149.toInt) hmk_v149 (by first | with_reducible rfl | with_reducible assumption | omega) (by first | with_reducible rfl | with_reducible assumption | omega)
          have hf_14_x33_1 := (fb_n hfm_v149 (by first | with_reducible rfl | with_reducible assumption | omega) (by first | with_reducible rfl | with_reducible assumption | omega)).trans hf_14_x33_1
          have hf_15_x33_1 := (fb_n hfm_v149 (by first | with_reducible rfl | with_reducible assumption | omega) (by first | with_reducible rfl | with_reducible assumption | omega)).trans hf_15_x33_1
          have hf_21_x33_1 := (fb_n hfm_v149 (by first | with_reducible rfl | with_reducible assumption | omega) (by first | with_reducible rfl | with_reducible assumption | omega)).trans hf_21_x33_1
          have hf_17_x33_1 := (fb_n hfm_v149 (by first | with_reducible rfl | with_reducible assumption | omega) (by first | with_reducible rfl | with_reducible assumption | omega)).trans hf_17_x33_1
          have hf_18_x33_1 := (fb_m hfm_v149 (by first | with_reducible rfl | with_reducible assumption | omega) (by first | with_reducible rfl | with_reducible assumption | omega)).trans hf_18_x33_1
          have hv_a17 := hv_a17.ag fe_ok (FrB.ag hfm_v149 (by first | with_reducible rfl | with_reducible assumption | omega))
          have hz_x33_2 := hz_x33_2.ag fs_ok (FrB.ag hfm_v149 (by first | with_reducible rfl | with_reducible assumption | omega))
          have hfs := FsI.mk hfs hmk_v149 (by first | with_reducible rfl | with_reducible assumption | omega) (by first | with_reducible rfl | with_reducible assumption | omega) (by first | with_reducible rfl | with_reducible assumption | omega) (by first | with_reducible rfl | with_reducible assumption | omega)
          have hfb := hfb.tr hfm_v149 (by first | with_reducible rfl | with_reducible assumption | omega)
          have hf_14_v149 := hmk_v149.2.1 (by decide) (by decide)
          have hf_15_v149 := hmk_v149.2.2.1
          have hf_17_v149 := hmk_v149.2.2.2.2.1
          have hf_18_v149 := hmk_v149.2.2.2.2.2.1
          have hf_21_v149 := hmk_v149.2.2.2.2.2.2.2.2.1
          clear hmk_v149 hfm_v149
          have hw : pw D A s.heap H locs [wdP cs h r g tf ta pf145 na146 ma147 wa_33 cf ca ef ea xf xa] := hw
          have lv149 := Int32.le_toInt v149
          have uv149 := Int32.toInt_lt v149
          refine lv_istore_n (lv' := [(3, .int v149), (0, .ref h), (1, .int x33_1), (2, .int x33_2)]) S.x S.b d_Mpg_switching_63 rfl hl (by decide) rfl (fun ls hl => ?_)
          refine lv_aload_n S.x S.b d_Mpg_switching_64 rfl (lv_at hl 1 rfl) ?_
          refine lv_dup S.x S.b d_Mpg_switching_65 rfl ?_
          refine px_get S k_Mpg hT hw 0 0 11 (v := .int (pf145 11)) rfl rfl rfl (by decide) m9_235 d_Mpg_switching_66 ?_
          refine lv_iconst (v := 1) S.x S.b d_Mpg_switching_69 (by decide) ?_
          refine lv_iadd S.x S.b d_Mpg_switching_70 ?_
          have lr159 := Int32.le_toInt (pf145 11)
          have ur159 := Int32.toInt_lt (pf145 11)
          refine lv_topi (fun z160 ez160 => ?_)
          have tz160 : z160.toInt = ((pf145 11).toInt + (1 : Int) + 2147483648) % 4294967296 - 2147483648 := by rw [ez160]; exact i_add (pf145 11) 1
          have lz160 := Int32.le_toInt z160
          have uz160 := Int32.toInt_lt z160
          try replace tz160 : z160.toInt = (pf145 11).toInt + (1 : Int) := by omega
          have hnx70 := tk_n htk (x := (pf145 11)) (y := z160) (by first | with_reducible rfl | with_reducible assumption | omega) (by first | with_reducible rfl | with_reducible assumption | omega) (by first | with_reducible rfl | with_reducible assumption | omega)
          refine px_put S k_Mpg hT hw 0 0 11 rfl rfl (by decide) m9_235 rfl rfl rfl (Nat.le_of_ble_eq_true rfl) d_Mpg_switching_71 (w' := wdP cs h r g tf ta (upd pf145 11 z160) na146 ma147 wa_33 cf ca ef ea xf xa) (ps' := [wdP cs h r g tf ta (upd pf145 11 z160) na146 ma147 wa_33 cf ca ef ea xf xa]) rfl rfl (fun H locs hw => ?_)
          refine lv_aload_n S.x S.b d_Mpg_switching_74 rfl (lv_at hl 1 rfl) ?_
          refine px_get S k_Mpg hT hw 0 0 17 (v := .ref (r 17)) rfl rfl rfl (by decide) m10_1 d_Mpg_switching_75 ?_
          refine lv_iload_n S.x S.b d_Mpg_switching_78 rfl (lv_at hl 0 rfl) ?_
          refine lv_aload_n S.x S.b d_Mpg_switching_79 rfl (lv_at hl 1 rfl) ?_
          refine th_calli (ps0 := [wdP cs h r g tf ta pf na ma wa cf ca ef ea xf xa]) (pr := []) (pcs := [wdP cs h r g tf ta (upd pf145 11 z160) na146 ma147 wa_33 cf ca ef ea xf xa]) (As := []) (rest := [.int v149, .ref (r 17)]) (c_mp_constant l D cs h r g tf ta cf ca ef ea xf xa (upd pf145 11 z160) na146 ma147 wa_33  lv (show 0 ≤ z160.toInt from by first | exact oz_ffb5f7237d tz160 e152 k33_5 g0 | omega) (show z160.toInt < (tf 6).toInt from by first | with_reducible rfl | with_reducible assumption | omega) (show (tf 6).toInt ≤ 2049 from by first | exact g2 | omega) (show 0 ≤ (pf145 12).toInt from by first | exact oz_fb3ccc32d0 e153 k33_3 g8 g7 | omega) (show (pf145 12).toInt ≤ 60 from by first | exact oz_a3db38fa3c e153 k33_4 | omega) (show 0 ≤ (pf145 13).toInt from by first | exact oz_a454ae152d e151 k33_8 g5 k33_7 | omega) (show (pf145 13).toInt ≤ z160.toInt + 10 from by first | exact oz_9d54c0695a e151 tz160 k33_9 e152 g6 | omega) (show 0 ≤ (pf145 26).toInt from by first | exact oz_e2fef14871 e156 k33_2 g7 | omega) (show (pf145 26).toInt ≤ (pf145 12).toInt from by first | exact oz_c2bcecd9e0 e153 e156 k33_2 k33_3 g8 | omega) (show 61 ≤ (pf145 12).toInt + (lv : Int) from by first | exact oz_0124fbd43e g9 e153 k33_3 | omega) (show lv ≤ 61 from by first | exact g10 | omega) hlf htk (FsI.le (N' := (pf145 13).toInt) hfs (by first | with_reducible rfl | with_reducible assumption | omega))) S hT hw (oX_call (P := (fun A U H => (oN A U H) ∧ (oP A g U H))) (pr := []) (oG_and oG_N oG_P) hw hA ⟨hN, hP⟩) (px_recv hT hw 0 0 rfl rfl rfl) m12_10 m12_7 m12_9 ms_9_4 m1_21 q_Mpg_constant ⟨show (8 * lv + 21) + 1 ≤ (8 * lv + 26) from by first | with_reducible rfl | with_reducible assumption | omega, show 8 + (2 + 11) + (220 * lv + 720) ≤ (220 * lv + 1200) from by first | with_reducible rfl | with_reducible assumption | omega⟩ hl.1 rfl (Nat.le_of_ble_eq_true rfl) d_Mpg_switching_80 ⟨Nat.le_of_ble_eq_true rfl, Nat.le_of_ble_eq_true rfl⟩ hne hlk hA hAe (fun o t h => Or.inr h) ?_ (fun v170 p169 H locs hp169 hw => ?_)
          · exact fun p1 H1 locs1 hp hw => by obtain ⟨pq1, pq2, pq3, pq4, rfl, hq1, hq2⟩ := hp; exact ⟨_, ⟨pq1, pq2, pq3, pq4, rfl, hq1, hq2⟩, hw⟩
          obtain ⟨pf165, na166, ma167, wa168, rfl, e171, e172, e173, e174, e175, e176, e177, e178, e179, e180, e181, e182, e183⟩ := hp169
          have e171 : z160.toInt + 1 ≤ (pf165 11).toInt := e171
          have e172 : (pf165 11).toInt < (tf 6).toInt := e172
          have e173 : (pf145 13).toInt + 1 ≤ (pf165 13).toInt := e173
          have e174 : (pf165 13).toInt - (pf145 13).toInt ≤ (pf165 11).toInt - z160.toInt := e174
          have e175 : bp ta z160 + 1 ≤ bp ta (pf165 11) := e175
          have e176 : (pf165 12).toInt = (pf145 12).toInt := e176
          have e177 : (pf165 24).toInt = (pf145 24).toInt := e177
          have e178 : (pf165 25).toInt = (pf145 25).toInt := e178
          have e179 : (pf165 26).toInt = (pf145 26).toInt := e179
          have e180 : FrB (pf145 13).toInt na146 ma147 na166 ma167 := e180
          have hf_14_x33_1 := (fb_n e180 (by first | with_reducible rfl | with_reducible assumption | omega) (by first | with_reducible rfl | with_reducible assumption | omega)).trans hf_14_x33_1
          have hf_15_x33_1 := (fb_n e180 (by first | with_reducible rfl | with_reducible assumption | omega) (by first | with_reducible rfl | with_reducible assumption | omega)).trans hf_15_x33_1
          have hf_21_x33_1 := (fb_n e180 (by first | with_reducible rfl | with_reducible assumption | omega) (by first | with_reducible rfl | with_reducible assumption | omega)).trans hf_21_x33_1
          have hf_17_x33_1 := (fb_n e180 (by first | with_reducible rfl | with_reducible assumption | omega) (by first | with_reducible rfl | with_reducible assumption | omega)).trans hf_17_x33_1
          have hf_18_x33_1 := (fb_m e180 (by first | with_reducible rfl | with_reducible assumption | omega) (by first | with_reducible rfl | with_reducible assumption | omega)).trans hf_18_x33_1
          have hf_14_v149 := (fb_n e180 (by first | with_reducible rfl | with_reducible assumption | omega) (by first | with_reducible rfl | with_reducible assumption | omega)).trans hf_14_v149
          have hf_15_v149 := (fb_n e180 (by first | with_reducible rfl | with_reducible assumption | omega) (by first | with_reducible rfl | with_reducible assumption | omega)).trans hf_15_v149
          have hf_17_v149 := (fb_n e180 (by first | with_reducible rfl | with_reducible assumption | omega) (by first | with_reducible rfl | with_reducible assumption | omega)).trans hf_17_v149
          have hf_18_v149 := (fb_m e180 (by first | with_reducible rfl | with_reducible assumption | omega) (by first | with_reducible rfl | with_reducible assumption | omega)).trans hf_18_v149
          have hf_21_v149 := (fb_n e180 (by first | with_reducible rfl | with_reducible assumption | omega) (by first | with_reducible rfl | with_reducible assumption | omega)).trans hf_21_v149
          have hv_a17 := hv_a17.ag fe_ok (FrB.ag e180 (by first | with_reducible rfl | with_reducible assumption | omega))
          have hz_x33_2 := hz_x33_2.ag fs_ok (FrB.ag e180 (by first | with_reducible rfl | with_reducible assumption | omega))
          have hfb := hfb.tr e180 (by first | with_reducible rfl | with_reducible assumption | omega)
          have e181 : FrW (pf145 26).toInt wa_33 wa168 := e181
          have hfw := hfw.tr e181 (by first | with_reducible rfl | with_reducible assumption | omega)
          have e182 : ExR ta (tf 6).toInt na166 ma167 v170 (pf145 13).toInt (pf165 13).toInt (3 * (bp ta (pf165 11) - bp ta z160)) (pf145 12).toInt := e182
          have ht_v170 := e182
          have hn_ht_v170 := ht_v170.num
          have e183 : FsI (tf 6).toInt (pf165 13).toInt na166 := e183
          have hfs := e183
          have hw : pw D A s.heap H locs [wdP cs h r g tf ta pf165 na166 ma167 wa168 cf ca ef ea xf xa] := hw
          have lv170 := Int32.le_toInt v170
          have uv170 := Int32.toInt_lt v170
          refine px_iast S hT hw 0 13 (n := 2100) (f := (na166 17)) (x := v149) (y := v170) rfl gp_17 (vp_in_iff.mpr (by constructor <;> omega)) d_Mpg_switching_83 (w' := wdP cs h r g tf ta pf165 (va_up na166 17 (upd (na166 17) v149.toNatClampNeg v170)) ma167 wa168 cf ca ef ea xf xa) (ps' := [wdP cs h r g tf ta pf165 (va_up na166 17 (upd (na166 17) v149.toNatClampNeg v170)) ma167 wa168 cf ca ef ea xf xa]) sp_17 rfl (fun H locs hw => ?_)
          obtain ⟨na184, hu_na184⟩ : ∃ y : Nat → Nat → Int32, y = va_up na166 17 (upd (na166 17) v149.toNatClampNeg v170) := ⟨_, rfl⟩
          have hw : pw D A s.heap _ _ [wdP cs h r g tf ta pf165 na184 ma167 wa168 cf ca ef ea xf xa] := (by rw [hu_na184]; exact hw)
          obtain ⟨ht_v170, hdq_v170⟩ := ht_v170.ag (ag_n hu_na184 (by first | with_reducible rfl | with_reducible assumption | omega) (by first | with_reducible rfl | with_reducible assumption | omega)) (by first | with_reducible rfl | with_reducible assumption | omega)
          have hn_ht_v170 := ht_v170.num
          have hv_a17 := hv_a17.ag fe_ok (ag_n hu_na184 (by first | with_reducible rfl | with_reducible assumption | omega) (by first | with_reducible rfl | with_reducible assumption | omega))
          have hz_x33_2 := hz_x33_2.ag fs_ok (ag_n hu_na184 (by first | with_reducible rfl | with_reducible assumption | omega) (by first | with_reducible rfl | with_reducible assumption | omega))
          have hf_14_x33_1 := (fl_n hu_na184 (by decide)).trans hf_14_x33_1
          have hf_15_x33_1 := (fl_n hu_na184 (by decide)).trans hf_15_x33_1
          have hf_21_x33_1 := (fl_n hu_na184 (by decide)).trans hf_21_x33_1
          have hf_17_x33_1 := (fl_f hu_na184 (by first | with_reducible rfl | with_reducible assumption | omega) (by first | with_reducible rfl | with_reducible assumption | omega) (by first | with_reducible rfl | with_reducible assumption | omega)).trans hf_17_x33_1
          have hf_14_v149 := (fl_n hu_na184 (by decide)).trans hf_14_v149
          have hf_15_v149 := (fl_n hu_na184 (by decide)).trans hf_15_v149
          have hf_21_v149 := (fl_n hu_na184 (by decide)).trans hf_21_v149
          have hf_17_v149 : na184 17 v149.toNatClampNeg = v170 := (by rw [hu_na184, va_up_s, pk_us])
          have hfs : FsI _ _ na184 := (by rw [hu_na184]; exact FsI.un hfs (by decide))
          have hfb : FrB (pf 13).toInt na ma na184 ma167 := (by rw [hu_na184]; exact FrB.un hfb (by first | with_reducible rfl | with_reducible assumption | omega) (by first | with_reducible rfl | with_reducible assumption | omega))
          refine lv_aload_n S.x S.b d_Mpg_switching_84 rfl (lv_at hl 1 rfl) ?_
          obtain ⟨sk185, hRsk185, st186, sb187, hSsk185⟩ := oP_lit hP (k := 103) (tx := ":") (n := 1) (List.mem_of_getElem? (i := 43) rfl)
          refine va_ldcS S.x S.b S.own hRsk185 d_Mpg_switching_85 ?_
          refine th_callv (ps0 := [wdP cs h r g tf ta pf na ma wa cf ca ef ea xf xa]) (pr := []) (pcs := [wdP cs h r g tf ta pf165 na184 ma167 wa168 cf ca ef ea xf xa]) (As := [.ref sk185]) (rest := []) (c_mp_take l D cs sk185 1 h r g tf ta na184 ma167 wa168 cf ca ef ea xf xa pf165   (show 0 ≤ (pf165 11).toInt from by first | exact oz_e5fce5812b e171 tz160 g0 k33_5 e152 | omega) (show (pf165 11).toInt < (tf 6).toInt from by first | exact e172 | omega) (show (tf 6).toInt ≤ 2049 from by first | exact g2 | omega) (show 1 ≤ 100 from by first | decide | omega) hlf htk) S hT hw (oX_call (P := (fun A U H => (oN A U H) ∧ (oP A g U H) ∧ (StS A sk185 1 U H))) (pr := []) (oG_and oG_N (oG_and oG_P oG_Q)) hw hA ⟨hN, hP, ⟨_, _, hSsk185⟩⟩) (px_recv hT hw 0 0 rfl rfl rfl) m12_57 m12_54 m12_56 ms_9_15 m1_21 q_Mpg_take ⟨show 7 + 1 ≤ (8 * lv + 26) from by first | with_reducible rfl | with_reducible assumption | omega, show 8 + (2 + 11) + 230 ≤ (220 * lv + 1200) from by first | with_reducible rfl | with_reducible assumption | omega⟩ hl.1 rfl (Nat.le_of_ble_eq_true rfl) d_Mpg_switching_87 ⟨Nat.le_of_ble_eq_true rfl, Nat.le_of_ble_eq_true rfl⟩ hne hlk hA hAe (fun o t h => Or.inr h) ?_ (fun p190 H locs hp190 hw => ?_)
          · exact fun p1 H1 locs1 hp hw => by obtain ⟨pq1, pq2, pq3, pq4, rfl, hq1, hq2⟩ := hp; exact ⟨_, ⟨pq1, pq2, pq3, pq4, rfl, hq1, hq2⟩, hw⟩
          obtain ⟨pf189, rfl, e192, e193, e194, e195, e196, e197, e198, e199⟩ := hp190
          have e192 : (pf189 11).toInt = (pf165 11).toInt + 1 := e192
          have e193 : (pf189 11).toInt < (tf 6).toInt := e193
          have e194 : bp ta (pf165 11) + 1 ≤ bp ta (pf189 11) := e194
          have e195 : (pf189 12).toInt = (pf165 12).toInt := e195
          have e196 : (pf189 13).toInt = (pf165 13).toInt := e196
          have e197 : (pf189 24).toInt = (pf165 24).toInt := e197
          have e198 : (pf189 25).toInt = (pf165 25).toInt := e198
          have e199 : (pf189 26).toInt = (pf165 26).toInt := e199
          have hw : pw D A s.heap H locs [wdP cs h r g tf ta pf189 na184 ma167 wa168 cf ca ef ea xf xa] := hw
          refine lv_goto (tgt := 150) S.x S.b d_Mpg_switching_90 (by decide) ?_
          refine lv_aload_n S.x S.b d_Mpg_switching_150 rfl (lv_at hl 1 rfl) ?_
          have hv_v149 : VlS ta (tf 6).toInt na184 ma167 v149 v149.toInt (pf189 13).toInt _ _ := st_case (hi := (pf189 13).toInt) (D := 130) ⟨by first | with_reducible rfl | with_reducible assumption | omega, hf_14_v149, hf_15_v149, ⟨by first | with_reducible rfl | with_reducible assumption | omega, by first | with_reducible rfl | with_reducible assumption | omega⟩, hf_21_v149⟩ hf_17_v149 (by first | with_reducible rfl | with_reducible assumption | omega) (lo := v149.toInt + 1) (VlV.le (exr_vl ht_v170 (by first | with_reducible rfl | with_reducible assumption | omega)) (by first | with_reducible rfl | with_reducible assumption | omega) (by first | with_reducible rfl | with_reducible assumption | omega) (Int.le_refl _) (by first | with_reducible rfl | with_reducible assumption | omega)) (by first | with_reducible rfl | with_reducible assumption | omega); have hn_hv_v149 := hv_v149.num fs_ok
          refine px_get S k_Mpg hT hw 0 0 18 (v := .ref (r 18)) rfl rfl rfl (by decide) m10_3 d_Mpg_switching_151 ?_
          refine lv_iload_n S.x S.b d_Mpg_switching_154 rfl (lv_at hl 2 rfl) ?_
          refine lv_aload_n S.x S.b d_Mpg_switching_155 rfl (lv_at hl 1 rfl) ?_
          refine lv_aload_n S.x S.b d_Mpg_switching_156 rfl (lv_at hl 1 rfl) ?_
          refine px_get S k_Mpg hT hw 0 0 18 (v := .ref (r 18)) rfl rfl rfl (by decide) m10_3 d_Mpg_switching_157 ?_
          refine lv_iload_n S.x S.b d_Mpg_switching_160 rfl (lv_at hl 2 rfl) ?_
          refine px_iald S hT hw 0 14 (n := 2100) (f := (ma167 18)) rfl gp_18 (x := x33_1) (vp_in_iff.mpr (by first | exact oz_42d356aa53 k33_7 g5 g6 k33_5 e152 g2 tz160 e171 e192 e193 | (constructor <;> omega))) d_Mpg_switching_161 ?_
          refine lv_topi (fun z200 ez200 => ?_)
          have lz200 := Int32.le_toInt z200
          have uz200 := Int32.toInt_lt z200
          have hsz200 : b18 = z200 := (ez200.trans hf_18_x33_1).symm; subst hsz200
          refine lv_iload_n S.x S.b d_Mpg_switching_162 rfl (lv_at hl 3 rfl) ?_
          refine lv_iload_n S.x S.b d_Mpg_switching_163 rfl (lv_at hl 0 rfl) ?_
          refine px_calli (pr := []) (px_runV (As := [.int b18, .int x33_2, .int v149]) (rest := [.int x33_1, .ref (r 18)]) S (c_mp_hang l D cs h r g tf ta pf189 ma167 wa168 cf ca ef ea xf xa na184 b18 x33_2 v149  (show x33_2.toInt < 2100 from by first | exact oz_76e8d69b32 k33_12 k33_9 g6 e152 g2 tz160 e171 e192 e193 | omega) htk _) hT (pr := []) (pcs := [wdP cs h r g tf ta pf189 na184 ma167 wa168 cf ca ef ea xf xa]) hw px_X.tt (px_recv hT hw 0 0 rfl rfl rfl) m12_77 m12_74 m12_76 ms_10_4 m1_21 q_Mpg_hang ⟨show 0 + 1 ≤ (8 * lv + 26) from by first | with_reducible rfl | with_reducible assumption | omega, show 8 + (4 + 11) + 0 ≤ (220 * lv + 1200) from by first | with_reducible rfl | with_reducible assumption | omega⟩ hl.1 rfl (Nat.le_of_ble_eq_true rfl) d_Mpg_switching_164 ⟨Nat.le_of_ble_eq_true rfl, Nat.le_of_ble_eq_true rfl⟩) hw hA (fun v204 p203 H locs hp203 hw => ?_)
          obtain ⟨na202, rfl, e205⟩ := hp203
          have e205 : Hg na184 na202 b18 x33_2 v149 v204 := e205
          have hf_14_x33_1 := (Hg.fld e205 (by first | with_reducible rfl | with_reducible assumption | omega) (by first | with_reducible rfl | with_reducible assumption | omega)).trans hf_14_x33_1
          have hf_15_x33_1 := (Hg.fld e205 (by first | with_reducible rfl | with_reducible assumption | omega) (by first | with_reducible rfl | with_reducible assumption | omega)).trans hf_15_x33_1
          have hf_21_x33_1 := (Hg.fld e205 (by first | with_reducible rfl | with_reducible assumption | omega) (by first | with_reducible rfl | with_reducible assumption | omega)).trans hf_21_x33_1
          have hf_17_x33_1 := (Hg.fld e205 (by first | with_reducible rfl | with_reducible assumption | omega) (by first | with_reducible rfl | with_reducible assumption | omega)).trans hf_17_x33_1
          have hrw_v149 := Hg.row e205 fs_ok hz_x33_2 (VlV.le hv_v149 (by first | with_reducible rfl | with_reducible assumption | omega) (Int.le_refl _) (Int.le_refl _) (by first | with_reducible rfl | with_reducible assumption | omega)) (by first | with_reducible rfl | with_reducible assumption | omega) (by first | with_reducible rfl | with_reducible assumption | omega)
          have hn_hrw_v149 := hrw_v149.num
          have hv_a17 := hv_a17.ag fe_ok (Hg.ag e205 (by first | with_reducible rfl | with_reducible assumption | omega))
          have hfb := Hg.fb e205 hfb (by first | with_reducible rfl | with_reducible assumption | omega)
          have hfs := FsI.hg hfs e205
          have hw : pw D A s.heap H locs [wdP cs h r g tf ta pf189 na202 ma167 wa168 cf ca ef ea xf xa] := hw
          have lv204 := Int32.le_toInt v204
          have uv204 := Int32.toInt_lt v204
          refine px_iast S hT hw 0 14 (n := 2100) (f := (ma167 18)) (x := x33_1) (y := v204) rfl gp_18 (vp_in_iff.mpr (by constructor <;> omega)) d_Mpg_switching_167 (w' := wdP cs h r g tf ta pf189 na202 (va_up ma167 18 (upd (ma167 18) x33_1.toNatClampNeg v204)) wa168 cf ca ef ea xf xa) (ps' := [wdP cs h r g tf ta pf189 na202 (va_up ma167 18 (upd (ma167 18) x33_1.toNatClampNeg v204)) wa168 cf ca ef ea xf xa]) sp_18 rfl (fun H locs hw => ?_)
          obtain ⟨ma206, hu_ma206⟩ : ∃ y : Nat → Nat → Int32, y = va_up ma167 18 (upd (ma167 18) x33_1.toNatClampNeg v204) := ⟨_, rfl⟩
          have hw : pw D A s.heap _ _ [wdP cs h r g tf ta pf189 na202 ma206 wa168 cf ca ef ea xf xa] := (by rw [hu_ma206]; exact hw)
          have hv_a17 := hv_a17.ag fe_ok (ag_m hu_ma206 (by first | with_reducible rfl | with_reducible assumption | omega) (by first | with_reducible rfl | with_reducible assumption | omega))
          have hrw_v149 := hrw_v149.ag fs_ok (ag_m hu_ma206 (by first | with_reducible rfl | with_reducible assumption | omega) (by first | with_reducible rfl | with_reducible assumption | omega))
          have hf_18_x33_1 : ma206 18 x33_1.toNatClampNeg = v204 := (by rw [hu_ma206, va_up_s, pk_us])
          have hfb : FrB (pf 13).toInt na ma na202 ma206 := (by rw [hu_ma206]; exact FrB.um hfb (by first | with_reducible rfl | with_reducible assumption | omega) (by first | with_reducible rfl | with_reducible assumption | omega))
          refine lv_iload_n S.x S.b d_Mpg_switching_168 rfl (lv_at hl 0 rfl) ?_
          refine lv_istore_n (lv' := [(2, .int v149), (3, .int v149), (0, .ref h), (1, .int x33_1)]) S.x S.b d_Mpg_switching_169 rfl hl (by decide) rfl (fun ls hl => ?_)
          refine lv_goto (tgt := 33) S.x S.b d_Mpg_switching_170 (by decide) ?_
          exact ih33 pf189 na202 ma206 wa168 x33_1 v149 _ _ ls (show (pf189 24).toInt = (pf 24).toInt from by first | exact oz_ff3084e3c1 k33_0 e197 e154 e177 | omega) (show (pf189 25).toInt = (pf 25).toInt from by first | exact oz_ff3084e3c1 k33_1 e198 e155 e178 | omega) (show (pf189 26).toInt = (pf 26).toInt from by first | exact oz_ff3084e3c1 k33_2 e199 e156 e179 | omega) (show (pf189 12).toInt = (pf 12).toInt + 2 from by first | exact oz_9b08fec897 k33_3 e195 e153 e176 | omega) (show (pf189 12).toInt ≤ 60 from by first | exact oz_9c5f4b2410 e195 e176 e153 k33_4 | omega) (show (pf 11).toInt + 2 ≤ (pf189 11).toInt from by first | exact oz_c4e72dd71c k33_5 e192 e152 e171 tz160 | omega) (show (pf189 11).toInt < (tf 6).toInt from by first | exact e193 | omega) (show x33_1.toInt = (pf 13).toInt from by first | exact k33_7 | omega) (show x33_1.toInt < (pf189 13).toInt from by first | exact oz_307014c40f k33_8 e196 e151 e173 | omega) (show (pf189 13).toInt - (pf 13).toInt ≤ (pf189 11).toInt - (pf 11).toInt from by first | exact oz_266ee2c208 k33_9 e192 e196 e151 e152 e174 tz160 | omega) (show bp ta (pf 11) + 2 ≤ bp ta (pf189 11) from by first | with_reducible rfl | with_reducible assumption | omega) (show v149.toInt = -1 ∨ x33_1.toInt + 1 ≤ v149.toInt from by first | with_reducible rfl | with_reducible assumption | omega) (show v149.toInt < (pf189 13).toInt from by first | exact oz_6b4cc8397a e150 e196 e151 e173 | omega) (show FrB (pf 13).toInt na ma na202 ma206 from hfb) (show FrW (pf 26).toInt wa wa168 from hfw) (show NdF (tf 6).toInt na202 x33_1 28 (pf 11) from ⟨by first | with_reducible rfl | with_reducible assumption | omega, hf_14_x33_1, hf_15_x33_1, ⟨by first | with_reducible rfl | with_reducible assumption | omega, by first | with_reducible rfl | with_reducible assumption | omega⟩, hf_21_x33_1⟩) (show SwV ta (tf 6).toInt na202 ma206 x33_1 v149 (pf189 13).toInt (3 * (bp ta (pf189 11) - bp ta (pf 11)) - 3) (198 - (pf 12).toInt) from ⟨_, _, _, _, _, hf_17_x33_1, hf_18_x33_1, by first | with_reducible rfl | with_reducible assumption | omega, by first | with_reducible rfl | with_reducible assumption | omega, (VlV.le hv_a17 (by first | with_reducible rfl | with_reducible assumption | omega) (Int.le_refl _) (Int.le_refl _) (by first | with_reducible rfl | with_reducible assumption | omega)), (Or.inr (RwV.le hrw_v149 (by first | with_reducible rfl | with_reducible assumption | omega) (by first | with_reducible rfl | with_reducible assumption | omega) (Int.le_refl _) (by first | with_reducible rfl | with_reducible assumption | omega))), by first | with_reducible rfl | with_reducible assumption | omega, by first | with_reducible rfl | with_reducible assumption | omega, by first | with_reducible rfl | with_reducible assumption | omega⟩) (show FsI (tf 6).toInt (pf189 13).toInt na202 from (FsI.le hfs (by first | with_reducible rfl | with_reducible assumption | omega))) (show (tf 6).toInt - (pf189 11).toInt < (n_33 : Int) from by first | exact oz_04fb17c32a hm e192 e152 e171 tz160 | omega) hw (lv_sub hl [2, 3, 0] rfl)
  refine lv_aload_n S.x S.b d_Mpg_switching_0 rfl (lv_at hl 0 rfl) ?_
  refine lv_bipush (v := 28) S.x S.b d_Mpg_switching_1 (by decide) ?_
  refine lv_aload_n S.x S.b d_Mpg_switching_3 rfl (lv_at hl 0 rfl) ?_
  refine px_get S k_Mpg hT hw 0 0 11 (v := .int (pf 11)) rfl rfl rfl (by decide) m9_235 d_Mpg_switching_4 ?_
  refine px_calli (pr := []) (px_runV (As := [.int 28, .int (pf 11)]) (rest := []) S (c_mp_make l D cs h r g tf ta wa cf ca ef ea xf xa pf na ma 28 (pf 11)  (show 0 ≤ (pf 13).toInt from by first | exact g5 | omega) (show (pf 13).toInt < 2100 from by first | exact oz_1fa6c9b1b7 g6 g11 g2 | omega) _) hT (pr := []) (pcs := [wdP cs h r g tf ta pf na ma wa cf ca ef ea xf xa]) hw px_X.tt (px_recv hT hw 0 0 rfl rfl rfl) m11_209 m11_206 m11_208 ms_8_12 m1_21 q_Mpg_make ⟨show 0 + 1 ≤ (8 * lv + 26) from by first | with_reducible rfl | with_reducible assumption | omega, show 8 + (3 + 11) + 0 ≤ (220 * lv + 1200) from by first | with_reducible rfl | with_reducible assumption | omega⟩ hl.1 rfl (Nat.le_of_ble_eq_true rfl) d_Mpg_switching_7 ⟨Nat.le_of_ble_eq_true rfl, Nat.le_of_ble_eq_true rfl⟩) hw hA (fun v214 p213 H locs hp213 hw => ?_)
  obtain ⟨pf210, na211, ma212, rfl, e215, e216, e217, e218, e219, e220, e221, e222⟩ := hp213
  have e215 : v214.toInt = (pf 13).toInt := e215
  have e216 : (pf210 13).toInt = (pf 13).toInt + 1 := e216
  have e217 : (pf210 11).toInt = (pf 11).toInt := e217
  have e218 : (pf210 12).toInt = (pf 12).toInt := e218
  have e219 : (pf210 24).toInt = (pf 24).toInt := e219
  have e220 : (pf210 25).toInt = (pf 25).toInt := e220
  have e221 : (pf210 26).toInt = (pf 26).toInt := e221
  have e222 : MkN na ma na211 ma212 v214 (28 : Int32) (pf 11) := e222
  obtain ⟨qb2231, qb2232, qb2233, qb2234⟩ := tk_eq (ta := ta) (x := (pf210 11)) (y := (pf 11)) (by first | with_reducible rfl | with_reducible assumption | omega)
  have hmk_v214 := e222
  have hfm_v214 := MkN.frb (b := v214.toInt) hmk_v214 (by first | with_reducible rfl | with_reducible assumption | omega) (by first | with_reducible rfl | with_reducible assumption | omega)
  have hfs := FsI.mk hfs hmk_v214 (by first | with_reducible rfl | with_reducible assumption | omega) (by first | with_reducible rfl | with_reducible assumption | omega) (by first | with_reducible rfl | with_reducible assumption | omega) (by first | with_reducible rfl | with_reducible assumption | omega)
  have hfb := hfb.tr hfm_v214 (by first | with_reducible rfl | with_reducible assumption | omega)
  have hf_14_v214 := hmk_v214.2.1 (by decide) (by decide)
  have hf_15_v214 := hmk_v214.2.2.1
  have hf_17_v214 := hmk_v214.2.2.2.2.1
  have hf_18_v214 := hmk_v214.2.2.2.2.2.1
  have hf_21_v214 := hmk_v214.2.2.2.2.2.2.2.2.1
  clear hmk_v214 hfm_v214
  have hw : pw D A s.heap H locs [wdP cs h r g tf ta pf210 na211 ma212 wa cf ca ef ea xf xa] := hw
  have lv214 := Int32.le_toInt v214
  have uv214 := Int32.toInt_lt v214
  refine lv_istore_n (lv' := [(1, .int v214), (0, .ref h)]) S.x S.b d_Mpg_switching_10 rfl hl (by decide) rfl (fun ls hl => ?_)
  refine lv_aload_n S.x S.b d_Mpg_switching_11 rfl (lv_at hl 1 rfl) ?_
  refine th_callv (ps0 := [wdP cs h r g tf ta pf na ma wa cf ca ef ea xf xa]) (pr := []) (pcs := [wdP cs h r g tf ta pf210 na211 ma212 wa cf ca ef ea xf xa]) (As := []) (rest := []) (c_mp_opens l D cs h r g tf ta na211 ma212 wa cf ca ef ea xf xa pf210   (show 0 ≤ (pf210 11).toInt from by first | exact oz_f3ebed1ad0 e217 g0 | omega) (show (pf210 11).toInt < (tf 6).toInt from by first | exact oz_0f9fb0345d g11 e217 | omega) (show (tf 6).toInt ≤ 2049 from by first | exact g2 | omega) (show (pf210 11).toInt + 1 < (tf 6).toInt from by first | exact oz_4b6b8b2f72 g11 e217 | omega) (show 0 ≤ (pf210 12).toInt from by first | exact oz_f3ebed1ad0 e218 g3 | omega) (show (pf210 12).toInt ≤ 60 from by first | exact oz_a3db38fa3c e218 g4 | omega) hlf htk) S hT hw (oX_call (P := (fun A U H => (oN A U H) ∧ (oP A g U H))) (pr := []) (oG_and oG_N oG_P) hw hA ⟨hN, hP⟩) (px_recv hT hw 0 0 rfl rfl rfl) m11_238 m11_235 m11_237 ms_9_1 m1_21 q_Mpg_opens ⟨show 7 + 1 ≤ (8 * lv + 26) from by first | with_reducible rfl | with_reducible assumption | omega, show 8 + (1 + 11) + 150 ≤ (220 * lv + 1200) from by first | with_reducible rfl | with_reducible assumption | omega⟩ hl.1 rfl (Nat.le_of_ble_eq_true rfl) d_Mpg_switching_12 ⟨Nat.le_of_ble_eq_true rfl, Nat.le_of_ble_eq_true rfl⟩ hne hlk hA hAe (fun o t h => Or.inr h) ?_ (fun p226 H locs hp226 hw => ?_)
  · exact fun p1 H1 locs1 hp hw => by obtain ⟨pq1, pq2, pq3, pq4, rfl, hq1, hq2⟩ := hp; exact ⟨_, ⟨pq1, pq2, pq3, pq4, rfl, hq1, hq2⟩, hw⟩
  obtain ⟨pf225, rfl, e228, e229, e230, e231, e232, e233, e234, e235, e236, e237⟩ := hp226
  have e228 : (pf225 11).toInt = (pf210 11).toInt + 1 := e228
  have e229 : (pf225 11).toInt < (tf 6).toInt := e229
  have e230 : bp ta (pf210 11) + sz ta (pf210 11) ≤ bp ta (pf225 11) := e230
  have e231 : 1 ≤ sz ta (pf210 11) := e231
  have e232 : (pf225 12).toInt = (pf210 12).toInt + 1 := e232
  have e233 : (pf210 12).toInt < 60 := e233
  have e234 : (pf225 13).toInt = (pf210 13).toInt := e234
  have e235 : (pf225 24).toInt = (pf210 24).toInt := e235
  have e236 : (pf225 25).toInt = (pf210 25).toInt := e236
  have e237 : (pf225 26).toInt = (pf210 26).toInt := e237
  have hw : pw D A s.heap H locs [wdP cs h r g tf ta pf225 na211 ma212 wa cf ca ef ea xf xa] := hw
  refine lv_aload_n S.x S.b d_Mpg_switching_15 rfl (lv_at hl 1 rfl) ?_
  refine px_get S k_Mpg hT hw 0 0 17 (v := .ref (r 17)) rfl rfl rfl (by decide) m10_1 d_Mpg_switching_16 ?_
  refine lv_iload_n S.x S.b d_Mpg_switching_19 rfl (lv_at hl 0 rfl) ?_
  refine lv_aload_n S.x S.b d_Mpg_switching_20 rfl (lv_at hl 1 rfl) ?_
  refine th_calli (ps0 := [wdP cs h r g tf ta pf na ma wa cf ca ef ea xf xa]) (pr := []) (pcs := [wdP cs h r g tf ta pf225 na211 ma212 wa cf ca ef ea xf xa]) (As := []) (rest := [.int v214, .ref (r 17)]) (c_mp_inParentheses l D cs h r g tf ta cf ca ef ea xf xa pf225 na211 ma212 wa  lv (show 0 ≤ (pf225 11).toInt from by first | exact oz_f3f97b7517 e228 e217 g0 | omega) (show (pf225 11).toInt < (tf 6).toInt from by first | exact e229 | omega) (show (tf 6).toInt ≤ 2049 from by first | exact g2 | omega) (show 0 ≤ (pf225 12).toInt from by first | exact oz_87be06313f e232 e218 g8 g7 | omega) (show (pf225 12).toInt ≤ 60 from by first | exact oz_6710fd9021 e232 e233 | omega) (show 0 ≤ (pf225 13).toInt from by first | exact oz_78ad3463af e234 e216 g5 | omega) (show (pf225 13).toInt ≤ (pf225 11).toInt + 10 from by first | exact oz_80eb9436a0 e228 e234 e216 e217 g6 | omega) (show 0 ≤ (pf225 26).toInt from by first | exact oz_e2fef14871 e237 e221 g7 | omega) (show (pf225 26).toInt ≤ (pf225 12).toInt from by first | exact oz_e919e29b70 e232 e237 e218 e221 g8 | omega) (show 61 ≤ (pf225 12).toInt + (lv : Int) from by first | exact oz_927a742cd4 g9 e232 e218 | omega) (show lv ≤ 61 from by first | exact g10 | omega) hlf htk (FsI.le (N' := (pf225 13).toInt) hfs (by first | with_reducible rfl | with_reducible assumption | omega))) S hT hw (oX_call (P := (fun A U H => (oN A U H) ∧ (oP A g U H))) (pr := []) (oG_and oG_N oG_P) hw hA ⟨hN, hP⟩) (px_recv hT hw 0 0 rfl rfl rfl) m12_129 m12_126 m12_128 ms_11_1 m1_21 q_Mpg_inParentheses ⟨show (8 * lv + 22) + 1 ≤ (8 * lv + 26) from by first | with_reducible rfl | with_reducible assumption | omega, show 8 + (2 + 11) + (220 * lv + 1000) ≤ (220 * lv + 1200) from by first | with_reducible rfl | with_reducible assumption | omega⟩ hl.1 rfl (Nat.le_of_ble_eq_true rfl) d_Mpg_switching_21 ⟨Nat.le_of_ble_eq_true rfl, Nat.le_of_ble_eq_true rfl⟩ hne hlk hA hAe (fun o t h => Or.inr h) ?_ (fun v247 p246 H locs hp246 hw => ?_)
  · exact fun p1 H1 locs1 hp hw => by obtain ⟨pq1, pq2, pq3, pq4, rfl, hq1, hq2⟩ := hp; exact ⟨_, ⟨pq1, pq2, pq3, pq4, rfl, hq1, hq2⟩, hw⟩
  obtain ⟨pf242, na243, ma244, wa245, rfl, e248, e249, e250, e251, e252, e253, e254, e255, e256, e257, e258, e259, e260⟩ := hp246
  have e248 : (pf225 11).toInt + 1 ≤ (pf242 11).toInt := e248
  have e249 : (pf242 11).toInt < (tf 6).toInt := e249
  have e250 : (pf225 13).toInt + 1 ≤ (pf242 13).toInt := e250
  have e251 : (pf242 13).toInt - (pf225 13).toInt ≤ (pf242 11).toInt - (pf225 11).toInt := e251
  have e252 : bp ta (pf225 11) + 1 ≤ bp ta (pf242 11) := e252
  have e253 : (pf242 12).toInt = (pf225 12).toInt := e253
  have e254 : (pf242 24).toInt = (pf225 24).toInt := e254
  have e255 : (pf242 25).toInt = (pf225 25).toInt := e255
  have e256 : (pf242 26).toInt = (pf225 26).toInt := e256
  have e257 : FrB (pf225 13).toInt na211 ma212 na243 ma244 := e257
  have hf_14_v214 := (fb_n e257 (by first | with_reducible rfl | with_reducible assumption | omega) (by first | with_reducible rfl | with_reducible assumption | omega)).trans hf_14_v214
  have hf_15_v214 := (fb_n e257 (by first | with_reducible rfl | with_reducible assumption | omega) (by first | with_reducible rfl | with_reducible assumption | omega)).trans hf_15_v214
  have hf_17_v214 := (fb_n e257 (by first | with_reducible rfl | with_reducible assumption | omega) (by first | with_reducible rfl | with_reducible assumption | omega)).trans hf_17_v214
  have hf_18_v214 := (fb_m e257 (by first | with_reducible rfl | with_reducible assumption | omega) (by first | with_reducible rfl | with_reducible assumption | omega)).trans hf_18_v214
  have hf_21_v214 := (fb_n e257 (by first | with_reducible rfl | with_reducible assumption | omega) (by first | with_reducible rfl | with_reducible assumption | omega)).trans hf_21_v214
  have hfb := hfb.tr e257 (by first | with_reducible rfl | with_reducible assumption | omega)
  have e258 : FrW (pf225 26).toInt wa wa245 := e258
  have hfw := hfw.tr e258 (by first | with_reducible rfl | with_reducible assumption | omega)
  have e259 : ExR ta (tf 6).toInt na243 ma244 v247 (pf225 13).toInt (pf242 13).toInt (3 * (bp ta (pf242 11) - bp ta (pf225 11)) - 6) (pf225 12).toInt := e259
  have ht_v247 := e259
  have hn_ht_v247 := ht_v247.num
  have e260 : FsI (tf 6).toInt (pf242 13).toInt na243 := e260
  have hfs := e260
  have hw : pw D A s.heap H locs [wdP cs h r g tf ta pf242 na243 ma244 wa245 cf ca ef ea xf xa] := hw
  have lv247 := Int32.le_toInt v247
  have uv247 := Int32.toInt_lt v247
  refine px_iast S hT hw 0 13 (n := 2100) (f := (na243 17)) (x := v214) (y := v247) rfl gp_17 (vp_in_iff.mpr (by constructor <;> omega)) d_Mpg_switching_24 (w' := wdP cs h r g tf ta pf242 (va_up na243 17 (upd (na243 17) v214.toNatClampNeg v247)) ma244 wa245 cf ca ef ea xf xa) (ps' := [wdP cs h r g tf ta pf242 (va_up na243 17 (upd (na243 17) v214.toNatClampNeg v247)) ma244 wa245 cf ca ef ea xf xa]) sp_17 rfl (fun H locs hw => ?_)
  obtain ⟨na261, hu_na261⟩ : ∃ y : Nat → Nat → Int32, y = va_up na243 17 (upd (na243 17) v214.toNatClampNeg v247) := ⟨_, rfl⟩
  have hw : pw D A s.heap _ _ [wdP cs h r g tf ta pf242 na261 ma244 wa245 cf ca ef ea xf xa] := (by rw [hu_na261]; exact hw)
  obtain ⟨ht_v247, hdq_v247⟩ := ht_v247.ag (ag_n hu_na261 (by first | with_reducible rfl | with_reducible assumption | omega) (by first | with_reducible rfl | with_reducible assumption | omega)) (by first | with_reducible rfl | with_reducible assumption | omega)
  have hn_ht_v247 := ht_v247.num
  have hf_14_v214 := (fl_n hu_na261 (by decide)).trans hf_14_v214
  have hf_15_v214 := (fl_n hu_na261 (by decide)).trans hf_15_v214
  have hf_21_v214 := (fl_n hu_na261 (by decide)).trans hf_21_v214
  have hf_17_v214 : na261 17 v214.toNatClampNeg = v247 := (by rw [hu_na261, va_up_s, pk_us])
  have hfs : FsI _ _ na261 := (by rw [hu_na261]; exact FsI.un hfs (by decide))
  have hfb : FrB (pf 13).toInt na ma na261 ma244 := (by rw [hu_na261]; exact FrB.un hfb (by first | with_reducible rfl | with_reducible assumption | omega) (by first | with_reducible rfl | with_reducible assumption | omega))
  refine lv_aload_n S.x S.b d_Mpg_switching_25 rfl (lv_at hl 1 rfl) ?_
  obtain ⟨sk262, hRsk262, st263, sb264, hSsk262⟩ := oP_lit hP (k := 91) (tx := "{") (n := 1) (List.mem_of_getElem? (i := 37) rfl)
  refine va_ldcS S.x S.b S.own hRsk262 d_Mpg_switching_26 ?_
  refine th_callv (ps0 := [wdP cs h r g tf ta pf na ma wa cf ca ef ea xf xa]) (pr := []) (pcs := [wdP cs h r g tf ta pf242 na261 ma244 wa245 cf ca ef ea xf xa]) (As := [.ref sk262]) (rest := []) (c_mp_opensMark l D cs sk262 1 h r g tf ta na261 ma244 wa245 cf ca ef ea xf xa pf242   (show 0 ≤ (pf242 11).toInt from by first | exact oz_5d987d7f9e e248 e228 g0 e217 | omega) (show (pf242 11).toInt < (tf 6).toInt from by first | exact e249 | omega) (show (tf 6).toInt ≤ 2049 from by first | exact g2 | omega) (show 0 ≤ (pf242 12).toInt from by first | exact oz_18519da00e e253 e232 e218 g3 | omega) (show (pf242 12).toInt ≤ 60 from by first | exact oz_1a76b13bbc e253 e232 e233 | omega) (show 1 ≤ 100 from by first | decide | omega) hlf htk) S hT hw (oX_call (P := (fun A U H => (oN A U H) ∧ (oP A g U H) ∧ (StS A sk262 1 U H))) (pr := []) (oG_and oG_N (oG_and oG_P oG_Q)) hw hA ⟨hN, hP, ⟨_, _, hSsk262⟩⟩) (px_recv hT hw 0 0 rfl rfl rfl) m11_213 m11_210 m11_212 ms_8_13 m1_21 q_Mpg_opensMark ⟨show 8 + 1 ≤ (8 * lv + 26) from by first | with_reducible rfl | with_reducible assumption | omega, show 8 + (2 + 11) + 240 ≤ (220 * lv + 1200) from by first | with_reducible rfl | with_reducible assumption | omega⟩ hl.1 rfl (Nat.le_of_ble_eq_true rfl) d_Mpg_switching_28 ⟨Nat.le_of_ble_eq_true rfl, Nat.le_of_ble_eq_true rfl⟩ hne hlk hA hAe (fun o t h => Or.inr h) ?_ (fun p267 H locs hp267 hw => ?_)
  · exact fun p1 H1 locs1 hp hw => by obtain ⟨pq1, pq2, pq3, pq4, rfl, hq1, hq2⟩ := hp; exact ⟨_, ⟨pq1, pq2, pq3, pq4, rfl, hq1, hq2⟩, hw⟩
  obtain ⟨pf266, rfl, e269, e270, e271, e272, e273, e274, e275, e276, e277, e278⟩ := hp267
  have e269 : (pf266 11).toInt = (pf242 11).toInt + 1 := e269
  have e270 : (pf266 11).toInt < (tf 6).toInt := e270
  have e271 : bp ta (pf242 11) + sz ta (pf242 11) ≤ bp ta (pf266 11) := e271
  have e272 : 1 ≤ sz ta (pf242 11) := e272
  have e273 : (pf266 12).toInt = (pf242 12).toInt + 1 := e273
  have e274 : (pf242 12).toInt < 60 := e274
  have e275 : (pf266 13).toInt = (pf242 13).toInt := e275
  have e276 : (pf266 24).toInt = (pf242 24).toInt := e276
  have e277 : (pf266 25).toInt = (pf242 25).toInt := e277
  have e278 : (pf266 26).toInt = (pf242 26).toInt := e278
  have hw : pw D A s.heap H locs [wdP cs h r g tf ta pf266 na261 ma244 wa245 cf ca ef ea xf xa] := hw
  refine lv_iconst (v := (-1)) S.x S.b d_Mpg_switching_31 (by decide) ?_
  refine lv_istore_n (lv' := [(2, .int (-1)), (1, .int v214), (0, .ref h)]) S.x S.b d_Mpg_switching_32 rfl hl (by decide) rfl (fun ls hl => ?_)
  exact J33 (((tf 6).toInt - (pf266 11).toInt).toNat + 1) pf266 na261 ma244 wa245 v214 (-1) _ _ ls (show (pf266 24).toInt = (pf 24).toInt from by first | exact oz_ff3084e3c1 e219 e276 e235 e254 | omega) (show (pf266 25).toInt = (pf 25).toInt from by first | exact oz_ff3084e3c1 e220 e277 e236 e255 | omega) (show (pf266 26).toInt = (pf 26).toInt from by first | exact oz_ff3084e3c1 e221 e278 e237 e256 | omega) (show (pf266 12).toInt = (pf 12).toInt + 2 from by first | exact oz_98be4ab6f7 e218 e273 e232 e253 | omega) (show (pf266 12).toInt ≤ 60 from by first | exact oz_6710fd9021 e273 e274 | omega) (show (pf 11).toInt + 2 ≤ (pf266 11).toInt from by first | exact oz_f8f0dbf1fb e217 e269 e228 e248 | omega) (show (pf266 11).toInt < (tf 6).toInt from by first | exact e270 | omega) (show v214.toInt = (pf 13).toInt from by first | exact e215 | omega) (show v214.toInt < (pf266 13).toInt from by first | exact oz_59e62d555c e215 e275 e216 e250 e234 | omega) (show (pf266 13).toInt - (pf 13).toInt ≤ (pf266 11).toInt - (pf 11).toInt from by first | exact oz_bb3ffa4880 e216 e217 e269 e275 e228 e234 e251 | omega) (show bp ta (pf 11) + 2 ≤ bp ta (pf266 11) from by first | with_reducible rfl | with_reducible assumption | omega) (show (-1 : Int) = -1 ∨ v214.toInt + 1 ≤ (-1 : Int) from by first | with_reducible rfl | with_reducible assumption | omega) (show (-1 : Int) < (pf266 13).toInt from by first | exact oz_476abe6f46 e275 e250 e234 e216 g5 | omega) (show FrB (pf 13).toInt na ma na261 ma244 from hfb) (show FrW (pf 26).toInt wa wa245 from hfw) (show NdF (tf 6).toInt na261 v214 28 (pf 11) from ⟨by first | with_reducible rfl | with_reducible assumption | omega, hf_14_v214, hf_15_v214, ⟨by first | with_reducible rfl | with_reducible assumption | omega, by first | with_reducible rfl | with_reducible assumption | omega⟩, hf_21_v214⟩) (show SwV ta (tf 6).toInt na261 ma244 v214 (-1) (pf266 13).toInt (3 * (bp ta (pf266 11) - bp ta (pf 11)) - 3) (198 - (pf 12).toInt) from ⟨_, _, _, _, 0, hf_17_v214, hf_18_v214, by first | with_reducible rfl | with_reducible assumption | omega, by first | with_reducible rfl | with_reducible assumption | omega, (VlV.le (exr_vl ht_v247 (by first | with_reducible rfl | with_reducible assumption | omega)) (by first | with_reducible rfl | with_reducible assumption | omega) (Int.le_refl _) (Int.le_refl _) (by first | with_reducible rfl | with_reducible assumption | omega)), (Or.inl ⟨by decide, by decide, by first | with_reducible rfl | with_reducible assumption | omega⟩), by first | with_reducible rfl | with_reducible assumption | omega, by first | with_reducible rfl | with_reducible assumption | omega, by first | with_reducible rfl | with_reducible assumption | omega⟩) (show FsI (tf 6).toInt (pf266 13).toInt na261 from (FsI.le hfs (by first | with_reducible rfl | with_reducible assumption | omega))) (show (tf 6).toInt - (pf266 11).toInt < (((((tf 6).toInt - (pf266 11).toInt).toNat + 1 : Nat) : Int) : Int) from by first | exact oz_natlt | omega) hw (lv_sub hl [2, 1, 0] rfl)
