theorem oz_b3999dd098 {a0 a1 a2 : Int} (h0 : a0 + 2 ≤ a2) (h1 : a1 = a2 + 1) : a0 + 1 ≤ a1 := by omega
theorem oz_23ccec68f2 {a0 a1 a2 : Int} (h0 : a0 + 2 ≤ a2) (h1 : a2 + 1 ≤ a1) : a0 + 1 ≤ a1 := by omega
theorem oz_c8502d292a {a0 a1 a2 a3 : Int} (h0 : a2 = a1 + 2) (h1 : a0 = a3 - (1 : Int)) (h2 : a3 = a2 - 1) : a0 = a1 := by omega
theorem oz_31eee500a7 {n0 : Nat}  : 8 + (2 + 11) + 0 ≤ (220 * n0 + 1200) := by omega
theorem oz_0cb7fdb6b4 {a0 a1 a2 a3 a4 a5 : Int} (h0 : a0 = a1) (h1 : 0 ≤ a1) (h2 : a1 ≤ a2 + 10) (h3 : a2 + 2 ≤ a3) (h4 : a3 + 1 ≤ a4) (h5 : a4 < a5) (h6 : a5 ≤ 2049) : 0 ≤ a0 ∧ a0 < ((2100 : Nat) : Int) := by omega
theorem oz_f68e1bae62 {a0 : Int} (h0 : a0 < (0 : Int)) : a0 < 2100 := by omega
theorem oz_a3b70bbbba {n0 : Nat}  : 8 + (4 + 11) + 0 ≤ (220 * n0 + 1200) := by omega
theorem oz_d3d3a7f06a {a0 a1 : Int} (h0 : a1 < a0) (h1 : ¬ a1 < (0 : Int)) : 0 ≤ a0 := by omega
theorem oz_50fbb05cd2 {a0 a1 a2 a3 a4 : Int} (h0 : a0 - a1 ≤ a2 - a3) (h1 : a1 ≤ a3 + 10) (h2 : a2 < a4) (h3 : a4 ≤ 2049) : a0 < 2100 := by omega
theorem oz_ffb5f7237d {a0 a1 a2 a3 : Int} (h0 : a0 = a1 + (1 : Int)) (h1 : a1 = a2) (h2 : a3 + 2 ≤ a2) (h3 : 0 ≤ a3) : 0 ≤ a0 := by omega
theorem oz_76c30dab77 {a0 a1 a2 a3 a4 : Int} (h0 : a0 = a1) (h1 : 0 ≤ a1) (h2 : a1 ≤ a2 + 10) (h3 : a2 + 2 ≤ a3) (h4 : a3 < a4) (h5 : a4 ≤ 2049) : 0 ≤ a0 ∧ a0 < ((2100 : Nat) : Int) := by omega
theorem oz_1b5264ebed {a0 a1 a2 a3 a4 a5 : Int} (h0 : a0 < a1) (h1 : a1 - a2 ≤ a3 - a4) (h2 : a2 ≤ a4 + 10) (h3 : a3 < a5) (h4 : a5 ≤ 2049) : a0 < 2100 := by omega
theorem oz_1b7dd3e4ae {a0 a1 a2 a3 a4 : Int} (h0 : a0 + 2 ≤ a2) (h1 : a1 = a3 + 1) (h2 : a4 = a2) (h3 : a3 = a4 + (1 : Int)) : a0 + 2 ≤ a1 := by omega
theorem oz_7f3387d82f {a0 a1 a2 a3 : Int} (h0 : a0 < a2) (h1 : a1 = a3) (h2 : a3 = a2 + 1) : a0 < a1 := by omega
theorem oz_48901975ad {a0 a1 a2 a3 a4 a5 a6 a7 a8 : Int} (h0 : a4 - a1 ≤ a5 - a3) (h1 : a2 = a6 + 1) (h2 : a0 = a7) (h3 : a7 = a4 + 1) (h4 : a8 = a5) (h5 : a6 = a8 + (1 : Int)) : a0 - a1 ≤ a2 - a3 := by omega
theorem oz_9d3e682df8 {a0 a1 a2 a3 a4 a5 : Int} (h0 : a0 + 2 ≤ a2) (h1 : a3 + 1 ≤ a1) (h2 : a4 = a2) (h3 : a4 + a5 ≤ a3) (h4 : 1 ≤ a5) : a0 + 2 ≤ a1 := by omega
theorem oz_d6911cdbdd {a0 a1 a3 a4 a5 : Int} {n2 : Nat} (h0 : a0 - a3 < ((n2 + 1 : Nat) : Int)) (h1 : a1 = a4 + 1) (h2 : a5 = a3) (h3 : a4 = a5 + (1 : Int)) : a0 - a1 < (n2 : Int) := by omega
theorem oz_a454ae152d {a0 a1 a2 a3 : Int} (h0 : a0 = a1 + 1) (h1 : a2 < a1) (h2 : 0 ≤ a3) (h3 : a2 = a3) : 0 ≤ a0 := by omega
theorem oz_9d54c0695a {a0 a1 a2 a3 a4 a5 a6 : Int} (h0 : a0 = a2 + 1) (h1 : a1 = a3 + (1 : Int)) (h2 : a2 - a4 ≤ a5 - a6) (h3 : a3 = a5) (h4 : a4 ≤ a6 + 10) : a0 ≤ a1 + 10 := by omega
theorem oz_79bc52cafa {n0 : Nat}  : (8 * n0 + 21) + 1 ≤ (8 * n0 + 26) := by omega
theorem oz_56c9d55d2a {n0 : Nat}  : 8 + (2 + 11) + (220 * n0 + 720) ≤ (220 * n0 + 1200) := by omega
theorem oz_e5fce5812b {a0 a1 a2 a3 a4 : Int} (h0 : a1 + 1 ≤ a0) (h1 : a1 = a2 + (1 : Int)) (h2 : 0 ≤ a3) (h3 : a3 + 2 ≤ a4) (h4 : a2 = a4) : 0 ≤ a0 := by omega
theorem oz_42d356aa53 {a0 a1 a2 a3 a4 a5 a6 a7 a8 : Int} (h0 : a0 = a1) (h1 : 0 ≤ a1) (h2 : a1 ≤ a2 + 10) (h3 : a2 + 2 ≤ a3) (h4 : a4 = a3) (h5 : a5 ≤ 2049) (h6 : a6 = a4 + (1 : Int)) (h7 : a6 + 1 ≤ a7) (h8 : a8 = a7 + 1) (h9 : a8 < a5) : 0 ≤ a0 ∧ a0 < ((2100 : Nat) : Int) := by omega
theorem oz_76e8d69b32 {a0 a1 a2 a3 a4 a5 a6 a7 a8 a9 : Int} (h0 : a0 < a1) (h1 : a1 - a2 ≤ a3 - a4) (h2 : a2 ≤ a4 + 10) (h3 : a5 = a3) (h4 : a6 ≤ 2049) (h5 : a7 = a5 + (1 : Int)) (h6 : a7 + 1 ≤ a8) (h7 : a9 = a8 + 1) (h8 : a9 < a6) : a0 < 2100 := by omega
theorem oz_9b08fec897 {a0 a1 a2 a3 a4 : Int} (h0 : a2 = a1 + 2) (h1 : a0 = a3) (h2 : a4 = a2) (h3 : a3 = a4) : a0 = a1 + 2 := by omega
theorem oz_c4e72dd71c {a0 a1 a2 a3 a4 a5 : Int} (h0 : a0 + 2 ≤ a2) (h1 : a1 = a3 + 1) (h2 : a4 = a2) (h3 : a5 + 1 ≤ a3) (h4 : a5 = a4 + (1 : Int)) : a0 + 2 ≤ a1 := by omega
theorem oz_307014c40f {a0 a1 a2 a3 a4 : Int} (h0 : a0 < a2) (h1 : a1 = a3) (h2 : a4 = a2 + 1) (h3 : a4 + 1 ≤ a3) : a0 < a1 := by omega
theorem oz_266ee2c208 {a0 a1 a2 a3 a4 a5 a6 a7 a8 a9 a10 : Int} (h0 : a4 - a1 ≤ a5 - a3) (h1 : a2 = a6 + 1) (h2 : a0 = a7) (h3 : a8 = a4 + 1) (h4 : a9 = a5) (h5 : a7 - a8 ≤ a6 - a10) (h6 : a10 = a9 + (1 : Int)) : a0 - a1 ≤ a2 - a3 := by omega
theorem oz_923d0fafc8 {a0 a1 a2 a3 a4 a5 a6 : Int} (h0 : a0 + 2 ≤ a2) (h1 : a3 + 1 ≤ a1) (h2 : a4 = a2) (h3 : a5 + 1 ≤ a3) (h4 : a4 + a6 ≤ a5) (h5 : 1 ≤ a6) : a0 + 2 ≤ a1 := by omega
theorem oz_6b4cc8397a {a0 a1 a2 a3 a4 : Int} (h0 : a0 = a2) (h1 : a1 = a3) (h2 : a4 = a2 + 1) (h3 : a4 + 1 ≤ a3) : a0 < a1 := by omega
theorem oz_4ccf800409 {a0 a1 a3 a4 a5 a6 : Int} {n2 : Nat} (h0 : a0 - a3 < ((n2 + 1 : Nat) : Int)) (h1 : a1 = a4 + 1) (h2 : a5 = a3) (h3 : a6 + 1 ≤ a4) (h4 : a6 = a5 + (1 : Int)) : a0 - a1 < (n2 : Int) := by omega
theorem oz_98be4ab6f7 {a0 a1 a2 a3 a4 : Int} (h0 : a2 = a1) (h1 : a0 = a3 + 1) (h2 : a4 = a2 + 1) (h3 : a3 = a4) : a0 = a1 + 2 := by omega
theorem oz_f8f0dbf1fb {a0 a1 a2 a3 a4 : Int} (h0 : a2 = a0) (h1 : a1 = a3 + 1) (h2 : a4 = a2 + 1) (h3 : a4 + 1 ≤ a3) : a0 + 2 ≤ a1 := by omega
theorem oz_59e62d555c {a0 a1 a2 a3 a4 a5 : Int} (h0 : a0 = a2) (h1 : a1 = a3) (h2 : a4 = a2 + 1) (h3 : a5 + 1 ≤ a3) (h4 : a5 = a4) : a0 < a1 := by omega
theorem oz_bb3ffa4880 {a0 a1 a2 a3 a4 a5 a6 a7 a8 a9 : Int} (h0 : a4 = a1 + 1) (h1 : a5 = a3) (h2 : a2 = a6 + 1) (h3 : a0 = a7) (h4 : a8 = a5 + 1) (h5 : a9 = a4) (h6 : a7 - a9 ≤ a6 - a8) : a0 - a1 ≤ a2 - a3 := by omega
theorem oz_969467a754 {a0 a1 a2 a3 a4 a5 a6 : Int} (h0 : a2 = a0) (h1 : a3 + a4 ≤ a1) (h2 : a2 + a5 ≤ a6) (h3 : a6 + 1 ≤ a3) (h4 : 1 ≤ a4) (h5 : 1 ≤ a5) : a0 + 2 ≤ a1 := by omega
theorem oz_476abe6f46 {a0 a1 a2 a3 a4 : Int} (h0 : a0 = a1) (h1 : a2 + 1 ≤ a1) (h2 : a2 = a3) (h3 : a3 = a4 + 1) (h4 : 0 ≤ a4) : (-1 : Int) < a0 := by omega
abbrev b_Mpg_switching : ByteArray := prog_16_method_56_code
def y_Mpg_switching : MethodName := ⟨"HomeSystemModel$Program", "switching", "()I"⟩
theorem d_Mpg_switching_0 : decode b_Mpg_switching 0 = .ok (.aload_n 0, 1) := by decide +kernel
theorem d_Mpg_switching_1 : decode b_Mpg_switching 1 = .ok (.bipush 28, 2) := by decide +kernel
theorem d_Mpg_switching_3 : decode b_Mpg_switching 3 = .ok (.aload_n 0, 1) := by decide +kernel
theorem d_Mpg_switching_4 : decode b_Mpg_switching 4 = .ok (.getfield 360, 3) := by decide +kernel
theorem d_Mpg_switching_7 : decode b_Mpg_switching 7 = .ok (.invokevirtual 406, 3) := by decide +kernel
theorem d_Mpg_switching_10 : decode b_Mpg_switching 10 = .ok (.istore_n 1, 1) := by decide +kernel
theorem d_Mpg_switching_11 : decode b_Mpg_switching 11 = .ok (.aload_n 0, 1) := by decide +kernel
theorem d_Mpg_switching_12 : decode b_Mpg_switching 12 = .ok (.invokevirtual 383, 3) := by decide +kernel
theorem d_Mpg_switching_15 : decode b_Mpg_switching 15 = .ok (.aload_n 0, 1) := by decide +kernel
theorem d_Mpg_switching_16 : decode b_Mpg_switching 16 = .ok (.getfield 216, 3) := by decide +kernel
theorem d_Mpg_switching_19 : decode b_Mpg_switching 19 = .ok (.iload_n 1, 1) := by decide +kernel
theorem d_Mpg_switching_20 : decode b_Mpg_switching 20 = .ok (.aload_n 0, 1) := by decide +kernel
theorem d_Mpg_switching_21 : decode b_Mpg_switching 21 = .ok (.invokevirtual 494, 3) := by decide +kernel
theorem d_Mpg_switching_24 : decode b_Mpg_switching 24 = .ok (.iastore, 1) := by decide +kernel
theorem d_Mpg_switching_25 : decode b_Mpg_switching 25 = .ok (.aload_n 0, 1) := by decide +kernel
theorem d_Mpg_switching_26 : decode b_Mpg_switching 26 = .ok (.ldc 91, 2) := by decide +kernel
theorem d_Mpg_switching_28 : decode b_Mpg_switching 28 = .ok (.invokevirtual 457, 3) := by decide +kernel
theorem d_Mpg_switching_31 : decode b_Mpg_switching 31 = .ok (.iconst (-1), 1) := by decide +kernel
theorem d_Mpg_switching_32 : decode b_Mpg_switching 32 = .ok (.istore_n 2, 1) := by decide +kernel
theorem d_Mpg_switching_33 : decode b_Mpg_switching 33 = .ok (.aload_n 0, 1) := by decide +kernel
theorem d_Mpg_switching_34 : decode b_Mpg_switching 34 = .ok (.ldc 93, 2) := by decide +kernel
theorem d_Mpg_switching_36 : decode b_Mpg_switching 36 = .ok (.invokevirtual 366, 3) := by decide +kernel
theorem d_Mpg_switching_39 : decode b_Mpg_switching 39 = .ok (.ifCond .ne 134, 3) := by decide +kernel
theorem d_Mpg_switching_42 : decode b_Mpg_switching 42 = .ok (.iconst (-1), 1) := by decide +kernel
theorem d_Mpg_switching_43 : decode b_Mpg_switching 43 = .ok (.istore_n 3, 1) := by decide +kernel
theorem d_Mpg_switching_44 : decode b_Mpg_switching 44 = .ok (.aload_n 0, 1) := by decide +kernel
theorem d_Mpg_switching_45 : decode b_Mpg_switching 45 = .ok (.bipush 10, 2) := by decide +kernel
theorem d_Mpg_switching_47 : decode b_Mpg_switching 47 = .ok (.invokevirtual 377, 3) := by decide +kernel
theorem d_Mpg_switching_50 : decode b_Mpg_switching 50 = .ok (.ifCond .eq 43, 3) := by decide +kernel
theorem d_Mpg_switching_53 : decode b_Mpg_switching 53 = .ok (.aload_n 0, 1) := by decide +kernel
theorem d_Mpg_switching_54 : decode b_Mpg_switching 54 = .ok (.bipush 29, 2) := by decide +kernel
theorem d_Mpg_switching_56 : decode b_Mpg_switching 56 = .ok (.aload_n 0, 1) := by decide +kernel
theorem d_Mpg_switching_57 : decode b_Mpg_switching 57 = .ok (.getfield 360, 3) := by decide +kernel
theorem d_Mpg_switching_60 : decode b_Mpg_switching 60 = .ok (.invokevirtual 406, 3) := by decide +kernel
theorem d_Mpg_switching_63 : decode b_Mpg_switching 63 = .ok (.istore_n 3, 1) := by decide +kernel
theorem d_Mpg_switching_64 : decode b_Mpg_switching 64 = .ok (.aload_n 0, 1) := by decide +kernel
theorem d_Mpg_switching_65 : decode b_Mpg_switching 65 = .ok (.dup, 1) := by decide +kernel
theorem d_Mpg_switching_66 : decode b_Mpg_switching 66 = .ok (.getfield 360, 3) := by decide +kernel
theorem d_Mpg_switching_69 : decode b_Mpg_switching 69 = .ok (.iconst 1, 1) := by decide +kernel
theorem d_Mpg_switching_70 : decode b_Mpg_switching 70 = .ok (.iadd, 1) := by decide +kernel
theorem d_Mpg_switching_71 : decode b_Mpg_switching 71 = .ok (.putfield 360, 3) := by decide +kernel
theorem d_Mpg_switching_74 : decode b_Mpg_switching 74 = .ok (.aload_n 0, 1) := by decide +kernel
theorem d_Mpg_switching_75 : decode b_Mpg_switching 75 = .ok (.getfield 216, 3) := by decide +kernel
theorem d_Mpg_switching_78 : decode b_Mpg_switching 78 = .ok (.iload_n 3, 1) := by decide +kernel
theorem d_Mpg_switching_79 : decode b_Mpg_switching 79 = .ok (.aload_n 0, 1) := by decide +kernel
theorem d_Mpg_switching_80 : decode b_Mpg_switching 80 = .ok (.invokevirtual 451, 3) := by decide +kernel
theorem d_Mpg_switching_83 : decode b_Mpg_switching 83 = .ok (.iastore, 1) := by decide +kernel
theorem d_Mpg_switching_84 : decode b_Mpg_switching 84 = .ok (.aload_n 0, 1) := by decide +kernel
theorem d_Mpg_switching_85 : decode b_Mpg_switching 85 = .ok (.ldc 103, 2) := by decide +kernel
theorem d_Mpg_switching_87 : decode b_Mpg_switching 87 = .ok (.invokevirtual 386, 3) := by decide +kernel
theorem d_Mpg_switching_90 : decode b_Mpg_switching 90 = .ok (.goto 60, 3) := by decide +kernel
theorem d_Mpg_switching_93 : decode b_Mpg_switching 93 = .ok (.aload_n 0, 1) := by decide +kernel
theorem d_Mpg_switching_94 : decode b_Mpg_switching 94 = .ok (.bipush 11, 2) := by decide +kernel
theorem d_Mpg_switching_96 : decode b_Mpg_switching 96 = .ok (.invokevirtual 377, 3) := by decide +kernel
theorem d_Mpg_switching_99 : decode b_Mpg_switching 99 = .ok (.ifCond .eq 33, 3) := by decide +kernel
theorem d_Mpg_switching_102 : decode b_Mpg_switching 102 = .ok (.aload_n 0, 1) := by decide +kernel
theorem d_Mpg_switching_103 : decode b_Mpg_switching 103 = .ok (.bipush 30, 2) := by decide +kernel
theorem d_Mpg_switching_105 : decode b_Mpg_switching 105 = .ok (.aload_n 0, 1) := by decide +kernel
theorem d_Mpg_switching_106 : decode b_Mpg_switching 106 = .ok (.getfield 360, 3) := by decide +kernel
theorem d_Mpg_switching_109 : decode b_Mpg_switching 109 = .ok (.invokevirtual 406, 3) := by decide +kernel
theorem d_Mpg_switching_112 : decode b_Mpg_switching 112 = .ok (.istore_n 3, 1) := by decide +kernel
theorem d_Mpg_switching_113 : decode b_Mpg_switching 113 = .ok (.aload_n 0, 1) := by decide +kernel
theorem d_Mpg_switching_114 : decode b_Mpg_switching 114 = .ok (.dup, 1) := by decide +kernel
theorem d_Mpg_switching_115 : decode b_Mpg_switching 115 = .ok (.getfield 360, 3) := by decide +kernel
theorem d_Mpg_switching_118 : decode b_Mpg_switching 118 = .ok (.iconst 1, 1) := by decide +kernel
theorem d_Mpg_switching_119 : decode b_Mpg_switching 119 = .ok (.iadd, 1) := by decide +kernel
theorem d_Mpg_switching_120 : decode b_Mpg_switching 120 = .ok (.putfield 360, 3) := by decide +kernel
theorem d_Mpg_switching_123 : decode b_Mpg_switching 123 = .ok (.aload_n 0, 1) := by decide +kernel
theorem d_Mpg_switching_124 : decode b_Mpg_switching 124 = .ok (.ldc 103, 2) := by decide +kernel
theorem d_Mpg_switching_126 : decode b_Mpg_switching 126 = .ok (.invokevirtual 386, 3) := by decide +kernel
theorem d_Mpg_switching_129 : decode b_Mpg_switching 129 = .ok (.goto 21, 3) := by decide +kernel
theorem d_Mpg_switching_132 : decode b_Mpg_switching 132 = .ok (.aload_n 0, 1) := by decide +kernel
theorem d_Mpg_switching_133 : decode b_Mpg_switching 133 = .ok (.iload_n 2, 1) := by decide +kernel
theorem d_Mpg_switching_134 : decode b_Mpg_switching 134 = .ok (.ifCond .lt 7, 3) := by decide +kernel
theorem d_Mpg_switching_137 : decode b_Mpg_switching 137 = .ok (.iconst 1, 1) := by decide +kernel
theorem d_Mpg_switching_138 : decode b_Mpg_switching 138 = .ok (.goto 4, 3) := by decide +kernel
theorem d_Mpg_switching_141 : decode b_Mpg_switching 141 = .ok (.iconst 0, 1) := by decide +kernel
theorem d_Mpg_switching_142 : decode b_Mpg_switching 142 = .ok (.invokevirtual 373, 3) := by decide +kernel
theorem d_Mpg_switching_145 : decode b_Mpg_switching 145 = .ok (.aload_n 0, 1) := by decide +kernel
theorem d_Mpg_switching_146 : decode b_Mpg_switching 146 = .ok (.invokevirtual 463, 3) := by decide +kernel
theorem d_Mpg_switching_149 : decode b_Mpg_switching 149 = .ok (.istore_n 3, 1) := by decide +kernel
theorem d_Mpg_switching_150 : decode b_Mpg_switching 150 = .ok (.aload_n 0, 1) := by decide +kernel
theorem d_Mpg_switching_151 : decode b_Mpg_switching 151 = .ok (.getfield 219, 3) := by decide +kernel
theorem d_Mpg_switching_154 : decode b_Mpg_switching 154 = .ok (.iload_n 1, 1) := by decide +kernel
theorem d_Mpg_switching_155 : decode b_Mpg_switching 155 = .ok (.aload_n 0, 1) := by decide +kernel
theorem d_Mpg_switching_156 : decode b_Mpg_switching 156 = .ok (.aload_n 0, 1) := by decide +kernel
theorem d_Mpg_switching_157 : decode b_Mpg_switching 157 = .ok (.getfield 219, 3) := by decide +kernel
theorem d_Mpg_switching_160 : decode b_Mpg_switching 160 = .ok (.iload_n 1, 1) := by decide +kernel
theorem d_Mpg_switching_161 : decode b_Mpg_switching 161 = .ok (.iaload, 1) := by decide +kernel
theorem d_Mpg_switching_162 : decode b_Mpg_switching 162 = .ok (.iload_n 2, 1) := by decide +kernel
theorem d_Mpg_switching_163 : decode b_Mpg_switching 163 = .ok (.iload_n 3, 1) := by decide +kernel
theorem d_Mpg_switching_164 : decode b_Mpg_switching 164 = .ok (.invokevirtual 466, 3) := by decide +kernel
theorem d_Mpg_switching_167 : decode b_Mpg_switching 167 = .ok (.iastore, 1) := by decide +kernel
theorem d_Mpg_switching_168 : decode b_Mpg_switching 168 = .ok (.iload_n 3, 1) := by decide +kernel
theorem d_Mpg_switching_169 : decode b_Mpg_switching 169 = .ok (.istore_n 2, 1) := by decide +kernel
theorem d_Mpg_switching_170 : decode b_Mpg_switching 170 = .ok (.goto (-137), 3) := by decide +kernel
theorem d_Mpg_switching_173 : decode b_Mpg_switching 173 = .ok (.aload_n 0, 1) := by decide +kernel
theorem d_Mpg_switching_174 : decode b_Mpg_switching 174 = .ok (.ldc 93, 2) := by decide +kernel
theorem d_Mpg_switching_176 : decode b_Mpg_switching 176 = .ok (.invokevirtual 439, 3) := by decide +kernel
theorem d_Mpg_switching_179 : decode b_Mpg_switching 179 = .ok (.aload_n 0, 1) := by decide +kernel
theorem d_Mpg_switching_180 : decode b_Mpg_switching 180 = .ok (.dup, 1) := by decide +kernel
theorem d_Mpg_switching_181 : decode b_Mpg_switching 181 = .ok (.getfield 380, 3) := by decide +kernel
theorem d_Mpg_switching_184 : decode b_Mpg_switching 184 = .ok (.iconst 1, 1) := by decide +kernel
theorem d_Mpg_switching_185 : decode b_Mpg_switching 185 = .ok (.isub, 1) := by decide +kernel
theorem d_Mpg_switching_186 : decode b_Mpg_switching 186 = .ok (.putfield 380, 3) := by decide +kernel
theorem d_Mpg_switching_189 : decode b_Mpg_switching 189 = .ok (.iload_n 1, 1) := by decide +kernel
theorem d_Mpg_switching_190 : decode b_Mpg_switching 190 = .ok (.ireturn, 1) := by decide +kernel
theorem q_Mpg_switching : px_y y_Mpg_switching 0 := by unfold px_y; decide +kernel
set_option maxHeartbeats 4000000 in
set_option maxRecDepth 100000 in
theorem c_mp_switching (l : Launch) (D : va_G) (cs : Nat → ClassId) (h : Nat) (r : Nat → Nat) (g : Nat → Nat → Option Nat) (tf : Nat → Int32) (ta : Nat → Nat → Int32) (cf : Nat → Int32) (ca : Nat → Nat → Int32) (ef : Nat → Int32) (ea : Nat → Nat → Int32) (xf : Nat → Int32) (xa : Nat → Nat → Int32) (pf : Nat → Int32) (na : Nat → Nat → Int32) (ma : Nat → Nat → Int32) (wa : Nat → Nat → Int32) (lv : Nat) (g0 : 0 ≤ (pf 11).toInt) (g1 : (pf 11).toInt < (tf 6).toInt) (g2 : (tf 6).toInt ≤ 2049) (g3 : 0 ≤ (pf 12).toInt) (g4 : (pf 12).toInt ≤ 60) (g5 : 0 ≤ (pf 13).toInt) (g6 : (pf 13).toInt ≤ (pf 11).toInt + 10) (g7 : 0 ≤ (pf 26).toInt) (g8 : (pf 26).toInt ≤ (pf 12).toInt) (g9 : 61 ≤ (pf 12).toInt + (lv : Int)) (g10 : lv ≤ 61) (g11 : (pf 11).toInt + 1 < (tf 6).toInt) (hlf : l.flags = pinnedFlags ++ [noTraceFlag]) (htk : TkI tf ta) (hfs : FsI (tf 6).toInt (pf 13).toInt na) (hLT : LvT l D cs lv) : ThI l y_Mpg_switching b_Mpg_switching 4 (.int) D cs (8 * lv + 26) (220 * lv + 1200) [.ref h] [wdP cs h r g tf ta pf na ma wa cf ca ef ea xf xa] (oX (fun A U H => (oN A U H) ∧ (oP A g U H)) [wdP cs h r g tf ta pf na ma wa cf ca ef ea xf xa]) "java/lang/IllegalArgumentException" (fun v ps => ∃ (pf' : Nat → Int32) (na' : Nat → Nat → Int32) (ma' : Nat → Nat → Int32) (wa' : Nat → Nat → Int32), (ps = [wdP cs h r g tf ta pf' na' ma' wa' cf ca ef ea xf xa]) ∧ ((pf 11).toInt + 1 ≤ (pf' 11).toInt) ∧ ((pf' 11).toInt < (tf 6).toInt) ∧ ((pf 13).toInt + 1 ≤ (pf' 13).toInt) ∧ ((pf' 13).toInt - (pf 13).toInt ≤ (pf' 11).toInt - (pf 11).toInt) ∧ (bp ta (pf 11) + 1 ≤ bp ta (pf' 11)) ∧ ((pf' 12).toInt = (pf 12).toInt) ∧ ((pf' 24).toInt = (pf 24).toInt) ∧ ((pf' 25).toInt = (pf 25).toInt) ∧ ((pf' 26).toInt = (pf 26).toInt) ∧ (FrB (pf 13).toInt na ma na' ma') ∧ (FrW (pf 26).toInt wa wa') ∧ (VlS ta (tf 6).toInt na' ma' v (pf 13).toInt (pf' 13).toInt (3 * (bp ta (pf' 11) - bp ta (pf 11))) (200 - (pf 12).toInt)) ∧ (FsI (tf 6).toInt (pf' 13).toInt na') ∧ (R_mp_switching (RL_mp_statement lv) ta pf na ma wa pf' na' ma' wa' v 0)) (fun ps => ∃ (pf' : Nat → Int32) (na' : Nat → Nat → Int32) (ma' : Nat → Nat → Int32) (wa' : Nat → Nat → Int32), ps = [wdP cs h r g tf ta pf' na' ma' wa' cf ca ef ea xf xa] ∧ 0 ≤ (pf' 11).toInt ∧ (pf' 11).toInt + 1 ≤ (tf 6).toInt ∧ R_mp_switching (RL_mp_statement lv) ta pf na ma wa pf' na' ma' wa' 0 1) := by
  refine th_enter (by decide) (Nat.le_of_ble_eq_true rfl) ?_
  intro p e s m below meth c A ls hAe S hr hlk hnm hA hT hX hw hl hne hadm
  have hl : lv_has ls 4 [(0, .ref h)] := hl
  have cstm1 : ((-1) : Int32).toInt = (-1) := rfl
  have cst0 : (0 : Int32).toInt = 0 := rfl
  have cst1 : (1 : Int32).toInt = 1 := rfl
  have cst10 : (10 : Int32).toInt = 10 := rfl
  have cst11 : (11 : Int32).toInt = 11 := rfl
  have cst28 : (28 : Int32).toInt = 28 := rfl
  have cst29 : (29 : Int32).toInt = 29 := rfl
  have cst30 : (30 : Int32).toInt = 30 := rfl
  have hX : (fun A U H => (oN A U H) ∧ (oP A g U H)) A s s.heap := by rw [hAe]; exact hX
  obtain ⟨hN, hP⟩ := hX
  have hZ := hP.1
  have hF0 := hP.2.1
  have hfb : FrB (pf 13).toInt na ma na ma := FrB.rf
  have hfw : FrW (pf 26).toInt wa wa := FrW.rf
  have J33 : ∀ (n_33 : Nat) (pf_33 : Nat → Int32) (na_33 : Nat → Nat → Int32) (ma_33 : Nat → Nat → Int32) (wa_33 : Nat → Nat → Int32) (x33_1 x33_2 : Int32) (H : Heap) (locs : List Loc) (ls : Array Slot), ((pf_33 24).toInt = (pf 24).toInt) → ((pf_33 25).toInt = (pf 25).toInt) → ((pf_33 26).toInt = (pf 26).toInt) → ((pf_33 12).toInt = (pf 12).toInt + 2) → ((pf_33 12).toInt ≤ 60) → ((pf 11).toInt + 2 ≤ (pf_33 11).toInt) → ((pf_33 11).toInt < (tf 6).toInt) → (x33_1.toInt = (pf 13).toInt) → (x33_1.toInt < (pf_33 13).toInt) → ((pf_33 13).toInt - (pf 13).toInt ≤ (pf_33 11).toInt - (pf 11).toInt) → (bp ta (pf 11) + 2 ≤ bp ta (pf_33 11)) → (x33_2.toInt = -1 ∨ x33_1.toInt + 1 ≤ x33_2.toInt) → (x33_2.toInt < (pf_33 13).toInt) → (FrB (pf 13).toInt na ma na_33 ma_33) → (FrW (pf 26).toInt wa wa_33) → (NdF (tf 6).toInt na_33 x33_1 28 (pf 11)) → (SwV ta (tf 6).toInt na_33 ma_33 x33_1 x33_2 (pf_33 13).toInt (3 * (bp ta (pf_33 11) - bp ta (pf 11)) - 3) (198 - (pf 12).toInt)) → (FsI (tf 6).toInt (pf_33 13).toInt na_33) → (K_mp_switching_33 (RL_mp_statement lv) ta pf na ma wa pf_33 na_33 ma_33 wa_33 x33_1 x33_2) → (tf 6).toInt - (pf_33 11).toInt < (n_33 : Int) → pw D A s.heap H locs [wdP cs h r g tf ta pf_33 na_33 ma_33 wa_33 cf ca ef ea xf xa] → lv_has ls 4 [(0, .ref h), (1, .int x33_1), (2, .int x33_2)] → W p l e { frames := (8 * lv + 26), cells := 1, slots := 6, locals := (220 * lv + 1200) } s m [.ref h].toArray below meth c H locs 0 0 (tx_MQ below (thQi D (va_A ([wdP cs h r g tf ta pf na ma wa cf ca ef ea xf xa] : List va_W).flatten s.heap.size) "java/lang/IllegalArgumentException" (fun v ps => ∃ (pf' : Nat → Int32) (na' : Nat → Nat → Int32) (ma' : Nat → Nat → Int32) (wa' : Nat → Nat → Int32), (ps = [wdP cs h r g tf ta pf' na' ma' wa' cf ca ef ea xf xa]) ∧ ((pf 11).toInt + 1 ≤ (pf' 11).toInt) ∧ ((pf' 11).toInt < (tf 6).toInt) ∧ ((pf 13).toInt + 1 ≤ (pf' 13).toInt) ∧ ((pf' 13).toInt - (pf 13).toInt ≤ (pf' 11).toInt - (pf 11).toInt) ∧ (bp ta (pf 11) + 1 ≤ bp ta (pf' 11)) ∧ ((pf' 12).toInt = (pf 12).toInt) ∧ ((pf' 24).toInt = (pf 24).toInt) ∧ ((pf' 25).toInt = (pf 25).toInt) ∧ ((pf' 26).toInt = (pf 26).toInt) ∧ (FrB (pf 13).toInt na ma na' ma') ∧ (FrW (pf 26).toInt wa wa') ∧ (VlS ta (tf 6).toInt na' ma' v (pf 13).toInt (pf' 13).toInt (3 * (bp ta (pf' 11) - bp ta (pf 11))) (200 - (pf 12).toInt)) ∧ (FsI (tf 6).toInt (pf' 13).toInt na') ∧ (R_mp_switching (RL_mp_statement lv) ta pf na ma wa pf' na' ma' wa' v 0)) (fun ps => ∃ (pf' : Nat → Int32) (na' : Nat → Nat → Int32) (ma' : Nat → Nat → Int32) (wa' : Nat → Nat → Int32), ps = [wdP cs h r g tf ta pf' na' ma' wa' cf ca ef ea xf xa] ∧ 0 ≤ (pf' 11).toInt ∧ (pf' 11).toInt + 1 ≤ (tf 6).toInt ∧ R_mp_switching (RL_mp_statement lv) ta pf na ma wa pf' na' ma' wa' 0 1) s.heap.size (tot s.heap)) [.ref h].toArray s 1 6 A) (F0 m 33 ls []) := by
    intro  n_33
    induction n_33 with
    | zero =>
      intro pf_33 na_33 ma_33 wa_33 x33_1 x33_2 H locs ls k33_0 k33_1 k33_2 k33_3 k33_4 k33_5 k33_6 k33_7 k33_8 k33_9 k33_10 k33_11 k33_12 k33_13 k33_14 k33_15 k33_16 k33_17 k33_18 hm hw hl
      have lx33_1 := Int32.le_toInt x33_1
      have ux33_1 := Int32.toInt_lt x33_1
      have lx33_2 := Int32.le_toInt x33_2
      have ux33_2 := Int32.toInt_lt x33_2
      have hfb := k33_13
      have hfw := k33_14
      have hf_14_x33_1 := k33_15.2.1
      have hf_15_x33_1 := k33_15.2.2.1
      have hf_21_x33_1 := k33_15.2.2.2.2
      have hnt_x33_1 := k33_15.2.2.2.1
      obtain ⟨a17, b18, m17, Wa17, Wr17, hf_17_x33_1, hf_18_x33_1, hm17, hm18, hv_a17, hz_x33_2, hW17, hW18, hx17⟩ := k33_16
      have hn_a17 := hv_a17.num fe_ok
      have rq_a17 := hf_17_x33_1
      have rq_b18 := hf_18_x33_1
      have hfs := k33_17
      exact absurd hm (by omega)
    | succ n_33 ih33 =>
      intro pf_33 na_33 ma_33 wa_33 x33_1 x33_2 H locs ls k33_0 k33_1 k33_2 k33_3 k33_4 k33_5 k33_6 k33_7 k33_8 k33_9 k33_10 k33_11 k33_12 k33_13 k33_14 k33_15 k33_16 k33_17 k33_18 hm hw hl
      have lx33_1 := Int32.le_toInt x33_1
      have ux33_1 := Int32.toInt_lt x33_1
      have lx33_2 := Int32.le_toInt x33_2
      have ux33_2 := Int32.toInt_lt x33_2
      have hfb := k33_13
      have hfw := k33_14
      have hf_14_x33_1 := k33_15.2.1
      have hf_15_x33_1 := k33_15.2.2.1
      have hf_21_x33_1 := k33_15.2.2.2.2
      have hnt_x33_1 := k33_15.2.2.2.1
      obtain ⟨a17, b18, m17, Wa17, Wr17, hf_17_x33_1, hf_18_x33_1, hm17, hm18, hv_a17, hz_x33_2, hW17, hW18, hx17⟩ := k33_16
      have hn_a17 := hv_a17.num fe_ok
      have rq_a17 := hf_17_x33_1
      have rq_b18 := hf_18_x33_1
      have hfs := k33_17
      refine lv_aload_n S.x S.b d_Mpg_switching_33 rfl (lv_at hl 0 rfl) ?_
      obtain ⟨sk1, hRsk1, st2, hSsk1⟩ := oP_litB hP (k := 93) (tx := "}") (n := 1) (List.mem_of_getElem? (i := 38) rfl)
      refine va_ldcS S.x S.b S.own hRsk1 d_Mpg_switching_34 ?_
      first | refine px_calli (pr := []) (px_runV (As := [.ref sk1]) (rest := []) S (c_mp_is l D cs sk1 1 (lby "}") h r g tf ta pf_33 na_33 ma_33 wa_33 cf ca ef ea xf xa   (show 0 ≤ (pf_33 11).toInt from (oz_f101e7799b k33_5 g0)) (show (pf_33 11).toInt < (tf 6).toInt from k33_6) (show (tf 6).toInt ≤ 2049 from g2) (show 1 ≤ 100 from by omega) htk _) hT (pr := []) (pcs := [wdP cs h r g tf ta pf_33 na_33 ma_33 wa_33 cf ca ef ea xf xa]) hw (oX_call (P := (fun A U H => (oP A g U H) ∧ (StLt A sk1 1 (lby "}") U H))) (pr := []) (oG_and oG_P oG_QB) hw hA ⟨hP, ⟨_, hSsk1⟩⟩) (px_recv hT hw 0 0 rfl rfl rfl) m11_217 m11_214 m11_216 ms_8_14 m1_21 q_Mpg_is ⟨show 3 + 1 ≤ (8 * lv + 26) from (oz_c9489fff6d), show 8 + (2 + 11) + 120 ≤ (220 * lv + 1200) from (oz_fbc1f1f2af)⟩ hl.1 rfl (Nat.le_of_ble_eq_true rfl) d_Mpg_switching_36 ⟨Nat.le_of_ble_eq_true rfl, Nat.le_of_ble_eq_true rfl⟩) hw hA (fun v5 p4 H locs hp4 hw => ?_) | (refine px_calli (pr := []) (px_runV (As := [.ref sk1]) (rest := []) S (c_mp_is l D cs sk1 1 (lby "}") h r g tf ta pf_33 na_33 ma_33 wa_33 cf ca ef ea xf xa   (show 0 ≤ (pf_33 11).toInt from by first | exact oz_f101e7799b k33_5 g0 | omega) (show (pf_33 11).toInt < (tf 6).toInt from by first | exact k33_6 | omega) (show (tf 6).toInt ≤ 2049 from by first | exact g2 | omega) (show 1 ≤ 100 from by omega) htk _) hT (pr := []) (pcs := [wdP cs h r g tf ta pf_33 na_33 ma_33 wa_33 cf ca ef ea xf xa]) hw (oX_call (P := (fun A U H => (oP A g U H) ∧ (StLt A sk1 1 (lby "}") U H))) (pr := []) (oG_and oG_P oG_QB) hw hA ⟨hP, ⟨_, hSsk1⟩⟩) (px_recv hT hw 0 0 rfl rfl rfl) m11_217 m11_214 m11_216 ms_8_14 m1_21 q_Mpg_is ⟨show 3 + 1 ≤ (8 * lv + 26) from (by first | exact oz_c9489fff6d | omega), show 8 + (2 + 11) + 120 ≤ (220 * lv + 1200) from (by first | exact oz_fbc1f1f2af | omega)⟩ hl.1 rfl (Nat.le_of_ble_eq_true rfl) d_Mpg_switching_36 ⟨Nat.le_of_ble_eq_true rfl, Nat.le_of_ble_eq_true rfl⟩) hw hA (fun v5 p4 H locs hp4 hw => ?_))
      obtain ⟨rfl, e6, e7, e8⟩ := hp4
      have e6 := z_rng e6
      have e7 : v5.toInt = 1 → (pf_33 11).toInt + 1 < (tf 6).toInt ∧ so ta (pf_33 11) = 5 := e7
      have e8 : R_mp_is 1 (lby "}") ta pf_33 v5 := e8
      have lv5 := Int32.le_toInt v5
      have uv5 := Int32.toInt_lt v5
      refine lv_if_ne (tgt := 173) S.x S.b d_Mpg_switching_39 (by decide) (fun c9 => ?_) (fun c9 => ?_)
      · have nc9 : ¬ v5.toInt = (0 : Int) := mt (i_eq (x := v5) (y := 0)).mpr c9
        refine lv_aload_n S.x S.b d_Mpg_switching_173 rfl (lv_at hl 0 rfl) ?_
        obtain ⟨sk11, hRsk11, st12, hSsk11⟩ := oP_litB hP (k := 93) (tx := "}") (n := 1) (List.mem_of_getElem? (i := 38) rfl)
        refine va_ldcS S.x S.b S.own hRsk11 d_Mpg_switching_174 ?_
        first | refine th_callv (ps0 := [wdP cs h r g tf ta pf na ma wa cf ca ef ea xf xa]) (pr := []) (pcs := [wdP cs h r g tf ta pf_33 na_33 ma_33 wa_33 cf ca ef ea xf xa]) (As := [.ref sk11]) (rest := []) (c_mp_closes l D cs sk11 1 (lby "}") h r g tf ta na_33 ma_33 wa_33 cf ca ef ea xf xa pf_33   (show 0 ≤ (pf_33 11).toInt from (oz_f101e7799b k33_5 g0)) (show (pf_33 11).toInt < (tf 6).toInt from k33_6) (show (tf 6).toInt ≤ 2049 from g2) (show 1 ≤ (pf_33 12).toInt from (oz_f363bd7209 k33_3 g3)) (show (pf_33 12).toInt ≤ 60 from k33_4) (show 1 ≤ 100 from by omega) hlf htk) S hT hw (oX_call (P := (fun A U H => (oN A U H) ∧ (oP A g U H) ∧ (StLt A sk11 1 (lby "}") U H))) (pr := []) (oG_and oG_N (oG_and oG_P oG_QB)) hw hA ⟨hN, hP, ⟨_, hSsk11⟩⟩) (px_recv hT hw 0 0 rfl rfl rfl) m12_53 m12_50 m12_52 ms_9_14 m1_21 q_Mpg_closes ⟨show 8 + 1 ≤ (8 * lv + 26) from (oz_1f16e6619d), show 8 + (2 + 11) + 280 ≤ (220 * lv + 1200) from (oz_ea450fcdf6)⟩ hl.1 rfl (Nat.le_of_ble_eq_true rfl) d_Mpg_switching_176 ⟨Nat.le_of_ble_eq_true rfl, Nat.le_of_ble_eq_true rfl⟩ hne hlk hA hAe (fun o t h => Or.inr h) ?_ (fun p16 H locs hp16 hw => ?_) | (refine th_callv (ps0 := [wdP cs h r g tf ta pf na ma wa cf ca ef ea xf xa]) (pr := []) (pcs := [wdP cs h r g tf ta pf_33 na_33 ma_33 wa_33 cf ca ef ea xf xa]) (As := [.ref sk11]) (rest := []) (c_mp_closes l D cs sk11 1 (lby "}") h r g tf ta na_33 ma_33 wa_33 cf ca ef ea xf xa pf_33   (show 0 ≤ (pf_33 11).toInt from by first | exact oz_f101e7799b k33_5 g0 | omega) (show (pf_33 11).toInt < (tf 6).toInt from by first | exact k33_6 | omega) (show (tf 6).toInt ≤ 2049 from by first | exact g2 | omega) (show 1 ≤ (pf_33 12).toInt from by first | exact oz_f363bd7209 k33_3 g3 | omega) (show (pf_33 12).toInt ≤ 60 from by first | exact k33_4 | omega) (show 1 ≤ 100 from by omega) hlf htk) S hT hw (oX_call (P := (fun A U H => (oN A U H) ∧ (oP A g U H) ∧ (StLt A sk11 1 (lby "}") U H))) (pr := []) (oG_and oG_N (oG_and oG_P oG_QB)) hw hA ⟨hN, hP, ⟨_, hSsk11⟩⟩) (px_recv hT hw 0 0 rfl rfl rfl) m12_53 m12_50 m12_52 ms_9_14 m1_21 q_Mpg_closes ⟨show 8 + 1 ≤ (8 * lv + 26) from (by first | exact oz_1f16e6619d | omega), show 8 + (2 + 11) + 280 ≤ (220 * lv + 1200) from (by first | exact oz_ea450fcdf6 | omega)⟩ hl.1 rfl (Nat.le_of_ble_eq_true rfl) d_Mpg_switching_176 ⟨Nat.le_of_ble_eq_true rfl, Nat.le_of_ble_eq_true rfl⟩ hne hlk hA hAe (fun o t h => Or.inr h) ?_ (fun p16 H locs hp16 hw => ?_))
        · exact fun p1 H1 locs1 hp hw => by obtain ⟨pq1, pq2, pq3, pq4, rfl, hq1, hq2, hu_na, hu_ma, hu_wa, hq3⟩ := hp; exact ⟨_, ⟨pq1, pq2, pq3, pq4, rfl, hq1, hq2, (k33_18 _ _ _ _ _ _ 1 (Or.inr (Or.inl ⟨rfl, x33_1, x33_2, rfl, rfl, rfl, rfl, rfl, a17, b18, rq_a17, rq_b18, v5, e8, Or.inl ⟨nc9, Or.inl ⟨pq1, hq3, rfl, hu_na, hu_ma, hu_wa, rfl, rfl⟩⟩⟩)))⟩, hw⟩
        obtain ⟨pf15, rfl, e18, e19, e20, e21, e22, e23, e24, e25, e26⟩ := hp16
        have e18 : (pf15 11).toInt = (pf_33 11).toInt + 1 := e18
        have e19 : (pf15 11).toInt < (tf 6).toInt := e19
        have e20 : bp ta (pf_33 11) + 1 ≤ bp ta (pf15 11) := e20
        have e21 : (pf15 12).toInt = (pf_33 12).toInt - 1 := e21
        have e22 : (pf15 13).toInt = (pf_33 13).toInt := e22
        have e23 : (pf15 24).toInt = (pf_33 24).toInt := e23
        have e24 : (pf15 25).toInt = (pf_33 25).toInt := e24
        have e25 : (pf15 26).toInt = (pf_33 26).toInt := e25
        have e26 : R_mp_closes 1 (lby "}") ta pf_33 pf15 0 := e26
        refine lv_aload_n S.x S.b d_Mpg_switching_179 rfl (lv_at hl 0 rfl) ?_
        refine lv_dup S.x S.b d_Mpg_switching_180 rfl ?_
        refine gP_12 (v := (pf15 12)) S hT hw 0 rfl rfl m9_236 d_Mpg_switching_181 ?_
        refine lv_iconst (v := 1) S.x S.b d_Mpg_switching_184 (by decide) ?_
        refine lv_isub S.x S.b d_Mpg_switching_185 ?_
        have lr27 := Int32.le_toInt (pf15 12)
        have ur27 := Int32.toInt_lt (pf15 12)
        refine lv_topi (fun z28 ez28 => ?_)
        have tz28 : z28.toInt = ((pf15 12).toInt - (1 : Int) + 2147483648) % 4294967296 - 2147483648 := by rw [ez28]; exact i_sub (pf15 12) 1
        have lz28 := Int32.le_toInt z28
        have uz28 := Int32.toInt_lt z28
        try replace tz28 : z28.toInt = (pf15 12).toInt - (1 : Int) := by omega
        refine pP_12 S hT hw 0 rfl m9_236 rfl rfl rfl d_Mpg_switching_186 (ps' := [wdP cs h r g tf ta (upd pf15 12 z28) na_33 ma_33 wa_33 cf ca ef ea xf xa]) rfl (fun H locs hw => ?_)
        refine lv_iload_n S.x S.b d_Mpg_switching_189 rfl (lv_at hl 1 rfl) ?_
        first | exact th_iret (v := x33_1) S hr rfl hlk hAe hw (⟨(upd pf15 12 z28), na_33, ma_33, wa_33, rfl, (show (pf 11).toInt + 1 ≤ (pf15 11).toInt from (oz_b3999dd098 k33_5 e18)), (show (pf15 11).toInt < (tf 6).toInt from e19), (show (pf 13).toInt + 1 ≤ (pf15 13).toInt from (oz_5e3266e4e3 k33_7 e22 k33_8)), (show (pf15 13).toInt - (pf 13).toInt ≤ (pf15 11).toInt - (pf 11).toInt from (oz_050fdfc2ab k33_9 e18 e22)), (show bp ta (pf 11) + 1 ≤ bp ta (pf15 11) from (oz_23ccec68f2 k33_10 e20)), (show z28.toInt = (pf 12).toInt from (oz_c8502d292a k33_3 tz28 e21)), (show (pf15 24).toInt = (pf 24).toInt from (oz_1687f4cc65 k33_0 e23)), (show (pf15 25).toInt = (pf 25).toInt from (oz_1687f4cc65 k33_1 e24)), (show (pf15 26).toInt = (pf 26).toInt from (oz_1687f4cc65 k33_2 e25)), (show FrB (pf 13).toInt na ma na_33 ma_33 from hfb), (show FrW (pf 26).toInt wa wa_33 from hfw), (show VlS ta (tf 6).toInt na_33 ma_33 x33_1 (pf 13).toInt (pf15 13).toInt (3 * (bp ta (pf15 11) - bp ta (pf 11))) (200 - (pf 12).toInt) from (VlV.le (st_switch (hi := (pf15 13).toInt) (D := (198 - (pf 12).toInt)) (x := x33_2) ⟨by omega, hf_14_x33_1, hf_15_x33_1, ⟨by omega, by omega⟩, hf_21_x33_1⟩ hf_17_x33_1 (by omega) (VlV.le hv_a17 (Int.le_refl _) (Int.le_refl _) (Int.le_refl _) (by omega)) (by rw [hf_18_x33_1]; exact RzV.le hz_x33_2 (Int.le_refl _) (by omega) (Int.le_refl _) (by omega)) (by omega) (by omega) (by omega)) (by omega) (by omega) (by omega) (by omega))), (show FsI (tf 6).toInt (pf15 13).toInt na_33 from (FsI.le hfs (by omega))), (show R_mp_switching (RL_mp_statement lv) ta pf na ma wa (upd pf15 12 z28) na_33 ma_33 wa_33 x33_1 0 from (k33_18 _ _ _ _ _ _ 1 (Or.inr (Or.inl ⟨rfl, x33_1, x33_2, rfl, rfl, rfl, rfl, rfl, a17, b18, rq_a17, rq_b18, v5, e8, Or.inl ⟨nc9, Or.inr ⟨pf15, e26, z28, ez28, rfl, rfl, rfl, rfl, rfl, rfl⟩⟩⟩))))⟩) d_Mpg_switching_190 | (exact th_iret (v := x33_1) S hr rfl hlk hAe hw (⟨(upd pf15 12 z28), na_33, ma_33, wa_33, rfl, (show (pf 11).toInt + 1 ≤ (pf15 11).toInt from by first | exact oz_b3999dd098 k33_5 e18 | omega), (show (pf15 11).toInt < (tf 6).toInt from by first | exact e19 | omega), (show (pf 13).toInt + 1 ≤ (pf15 13).toInt from by first | exact oz_5e3266e4e3 k33_7 e22 k33_8 | omega), (show (pf15 13).toInt - (pf 13).toInt ≤ (pf15 11).toInt - (pf 11).toInt from by first | exact oz_050fdfc2ab k33_9 e18 e22 | omega), (show bp ta (pf 11) + 1 ≤ bp ta (pf15 11) from by first | exact oz_23ccec68f2 k33_10 e20 | omega), (show z28.toInt = (pf 12).toInt from by first | exact oz_c8502d292a k33_3 tz28 e21 | omega), (show (pf15 24).toInt = (pf 24).toInt from by first | exact oz_1687f4cc65 k33_0 e23 | omega), (show (pf15 25).toInt = (pf 25).toInt from by first | exact oz_1687f4cc65 k33_1 e24 | omega), (show (pf15 26).toInt = (pf 26).toInt from by first | exact oz_1687f4cc65 k33_2 e25 | omega), (show FrB (pf 13).toInt na ma na_33 ma_33 from hfb), (show FrW (pf 26).toInt wa wa_33 from hfw), (show VlS ta (tf 6).toInt na_33 ma_33 x33_1 (pf 13).toInt (pf15 13).toInt (3 * (bp ta (pf15 11) - bp ta (pf 11))) (200 - (pf 12).toInt) from (VlV.le (st_switch (hi := (pf15 13).toInt) (D := (198 - (pf 12).toInt)) (x := x33_2) ⟨by omega, hf_14_x33_1, hf_15_x33_1, ⟨by omega, by omega⟩, hf_21_x33_1⟩ hf_17_x33_1 (by omega) (VlV.le hv_a17 (Int.le_refl _) (Int.le_refl _) (Int.le_refl _) (by omega)) (by rw [hf_18_x33_1]; exact RzV.le hz_x33_2 (Int.le_refl _) (by omega) (Int.le_refl _) (by omega)) (by omega) (by omega) (by omega)) (by omega) (by omega) (by omega) (by omega))), (show FsI (tf 6).toInt (pf15 13).toInt na_33 from (FsI.le hfs (by omega))), (show R_mp_switching (RL_mp_statement lv) ta pf na ma wa (upd pf15 12 z28) na_33 ma_33 wa_33 x33_1 0 from (k33_18 _ _ _ _ _ _ 1 (Or.inr (Or.inl ⟨rfl, x33_1, x33_2, rfl, rfl, rfl, rfl, rfl, a17, b18, rq_a17, rq_b18, v5, e8, Or.inl ⟨nc9, Or.inr ⟨pf15, e26, z28, ez28, rfl, rfl, rfl, rfl, rfl, rfl⟩⟩⟩))))⟩) d_Mpg_switching_190)
      · have nc9 : v5.toInt = (0 : Int) := (i_eq (x := v5) (y := 0)).mp c9
        refine lv_iconst (v := (-1)) S.x S.b d_Mpg_switching_42 (by decide) ?_
        refine lv_istore_n (lv' := [(3, .int (-1)), (0, .ref h), (1, .int x33_1), (2, .int x33_2)]) S.x S.b d_Mpg_switching_43 rfl hl (by decide) rfl (fun ls hl => ?_)
        refine lv_aload_n S.x S.b d_Mpg_switching_44 rfl (lv_at hl 1 rfl) ?_
        refine lv_bipush (v := 10) S.x S.b d_Mpg_switching_45 (by decide) ?_
        first | refine px_calli (pr := []) (px_runV (As := [.int 10]) (rest := []) S (c_mp_isKey l D cs h r g tf ta pf_33 na_33 ma_33 wa_33 cf ca ef ea xf xa 10  (show 0 ≤ (pf_33 11).toInt from (oz_f101e7799b k33_5 g0)) (show (pf_33 11).toInt < (tf 6).toInt from k33_6) (show (tf 6).toInt ≤ 2049 from g2) htk _) hT (pr := []) (pcs := [wdP cs h r g tf ta pf_33 na_33 ma_33 wa_33 cf ca ef ea xf xa]) hw px_X.tt (px_recv hT hw 0 0 rfl rfl rfl) m11_201 m11_198 m11_200 ms_8_10 m1_21 q_Mpg_isKey ⟨show 0 + 1 ≤ (8 * lv + 26) from (oz_3fe2768530), show 8 + (2 + 11) + 0 ≤ (220 * lv + 1200) from (oz_31eee500a7)⟩ hl.1 rfl (Nat.le_of_ble_eq_true rfl) d_Mpg_switching_47 ⟨Nat.le_of_ble_eq_true rfl, Nat.le_of_ble_eq_true rfl⟩) hw hA (fun v30 p29 H locs hp29 hw => ?_) | (refine px_calli (pr := []) (px_runV (As := [.int 10]) (rest := []) S (c_mp_isKey l D cs h r g tf ta pf_33 na_33 ma_33 wa_33 cf ca ef ea xf xa 10  (show 0 ≤ (pf_33 11).toInt from by first | exact oz_f101e7799b k33_5 g0 | omega) (show (pf_33 11).toInt < (tf 6).toInt from by first | exact k33_6 | omega) (show (tf 6).toInt ≤ 2049 from by first | exact g2 | omega) htk _) hT (pr := []) (pcs := [wdP cs h r g tf ta pf_33 na_33 ma_33 wa_33 cf ca ef ea xf xa]) hw px_X.tt (px_recv hT hw 0 0 rfl rfl rfl) m11_201 m11_198 m11_200 ms_8_10 m1_21 q_Mpg_isKey ⟨show 0 + 1 ≤ (8 * lv + 26) from (by first | exact oz_3fe2768530 | omega), show 8 + (2 + 11) + 0 ≤ (220 * lv + 1200) from (by first | exact oz_31eee500a7 | omega)⟩ hl.1 rfl (Nat.le_of_ble_eq_true rfl) d_Mpg_switching_47 ⟨Nat.le_of_ble_eq_true rfl, Nat.le_of_ble_eq_true rfl⟩) hw hA (fun v30 p29 H locs hp29 hw => ?_))
        obtain ⟨rfl, e31, e32, e33⟩ := hp29
        have e31 := z_rng e31
        have e32 : v30.toInt = 1 → (pf_33 11).toInt + 1 < (tf 6).toInt ∧ so ta (pf_33 11) = 2 ∧ wh ta (pf_33 11) = (10 : Int) := e32
        have e33 : R_mp_isKey ta pf_33 (10 : Int32) v30 := e33
        have lv30 := Int32.le_toInt v30
        have uv30 := Int32.toInt_lt v30
        refine lv_if_eq (tgt := 93) S.x S.b d_Mpg_switching_50 (by decide) (fun c34 => ?_) (fun c34 => ?_)
        · have nc34 : v30.toInt = (0 : Int) := (i_eq (x := v30) (y := 0)).mp c34
          refine lv_aload_n S.x S.b d_Mpg_switching_93 rfl (lv_at hl 1 rfl) ?_
          refine lv_bipush (v := 11) S.x S.b d_Mpg_switching_94 (by decide) ?_
          first | refine px_calli (pr := []) (px_runV (As := [.int 11]) (rest := []) S (c_mp_isKey l D cs h r g tf ta pf_33 na_33 ma_33 wa_33 cf ca ef ea xf xa 11  (show 0 ≤ (pf_33 11).toInt from (oz_f101e7799b k33_5 g0)) (show (pf_33 11).toInt < (tf 6).toInt from k33_6) (show (tf 6).toInt ≤ 2049 from g2) htk _) hT (pr := []) (pcs := [wdP cs h r g tf ta pf_33 na_33 ma_33 wa_33 cf ca ef ea xf xa]) hw px_X.tt (px_recv hT hw 0 0 rfl rfl rfl) m11_201 m11_198 m11_200 ms_8_10 m1_21 q_Mpg_isKey ⟨show 0 + 1 ≤ (8 * lv + 26) from (oz_3fe2768530), show 8 + (2 + 11) + 0 ≤ (220 * lv + 1200) from (oz_31eee500a7)⟩ hl.1 rfl (Nat.le_of_ble_eq_true rfl) d_Mpg_switching_96 ⟨Nat.le_of_ble_eq_true rfl, Nat.le_of_ble_eq_true rfl⟩) hw hA (fun v37 p36 H locs hp36 hw => ?_) | (refine px_calli (pr := []) (px_runV (As := [.int 11]) (rest := []) S (c_mp_isKey l D cs h r g tf ta pf_33 na_33 ma_33 wa_33 cf ca ef ea xf xa 11  (show 0 ≤ (pf_33 11).toInt from by first | exact oz_f101e7799b k33_5 g0 | omega) (show (pf_33 11).toInt < (tf 6).toInt from by first | exact k33_6 | omega) (show (tf 6).toInt ≤ 2049 from by first | exact g2 | omega) htk _) hT (pr := []) (pcs := [wdP cs h r g tf ta pf_33 na_33 ma_33 wa_33 cf ca ef ea xf xa]) hw px_X.tt (px_recv hT hw 0 0 rfl rfl rfl) m11_201 m11_198 m11_200 ms_8_10 m1_21 q_Mpg_isKey ⟨show 0 + 1 ≤ (8 * lv + 26) from (by first | exact oz_3fe2768530 | omega), show 8 + (2 + 11) + 0 ≤ (220 * lv + 1200) from (by first | exact oz_31eee500a7 | omega)⟩ hl.1 rfl (Nat.le_of_ble_eq_true rfl) d_Mpg_switching_96 ⟨Nat.le_of_ble_eq_true rfl, Nat.le_of_ble_eq_true rfl⟩) hw hA (fun v37 p36 H locs hp36 hw => ?_))
          obtain ⟨rfl, e38, e39, e40⟩ := hp36
          have e38 := z_rng e38
          have e39 : v37.toInt = 1 → (pf_33 11).toInt + 1 < (tf 6).toInt ∧ so ta (pf_33 11) = 2 ∧ wh ta (pf_33 11) = (11 : Int) := e39
          have e40 : R_mp_isKey ta pf_33 (11 : Int32) v37 := e40
          have lv37 := Int32.le_toInt v37
          have uv37 := Int32.toInt_lt v37
          refine lv_if_eq (tgt := 132) S.x S.b d_Mpg_switching_99 (by decide) (fun c41 => ?_) (fun c41 => ?_)
          · have nc41 : v37.toInt = (0 : Int) := (i_eq (x := v37) (y := 0)).mp c41
            refine lv_aload_n S.x S.b d_Mpg_switching_132 rfl (lv_at hl 1 rfl) ?_
            refine lv_iload_n S.x S.b d_Mpg_switching_133 rfl (lv_at hl 3 rfl) ?_
            refine lv_if_lt (tgt := 141) S.x S.b d_Mpg_switching_134 (by decide) (fun c43 => ?_) (fun c43 => ?_)
            · have nc43 : x33_2.toInt < (0 : Int) := (i_lt (x := x33_2) (y := 0)).mp c43
              refine lv_iconst (v := 0) S.x S.b d_Mpg_switching_141 (by decide) ?_
              first | refine th_callv (ps0 := [wdP cs h r g tf ta pf na ma wa cf ca ef ea xf xa]) (pr := [wdP cs h r g tf ta pf_33 na_33 ma_33 wa_33 cf ca ef ea xf xa]) (pcs := []) (As := [.int 0]) (rest := []) (c_mp_need l hlf D cs h 0) S hT hw (oX_call (P := (fun A U H => (oN A U H))) (pr := [wdP cs h r g tf ta pf_33 na_33 ma_33 wa_33 cf ca ef ea xf xa]) oG_N hw hA hN) (px_recv hT hw 0 0 rfl rfl rfl) m11_233 m11_230 m11_232 ms_9_0 m1_21 q_Mpg_need ⟨show 6 + 1 ≤ (8 * lv + 26) from (oz_c236c17a10), show 8 + (2 + 11) + 100 ≤ (220 * lv + 1200) from (oz_4b916428d7)⟩ hl.1 rfl (Nat.le_of_ble_eq_true rfl) d_Mpg_switching_142 ⟨Nat.le_of_ble_eq_true rfl, Nat.le_of_ble_eq_true rfl⟩ hne hlk hA hAe (fun o t h => Or.inr h) ?_ (fun p45 H locs hp45 hw => ?_) | (refine th_callv (ps0 := [wdP cs h r g tf ta pf na ma wa cf ca ef ea xf xa]) (pr := [wdP cs h r g tf ta pf_33 na_33 ma_33 wa_33 cf ca ef ea xf xa]) (pcs := []) (As := [.int 0]) (rest := []) (c_mp_need l hlf D cs h 0) S hT hw (oX_call (P := (fun A U H => (oN A U H))) (pr := [wdP cs h r g tf ta pf_33 na_33 ma_33 wa_33 cf ca ef ea xf xa]) oG_N hw hA hN) (px_recv hT hw 0 0 rfl rfl rfl) m11_233 m11_230 m11_232 ms_9_0 m1_21 q_Mpg_need ⟨show 6 + 1 ≤ (8 * lv + 26) from (by first | exact oz_c236c17a10 | omega), show 8 + (2 + 11) + 100 ≤ (220 * lv + 1200) from (by first | exact oz_4b916428d7 | omega)⟩ hl.1 rfl (Nat.le_of_ble_eq_true rfl) d_Mpg_switching_142 ⟨Nat.le_of_ble_eq_true rfl, Nat.le_of_ble_eq_true rfl⟩ hne hlk hA hAe (fun o t h => Or.inr h) ?_ (fun p45 H locs hp45 hw => ?_))
              · exact fun p1 H1 locs1 hp hw => by obtain ⟨rfl, hq0⟩ := hp; exact ⟨_, ⟨pf_33, na_33, ma_33, wa_33, rfl, by omega, by omega, (k33_18 _ _ _ _ _ _ 1 (Or.inr (Or.inl ⟨rfl, x33_1, x33_2, rfl, rfl, rfl, rfl, rfl, a17, b18, rq_a17, rq_b18, v5, e8, Or.inr ⟨nc9, v30, e33, Or.inl ⟨nc34, v37, e40, Or.inl ⟨nc41, Or.inl ⟨nc43, Or.inl ⟨hq0, rfl, rfl, rfl, rfl, rfl, rfl⟩⟩⟩⟩⟩⟩)))⟩, hw.sub [0] rfl rfl⟩
              obtain ⟨rfl, hndp45⟩ := hp45
              have hndp45 : ¬ (0 : Int) = 0 := hndp45
              refine lv_aload_n S.x S.b d_Mpg_switching_145 rfl (lv_at hl 1 rfl) ?_
              first | refine th_calli (ps0 := [wdP cs h r g tf ta pf na ma wa cf ca ef ea xf xa]) (pr := []) (pcs := [wdP cs h r g tf ta pf_33 na_33 ma_33 wa_33 cf ca ef ea xf xa]) (As := []) (rest := []) ((hLT.go (by omega)) h r g tf ta cf ca ef ea xf xa pf_33 na_33 ma_33 wa_33   (show 0 ≤ (pf_33 11).toInt from (oz_f101e7799b k33_5 g0)) (show (pf_33 11).toInt < (tf 6).toInt from k33_6) (show (tf 6).toInt ≤ 2049 from g2) (show 0 ≤ (pf_33 12).toInt from (oz_1c15e031a7 k33_3 g3)) (show (pf_33 12).toInt ≤ 60 from k33_4) (show 0 ≤ (pf_33 13).toInt from (oz_36c2aaaab5 k33_8 g5 k33_7)) (show (pf_33 13).toInt ≤ (pf_33 11).toInt + 10 from (oz_80aa4b08cf k33_9 g6)) (show 0 ≤ (pf_33 26).toInt from (oz_f3ebed1ad0 k33_2 g7)) (show (pf_33 26).toInt ≤ (pf_33 12).toInt from (oz_bdbcb40766 k33_2 k33_3 g8)) (show 61 ≤ (pf_33 12).toInt + ((lv - 1 : Nat) : Int) from by omega) (show lv - 1 ≤ 61 from by omega) hlf htk (FsI.le (N' := (pf_33 13).toInt) hfs (by omega))) S hT hw (oX_call (P := (fun A U H => (oN A U H) ∧ (oP A g U H))) (pr := []) (oG_and oG_N oG_P) hw hA ⟨hN, hP⟩) (px_recv hT hw 0 0 rfl rfl rfl) m12_101 m12_98 m12_100 ms_10_10 m1_21 q_Mpg_statement ⟨show (8 * (lv - 1) + 28) + 1 ≤ (8 * lv + 26) from by omega, show 8 + (2 + 11) + (220 * (lv - 1) + 1280) ≤ (220 * lv + 1200) from by omega⟩ hl.1 rfl (Nat.le_of_ble_eq_true rfl) d_Mpg_switching_146 ⟨Nat.le_of_ble_eq_true rfl, Nat.le_of_ble_eq_true rfl⟩ hne hlk hA hAe (fun o t h => Or.inr h) ?_ (fun v56 p55 H locs hp55 hw => ?_) | (refine th_calli (ps0 := [wdP cs h r g tf ta pf na ma wa cf ca ef ea xf xa]) (pr := []) (pcs := [wdP cs h r g tf ta pf_33 na_33 ma_33 wa_33 cf ca ef ea xf xa]) (As := []) (rest := []) ((hLT.go (by omega)) h r g tf ta cf ca ef ea xf xa pf_33 na_33 ma_33 wa_33   (show 0 ≤ (pf_33 11).toInt from by first | exact oz_f101e7799b k33_5 g0 | omega) (show (pf_33 11).toInt < (tf 6).toInt from by first | exact k33_6 | omega) (show (tf 6).toInt ≤ 2049 from by first | exact g2 | omega) (show 0 ≤ (pf_33 12).toInt from by first | exact oz_1c15e031a7 k33_3 g3 | omega) (show (pf_33 12).toInt ≤ 60 from by first | exact k33_4 | omega) (show 0 ≤ (pf_33 13).toInt from by first | exact oz_36c2aaaab5 k33_8 g5 k33_7 | omega) (show (pf_33 13).toInt ≤ (pf_33 11).toInt + 10 from by first | exact oz_80aa4b08cf k33_9 g6 | omega) (show 0 ≤ (pf_33 26).toInt from by first | exact oz_f3ebed1ad0 k33_2 g7 | omega) (show (pf_33 26).toInt ≤ (pf_33 12).toInt from by first | exact oz_bdbcb40766 k33_2 k33_3 g8 | omega) (show 61 ≤ (pf_33 12).toInt + ((lv - 1 : Nat) : Int) from by omega) (show lv - 1 ≤ 61 from by omega) hlf htk (FsI.le (N' := (pf_33 13).toInt) hfs (by omega))) S hT hw (oX_call (P := (fun A U H => (oN A U H) ∧ (oP A g U H))) (pr := []) (oG_and oG_N oG_P) hw hA ⟨hN, hP⟩) (px_recv hT hw 0 0 rfl rfl rfl) m12_101 m12_98 m12_100 ms_10_10 m1_21 q_Mpg_statement ⟨show (8 * (lv - 1) + 28) + 1 ≤ (8 * lv + 26) from by omega, show 8 + (2 + 11) + (220 * (lv - 1) + 1280) ≤ (220 * lv + 1200) from by omega⟩ hl.1 rfl (Nat.le_of_ble_eq_true rfl) d_Mpg_switching_146 ⟨Nat.le_of_ble_eq_true rfl, Nat.le_of_ble_eq_true rfl⟩ hne hlk hA hAe (fun o t h => Or.inr h) ?_ (fun v56 p55 H locs hp55 hw => ?_))
              · exact fun p1 H1 locs1 hp hw => by obtain ⟨pq1, pq2, pq3, pq4, rfl, hq1, hq2, hq3⟩ := hp; (first | exact ⟨_, ⟨pq1, pq2, pq3, pq4, rfl, hq1, hq2, (k33_18 _ _ _ _ _ _ 1 (Or.inr (Or.inl ⟨rfl, x33_1, x33_2, rfl, rfl, rfl, rfl, rfl, a17, b18, rq_a17, rq_b18, v5, e8, Or.inr ⟨nc9, v30, e33, Or.inl ⟨nc34, v37, e40, Or.inl ⟨nc41, Or.inl ⟨nc43, Or.inr ⟨hndp45, Or.inl ⟨pq1, pq2, pq3, pq4, (up_RL_mp_statement (show 1 ≤ lv from (oz_6721671b0f g9 g4)) ▸ hq3), rfl, rfl, rfl, rfl, rfl, rfl⟩⟩⟩⟩⟩⟩⟩)))⟩, hw⟩ | (exact ⟨_, ⟨pq1, pq2, pq3, pq4, rfl, hq1, hq2, (k33_18 _ _ _ _ _ _ 1 (Or.inr (Or.inl ⟨rfl, x33_1, x33_2, rfl, rfl, rfl, rfl, rfl, a17, b18, rq_a17, rq_b18, v5, e8, Or.inr ⟨nc9, v30, e33, Or.inl ⟨nc34, v37, e40, Or.inl ⟨nc41, Or.inl ⟨nc43, Or.inr ⟨hndp45, Or.inl ⟨pq1, pq2, pq3, pq4, (up_RL_mp_statement (show 1 ≤ lv from by first | exact oz_6721671b0f g9 g4 | omega) ▸ hq3), rfl, rfl, rfl, rfl, rfl, rfl⟩⟩⟩⟩⟩⟩⟩)))⟩, hw⟩))
              obtain ⟨pf51, na52, ma53, wa54, rfl, e57, e58, e59, e60, e61, e62, e63, e64, e65, e66, e67, e68, e69, e70⟩ := hp55
              have e57 : (pf_33 11).toInt + 1 ≤ (pf51 11).toInt := e57
              have e58 : (pf51 11).toInt < (tf 6).toInt := e58
              have e59 : (pf_33 13).toInt + 1 ≤ (pf51 13).toInt := e59
              have e60 : (pf51 13).toInt - (pf_33 13).toInt ≤ (pf51 11).toInt - (pf_33 11).toInt := e60
              have e61 : bp ta (pf_33 11) + 1 ≤ bp ta (pf51 11) := e61
              have e62 : (pf51 12).toInt = (pf_33 12).toInt := e62
              have e63 : (pf51 24).toInt = (pf_33 24).toInt := e63
              have e64 : (pf51 25).toInt = (pf_33 25).toInt := e64
              have e65 : (pf51 26).toInt = (pf_33 26).toInt := e65
              have e66 : FrB (pf_33 13).toInt na_33 ma_33 na52 ma53 := e66
              have hf_14_x33_1 := (fb_n e66 (by omega) (by omega)).trans hf_14_x33_1
              have hf_15_x33_1 := (fb_n e66 (by omega) (by omega)).trans hf_15_x33_1
              have hf_21_x33_1 := (fb_n e66 (by omega) (by omega)).trans hf_21_x33_1
              have hf_17_x33_1 := (fb_n e66 (by omega) (by omega)).trans hf_17_x33_1
              have hf_18_x33_1 := (fb_m e66 (by omega) (by omega)).trans hf_18_x33_1
              have hv_a17 := hv_a17.ag fe_ok (FrB.ag e66 (by omega))
              have hz_x33_2 := hz_x33_2.ag fs_ok (FrB.ag e66 (by omega))
              have hfb := hfb.tr e66 (by omega)
              have e67 : FrW (pf_33 26).toInt wa_33 wa54 := e67
              have hfw := hfw.tr e67 (by omega)
              have e68 : VlS ta (tf 6).toInt na52 ma53 v56 (pf_33 13).toInt (pf51 13).toInt (3 * (bp ta (pf51 11) - bp ta (pf_33 11))) (200 - (pf_33 12).toInt) := e68
              have hv_v56 := e68
              have hn_hv_v56 := hv_v56.num fs_ok
              have e69 : FsI (tf 6).toInt (pf51 13).toInt na52 := e69
              have hfs := e69
              have e70 : R_mp_statement (RL_mp_statement (lv - 1)) ta pf_33 na_33 ma_33 wa_33 pf51 na52 ma53 wa54 v56 0 := e70
              first | have e70L : (RL_mp_statement lv) ta pf_33 na_33 ma_33 wa_33 pf51 na52 ma53 wa54 v56 0 := up_RL_mp_statement (show 1 ≤ lv from (oz_6721671b0f g9 g4)) ▸ e70 | (have e70L : (RL_mp_statement lv) ta pf_33 na_33 ma_33 wa_33 pf51 na52 ma53 wa54 v56 0 := up_RL_mp_statement (show 1 ≤ lv from by first | exact oz_6721671b0f g9 g4 | omega) ▸ e70)
              have lv56 := Int32.le_toInt v56
              have uv56 := Int32.toInt_lt v56
              refine lv_istore_n (lv' := [(3, .int v56), (0, .ref h), (1, .int x33_1), (2, .int x33_2)]) S.x S.b d_Mpg_switching_149 rfl hl (by decide) rfl (fun ls hl => ?_)
              refine lv_aload_n S.x S.b d_Mpg_switching_150 rfl (lv_at hl 1 rfl) ?_
              refine gP_18 S hT hw 0 rfl m10_3 d_Mpg_switching_151 ?_
              refine lv_iload_n S.x S.b d_Mpg_switching_154 rfl (lv_at hl 2 rfl) ?_
              refine lv_aload_n S.x S.b d_Mpg_switching_155 rfl (lv_at hl 1 rfl) ?_
              refine lv_aload_n S.x S.b d_Mpg_switching_156 rfl (lv_at hl 1 rfl) ?_
              refine gP_18 S hT hw 0 rfl m10_3 d_Mpg_switching_157 ?_
              refine lv_iload_n S.x S.b d_Mpg_switching_160 rfl (lv_at hl 2 rfl) ?_
              refine px_iald S hT hw 0 14 (n := 2100) (f := (ma53 18)) rfl gp_18 (x := x33_1) (vp_in_iff.mpr (by first | exact oz_0cb7fdb6b4 k33_7 g5 g6 k33_5 e57 e58 g2 | (constructor <;> omega))) d_Mpg_switching_161 ?_
              refine lv_topi (fun z71 ez71 => ?_)
              have lz71 := Int32.le_toInt z71
              have uz71 := Int32.toInt_lt z71
              have hsz71 : b18 = z71 := (ez71.trans hf_18_x33_1).symm; subst hsz71
              refine lv_iload_n S.x S.b d_Mpg_switching_162 rfl (lv_at hl 3 rfl) ?_
              refine lv_iload_n S.x S.b d_Mpg_switching_163 rfl (lv_at hl 0 rfl) ?_
              first | refine px_calli (pr := []) (px_runV (As := [.int b18, .int x33_2, .int v56]) (rest := [.int x33_1, .ref (r 18)]) S (c_mp_hang l D cs h r g tf ta pf51 ma53 wa54 cf ca ef ea xf xa na52 b18 x33_2 v56  (show x33_2.toInt < 2100 from (oz_f68e1bae62 nc43)) htk _) hT (pr := []) (pcs := [wdP cs h r g tf ta pf51 na52 ma53 wa54 cf ca ef ea xf xa]) hw px_X.tt (px_recv hT hw 0 0 rfl rfl rfl) m12_77 m12_74 m12_76 ms_10_4 m1_21 q_Mpg_hang ⟨show 0 + 1 ≤ (8 * lv + 26) from (oz_3fe2768530), show 8 + (4 + 11) + 0 ≤ (220 * lv + 1200) from (oz_a3b70bbbba)⟩ hl.1 rfl (Nat.le_of_ble_eq_true rfl) d_Mpg_switching_164 ⟨Nat.le_of_ble_eq_true rfl, Nat.le_of_ble_eq_true rfl⟩) hw hA (fun v75 p74 H locs hp74 hw => ?_) | (refine px_calli (pr := []) (px_runV (As := [.int b18, .int x33_2, .int v56]) (rest := [.int x33_1, .ref (r 18)]) S (c_mp_hang l D cs h r g tf ta pf51 ma53 wa54 cf ca ef ea xf xa na52 b18 x33_2 v56  (show x33_2.toInt < 2100 from by first | exact oz_f68e1bae62 nc43 | omega) htk _) hT (pr := []) (pcs := [wdP cs h r g tf ta pf51 na52 ma53 wa54 cf ca ef ea xf xa]) hw px_X.tt (px_recv hT hw 0 0 rfl rfl rfl) m12_77 m12_74 m12_76 ms_10_4 m1_21 q_Mpg_hang ⟨show 0 + 1 ≤ (8 * lv + 26) from (by first | exact oz_3fe2768530 | omega), show 8 + (4 + 11) + 0 ≤ (220 * lv + 1200) from (by first | exact oz_a3b70bbbba | omega)⟩ hl.1 rfl (Nat.le_of_ble_eq_true rfl) d_Mpg_switching_164 ⟨Nat.le_of_ble_eq_true rfl, Nat.le_of_ble_eq_true rfl⟩) hw hA (fun v75 p74 H locs hp74 hw => ?_))
              obtain ⟨na73, rfl, e76, e77⟩ := hp74
              have e76 : Hg na52 na73 b18 x33_2 v56 v75 := e76
              have hf_14_x33_1 := (Hg.fld e76 (by omega) (by omega)).trans hf_14_x33_1
              have hf_15_x33_1 := (Hg.fld e76 (by omega) (by omega)).trans hf_15_x33_1
              have hf_21_x33_1 := (Hg.fld e76 (by omega) (by omega)).trans hf_21_x33_1
              have hf_17_x33_1 := (Hg.fld e76 (by omega) (by omega)).trans hf_17_x33_1
              have hrw_v56 := Hg.row e76 fs_ok hz_x33_2 (VlV.le hv_v56 (by omega) (Int.le_refl _) (Int.le_refl _) (by omega)) (by omega) (by omega)
              have hn_hrw_v56 := hrw_v56.num
              have hv_a17 := hv_a17.ag fe_ok (Hg.ag e76 (by omega))
              have hfb := Hg.fb e76 hfb (by omega)
              have hfs := FsI.hg hfs e76
              have e77 : R_mp_hang b18 x33_2 v56 na52 na73 v75 := e77
              have lv75 := Int32.le_toInt v75
              have uv75 := Int32.toInt_lt v75
              refine px_iast S hT hw 0 14 (n := 2100) (f := (ma53 18)) (x := x33_1) (y := v75) rfl gp_18 (vp_in_iff.mpr (by constructor <;> omega)) d_Mpg_switching_167 (w' := wdP cs h r g tf ta pf51 na73 (va_up ma53 18 (upd (ma53 18) x33_1.toNatClampNeg v75)) wa54 cf ca ef ea xf xa) (ps' := [wdP cs h r g tf ta pf51 na73 (va_up ma53 18 (upd (ma53 18) x33_1.toNatClampNeg v75)) wa54 cf ca ef ea xf xa]) sp_18 rfl (fun H locs hw => ?_)
              obtain ⟨ma78, hu_ma78⟩ : ∃ y : Nat → Nat → Int32, y = va_up ma53 18 (upd (ma53 18) x33_1.toNatClampNeg v75) := ⟨_, rfl⟩
              have hw : pw D A s.heap _ _ [wdP cs h r g tf ta pf51 na73 ma78 wa54 cf ca ef ea xf xa] := (by rw [hu_ma78]; exact hw)
              have hv_a17 := hv_a17.ag fe_ok (ag_m hu_ma78 (by omega) (by omega))
              have hrw_v56 := hrw_v56.ag fs_ok (ag_m hu_ma78 (by omega) (by omega))
              have hf_18_x33_1 : ma78 18 x33_1.toNatClampNeg = v75 := (by rw [hu_ma78, va_up_s, pk_us])
              have hfb : FrB (pf 13).toInt na ma na73 ma78 := (by rw [hu_ma78]; exact FrB.um hfb (by omega) (by omega))
              refine lv_iload_n S.x S.b d_Mpg_switching_168 rfl (lv_at hl 0 rfl) ?_
              refine lv_istore_n (lv' := [(2, .int v56), (3, .int v56), (0, .ref h), (1, .int x33_1)]) S.x S.b d_Mpg_switching_169 rfl hl (by decide) rfl (fun ls hl => ?_)
              refine lv_goto (tgt := 33) S.x S.b d_Mpg_switching_170 (by decide) ?_
              first | exact ih33 pf51 na73 ma78 wa54 x33_1 v56 _ _ ls (show (pf51 24).toInt = (pf 24).toInt from (oz_1687f4cc65 k33_0 e63)) (show (pf51 25).toInt = (pf 25).toInt from (oz_1687f4cc65 k33_1 e64)) (show (pf51 26).toInt = (pf 26).toInt from (oz_1687f4cc65 k33_2 e65)) (show (pf51 12).toInt = (pf 12).toInt + 2 from (oz_29ee0aead2 k33_3 e62)) (show (pf51 12).toInt ≤ 60 from (oz_a3db38fa3c e62 k33_4)) (show (pf 11).toInt + 2 ≤ (pf51 11).toInt from (oz_7a8532e08c k33_5 e57)) (show (pf51 11).toInt < (tf 6).toInt from e58) (show x33_1.toInt = (pf 13).toInt from k33_7) (show x33_1.toInt < (pf51 13).toInt from (oz_3a4745f90a k33_8 e59)) (show (pf51 13).toInt - (pf 13).toInt ≤ (pf51 11).toInt - (pf 11).toInt from (oz_e76dadc267 k33_9 e60)) (show bp ta (pf 11) + 2 ≤ bp ta (pf51 11) from (oz_7a8532e08c k33_10 e61)) (show v56.toInt = -1 ∨ x33_1.toInt + 1 ≤ v56.toInt from by omega) (show v56.toInt < (pf51 13).toInt from by omega) (show FrB (pf 13).toInt na ma na73 ma78 from hfb) (show FrW (pf 26).toInt wa wa54 from hfw) (show NdF (tf 6).toInt na73 x33_1 28 (pf 11) from ⟨(oz_f3ebed1ad0 k33_7 g5), hf_14_x33_1, hf_15_x33_1, ⟨g0, g1⟩, hf_21_x33_1⟩) (show SwV ta (tf 6).toInt na73 ma78 x33_1 v56 (pf51 13).toInt (3 * (bp ta (pf51 11) - bp ta (pf 11)) - 3) (198 - (pf 12).toInt) from ⟨_, _, _, _, _, hf_17_x33_1, hf_18_x33_1, by omega, by omega, (VlV.le hv_a17 (by omega) (Int.le_refl _) (Int.le_refl _) (by omega)), (Or.inr (RwV.le hrw_v56 (by omega) (by omega) (Int.le_refl _) (by omega))), by omega, by omega, by omega⟩) (show FsI (tf 6).toInt (pf51 13).toInt na73 from (FsI.le hfs (by omega))) (show K_mp_switching_33 (RL_mp_statement lv) ta pf na ma wa pf51 na73 ma78 wa54 x33_1 v56 from (fun y_f0 y_f1 y_f2 y_f3 y_v y_t k hE => k33_18 y_f0 y_f1 y_f2 y_f3 y_v y_t (k + 1) (Or.inr (Or.inl ⟨rfl, x33_1, x33_2, rfl, rfl, rfl, rfl, rfl, a17, b18, rq_a17, rq_b18, v5, e8, Or.inr ⟨nc9, v30, e33, Or.inl ⟨nc34, v37, e40, Or.inl ⟨nc41, Or.inl ⟨nc43, Or.inr ⟨hndp45, Or.inr ⟨pf51, na52, ma53, wa54, v56, e70L, b18, ez71, na73, v75, e77, ma78, hu_ma78, hE⟩⟩⟩⟩⟩⟩⟩)))) (show (tf 6).toInt - (pf51 11).toInt < (n_33 : Int) from (oz_ecb2ca289a hm e57)) hw (lv_sub hl [2, 3, 0] rfl) | (exact ih33 pf51 na73 ma78 wa54 x33_1 v56 _ _ ls (show (pf51 24).toInt = (pf 24).toInt from by first | exact oz_1687f4cc65 k33_0 e63 | omega) (show (pf51 25).toInt = (pf 25).toInt from by first | exact oz_1687f4cc65 k33_1 e64 | omega) (show (pf51 26).toInt = (pf 26).toInt from by first | exact oz_1687f4cc65 k33_2 e65 | omega) (show (pf51 12).toInt = (pf 12).toInt + 2 from by first | exact oz_29ee0aead2 k33_3 e62 | omega) (show (pf51 12).toInt ≤ 60 from by first | exact oz_a3db38fa3c e62 k33_4 | omega) (show (pf 11).toInt + 2 ≤ (pf51 11).toInt from by first | exact oz_7a8532e08c k33_5 e57 | omega) (show (pf51 11).toInt < (tf 6).toInt from by first | exact e58 | omega) (show x33_1.toInt = (pf 13).toInt from by first | exact k33_7 | omega) (show x33_1.toInt < (pf51 13).toInt from by first | exact oz_3a4745f90a k33_8 e59 | omega) (show (pf51 13).toInt - (pf 13).toInt ≤ (pf51 11).toInt - (pf 11).toInt from by first | exact oz_e76dadc267 k33_9 e60 | omega) (show bp ta (pf 11) + 2 ≤ bp ta (pf51 11) from by first | exact oz_7a8532e08c k33_10 e61 | omega) (show v56.toInt = -1 ∨ x33_1.toInt + 1 ≤ v56.toInt from by omega) (show v56.toInt < (pf51 13).toInt from by omega) (show FrB (pf 13).toInt na ma na73 ma78 from hfb) (show FrW (pf 26).toInt wa wa54 from hfw) (show NdF (tf 6).toInt na73 x33_1 28 (pf 11) from ⟨by first | exact oz_f3ebed1ad0 k33_7 g5 | omega, hf_14_x33_1, hf_15_x33_1, ⟨by first | exact g0 | omega, by first | exact g1 | omega⟩, hf_21_x33_1⟩) (show SwV ta (tf 6).toInt na73 ma78 x33_1 v56 (pf51 13).toInt (3 * (bp ta (pf51 11) - bp ta (pf 11)) - 3) (198 - (pf 12).toInt) from ⟨_, _, _, _, _, hf_17_x33_1, hf_18_x33_1, by omega, by omega, (VlV.le hv_a17 (by omega) (Int.le_refl _) (Int.le_refl _) (by omega)), (Or.inr (RwV.le hrw_v56 (by omega) (by omega) (Int.le_refl _) (by omega))), by omega, by omega, by omega⟩) (show FsI (tf 6).toInt (pf51 13).toInt na73 from (FsI.le hfs (by omega))) (show K_mp_switching_33 (RL_mp_statement lv) ta pf na ma wa pf51 na73 ma78 wa54 x33_1 v56 from (fun y_f0 y_f1 y_f2 y_f3 y_v y_t k hE => k33_18 y_f0 y_f1 y_f2 y_f3 y_v y_t (k + 1) (Or.inr (Or.inl ⟨rfl, x33_1, x33_2, rfl, rfl, rfl, rfl, rfl, a17, b18, rq_a17, rq_b18, v5, e8, Or.inr ⟨nc9, v30, e33, Or.inl ⟨nc34, v37, e40, Or.inl ⟨nc41, Or.inl ⟨nc43, Or.inr ⟨hndp45, Or.inr ⟨pf51, na52, ma53, wa54, v56, e70L, b18, ez71, na73, v75, e77, ma78, hu_ma78, hE⟩⟩⟩⟩⟩⟩⟩)))) (show (tf 6).toInt - (pf51 11).toInt < (n_33 : Int) from by first | exact oz_ecb2ca289a hm e57 | omega) hw (lv_sub hl [2, 3, 0] rfl))
            · have nc43 : ¬ x33_2.toInt < (0 : Int) := mt (i_lt (x := x33_2) (y := 0)).mpr c43
              refine lv_iconst (v := 1) S.x S.b d_Mpg_switching_137 (by decide) ?_
              refine lv_goto (tgt := 142) S.x S.b d_Mpg_switching_138 (by decide) ?_
              first | refine th_callv (ps0 := [wdP cs h r g tf ta pf na ma wa cf ca ef ea xf xa]) (pr := [wdP cs h r g tf ta pf_33 na_33 ma_33 wa_33 cf ca ef ea xf xa]) (pcs := []) (As := [.int 1]) (rest := []) (c_mp_need l hlf D cs h 1) S hT hw (oX_call (P := (fun A U H => (oN A U H))) (pr := [wdP cs h r g tf ta pf_33 na_33 ma_33 wa_33 cf ca ef ea xf xa]) oG_N hw hA hN) (px_recv hT hw 0 0 rfl rfl rfl) m11_233 m11_230 m11_232 ms_9_0 m1_21 q_Mpg_need ⟨show 6 + 1 ≤ (8 * lv + 26) from (oz_c236c17a10), show 8 + (2 + 11) + 100 ≤ (220 * lv + 1200) from (oz_4b916428d7)⟩ hl.1 rfl (Nat.le_of_ble_eq_true rfl) d_Mpg_switching_142 ⟨Nat.le_of_ble_eq_true rfl, Nat.le_of_ble_eq_true rfl⟩ hne hlk hA hAe (fun o t h => Or.inr h) ?_ (fun p79 H locs hp79 hw => ?_) | (refine th_callv (ps0 := [wdP cs h r g tf ta pf na ma wa cf ca ef ea xf xa]) (pr := [wdP cs h r g tf ta pf_33 na_33 ma_33 wa_33 cf ca ef ea xf xa]) (pcs := []) (As := [.int 1]) (rest := []) (c_mp_need l hlf D cs h 1) S hT hw (oX_call (P := (fun A U H => (oN A U H))) (pr := [wdP cs h r g tf ta pf_33 na_33 ma_33 wa_33 cf ca ef ea xf xa]) oG_N hw hA hN) (px_recv hT hw 0 0 rfl rfl rfl) m11_233 m11_230 m11_232 ms_9_0 m1_21 q_Mpg_need ⟨show 6 + 1 ≤ (8 * lv + 26) from (by first | exact oz_c236c17a10 | omega), show 8 + (2 + 11) + 100 ≤ (220 * lv + 1200) from (by first | exact oz_4b916428d7 | omega)⟩ hl.1 rfl (Nat.le_of_ble_eq_true rfl) d_Mpg_switching_142 ⟨Nat.le_of_ble_eq_true rfl, Nat.le_of_ble_eq_true rfl⟩ hne hlk hA hAe (fun o t h => Or.inr h) ?_ (fun p79 H locs hp79 hw => ?_))
              · exact fun p1 H1 locs1 hp hw => by obtain ⟨rfl, hq0⟩ := hp; exact ⟨_, ⟨pf_33, na_33, ma_33, wa_33, rfl, by omega, by omega, (k33_18 _ _ _ _ _ _ 1 (Or.inr (Or.inl ⟨rfl, x33_1, x33_2, rfl, rfl, rfl, rfl, rfl, a17, b18, rq_a17, rq_b18, v5, e8, Or.inr ⟨nc9, v30, e33, Or.inl ⟨nc34, v37, e40, Or.inl ⟨nc41, Or.inr ⟨nc43, Or.inl ⟨hq0, rfl, rfl, rfl, rfl, rfl, rfl⟩⟩⟩⟩⟩⟩)))⟩, hw.sub [0] rfl rfl⟩
              obtain ⟨rfl, hndp79⟩ := hp79
              have hndp79 : ¬ (1 : Int) = 0 := hndp79
              refine lv_aload_n S.x S.b d_Mpg_switching_145 rfl (lv_at hl 1 rfl) ?_
              first | refine th_calli (ps0 := [wdP cs h r g tf ta pf na ma wa cf ca ef ea xf xa]) (pr := []) (pcs := [wdP cs h r g tf ta pf_33 na_33 ma_33 wa_33 cf ca ef ea xf xa]) (As := []) (rest := []) ((hLT.go (by omega)) h r g tf ta cf ca ef ea xf xa pf_33 na_33 ma_33 wa_33   (show 0 ≤ (pf_33 11).toInt from (oz_f101e7799b k33_5 g0)) (show (pf_33 11).toInt < (tf 6).toInt from k33_6) (show (tf 6).toInt ≤ 2049 from g2) (show 0 ≤ (pf_33 12).toInt from (oz_1c15e031a7 k33_3 g3)) (show (pf_33 12).toInt ≤ 60 from k33_4) (show 0 ≤ (pf_33 13).toInt from (oz_d3d3a7f06a k33_12 nc43)) (show (pf_33 13).toInt ≤ (pf_33 11).toInt + 10 from (oz_80aa4b08cf k33_9 g6)) (show 0 ≤ (pf_33 26).toInt from (oz_f3ebed1ad0 k33_2 g7)) (show (pf_33 26).toInt ≤ (pf_33 12).toInt from (oz_bdbcb40766 k33_2 k33_3 g8)) (show 61 ≤ (pf_33 12).toInt + ((lv - 1 : Nat) : Int) from by omega) (show lv - 1 ≤ 61 from by omega) hlf htk (FsI.le (N' := (pf_33 13).toInt) hfs (by omega))) S hT hw (oX_call (P := (fun A U H => (oN A U H) ∧ (oP A g U H))) (pr := []) (oG_and oG_N oG_P) hw hA ⟨hN, hP⟩) (px_recv hT hw 0 0 rfl rfl rfl) m12_101 m12_98 m12_100 ms_10_10 m1_21 q_Mpg_statement ⟨show (8 * (lv - 1) + 28) + 1 ≤ (8 * lv + 26) from by omega, show 8 + (2 + 11) + (220 * (lv - 1) + 1280) ≤ (220 * lv + 1200) from by omega⟩ hl.1 rfl (Nat.le_of_ble_eq_true rfl) d_Mpg_switching_146 ⟨Nat.le_of_ble_eq_true rfl, Nat.le_of_ble_eq_true rfl⟩ hne hlk hA hAe (fun o t h => Or.inr h) ?_ (fun v90 p89 H locs hp89 hw => ?_) | (refine th_calli (ps0 := [wdP cs h r g tf ta pf na ma wa cf ca ef ea xf xa]) (pr := []) (pcs := [wdP cs h r g tf ta pf_33 na_33 ma_33 wa_33 cf ca ef ea xf xa]) (As := []) (rest := []) ((hLT.go (by omega)) h r g tf ta cf ca ef ea xf xa pf_33 na_33 ma_33 wa_33   (show 0 ≤ (pf_33 11).toInt from by first | exact oz_f101e7799b k33_5 g0 | omega) (show (pf_33 11).toInt < (tf 6).toInt from by first | exact k33_6 | omega) (show (tf 6).toInt ≤ 2049 from by first | exact g2 | omega) (show 0 ≤ (pf_33 12).toInt from by first | exact oz_1c15e031a7 k33_3 g3 | omega) (show (pf_33 12).toInt ≤ 60 from by first | exact k33_4 | omega) (show 0 ≤ (pf_33 13).toInt from by first | exact oz_d3d3a7f06a k33_12 nc43 | omega) (show (pf_33 13).toInt ≤ (pf_33 11).toInt + 10 from by first | exact oz_80aa4b08cf k33_9 g6 | omega) (show 0 ≤ (pf_33 26).toInt from by first | exact oz_f3ebed1ad0 k33_2 g7 | omega) (show (pf_33 26).toInt ≤ (pf_33 12).toInt from by first | exact oz_bdbcb40766 k33_2 k33_3 g8 | omega) (show 61 ≤ (pf_33 12).toInt + ((lv - 1 : Nat) : Int) from by omega) (show lv - 1 ≤ 61 from by omega) hlf htk (FsI.le (N' := (pf_33 13).toInt) hfs (by omega))) S hT hw (oX_call (P := (fun A U H => (oN A U H) ∧ (oP A g U H))) (pr := []) (oG_and oG_N oG_P) hw hA ⟨hN, hP⟩) (px_recv hT hw 0 0 rfl rfl rfl) m12_101 m12_98 m12_100 ms_10_10 m1_21 q_Mpg_statement ⟨show (8 * (lv - 1) + 28) + 1 ≤ (8 * lv + 26) from by omega, show 8 + (2 + 11) + (220 * (lv - 1) + 1280) ≤ (220 * lv + 1200) from by omega⟩ hl.1 rfl (Nat.le_of_ble_eq_true rfl) d_Mpg_switching_146 ⟨Nat.le_of_ble_eq_true rfl, Nat.le_of_ble_eq_true rfl⟩ hne hlk hA hAe (fun o t h => Or.inr h) ?_ (fun v90 p89 H locs hp89 hw => ?_))
              · exact fun p1 H1 locs1 hp hw => by obtain ⟨pq1, pq2, pq3, pq4, rfl, hq1, hq2, hq3⟩ := hp; (first | exact ⟨_, ⟨pq1, pq2, pq3, pq4, rfl, hq1, hq2, (k33_18 _ _ _ _ _ _ 1 (Or.inr (Or.inl ⟨rfl, x33_1, x33_2, rfl, rfl, rfl, rfl, rfl, a17, b18, rq_a17, rq_b18, v5, e8, Or.inr ⟨nc9, v30, e33, Or.inl ⟨nc34, v37, e40, Or.inl ⟨nc41, Or.inr ⟨nc43, Or.inr ⟨hndp79, Or.inl ⟨pq1, pq2, pq3, pq4, (up_RL_mp_statement (show 1 ≤ lv from (oz_6721671b0f g9 g4)) ▸ hq3), rfl, rfl, rfl, rfl, rfl, rfl⟩⟩⟩⟩⟩⟩⟩)))⟩, hw⟩ | (exact ⟨_, ⟨pq1, pq2, pq3, pq4, rfl, hq1, hq2, (k33_18 _ _ _ _ _ _ 1 (Or.inr (Or.inl ⟨rfl, x33_1, x33_2, rfl, rfl, rfl, rfl, rfl, a17, b18, rq_a17, rq_b18, v5, e8, Or.inr ⟨nc9, v30, e33, Or.inl ⟨nc34, v37, e40, Or.inl ⟨nc41, Or.inr ⟨nc43, Or.inr ⟨hndp79, Or.inl ⟨pq1, pq2, pq3, pq4, (up_RL_mp_statement (show 1 ≤ lv from by first | exact oz_6721671b0f g9 g4 | omega) ▸ hq3), rfl, rfl, rfl, rfl, rfl, rfl⟩⟩⟩⟩⟩⟩⟩)))⟩, hw⟩))
              obtain ⟨pf85, na86, ma87, wa88, rfl, e91, e92, e93, e94, e95, e96, e97, e98, e99, e100, e101, e102, e103, e104⟩ := hp89
              have e91 : (pf_33 11).toInt + 1 ≤ (pf85 11).toInt := e91
              have e92 : (pf85 11).toInt < (tf 6).toInt := e92
              have e93 : (pf_33 13).toInt + 1 ≤ (pf85 13).toInt := e93
              have e94 : (pf85 13).toInt - (pf_33 13).toInt ≤ (pf85 11).toInt - (pf_33 11).toInt := e94
              have e95 : bp ta (pf_33 11) + 1 ≤ bp ta (pf85 11) := e95
              have e96 : (pf85 12).toInt = (pf_33 12).toInt := e96
              have e97 : (pf85 24).toInt = (pf_33 24).toInt := e97
              have e98 : (pf85 25).toInt = (pf_33 25).toInt := e98
              have e99 : (pf85 26).toInt = (pf_33 26).toInt := e99
              have e100 : FrB (pf_33 13).toInt na_33 ma_33 na86 ma87 := e100
              have hf_14_x33_1 := (fb_n e100 (by omega) (by omega)).trans hf_14_x33_1
              have hf_15_x33_1 := (fb_n e100 (by omega) (by omega)).trans hf_15_x33_1
              have hf_21_x33_1 := (fb_n e100 (by omega) (by omega)).trans hf_21_x33_1
              have hf_17_x33_1 := (fb_n e100 (by omega) (by omega)).trans hf_17_x33_1
              have hf_18_x33_1 := (fb_m e100 (by omega) (by omega)).trans hf_18_x33_1
              have hv_a17 := hv_a17.ag fe_ok (FrB.ag e100 (by omega))
              have hz_x33_2 := hz_x33_2.ag fs_ok (FrB.ag e100 (by omega))
              have hfb := hfb.tr e100 (by omega)
              have e101 : FrW (pf_33 26).toInt wa_33 wa88 := e101
              have hfw := hfw.tr e101 (by omega)
              have e102 : VlS ta (tf 6).toInt na86 ma87 v90 (pf_33 13).toInt (pf85 13).toInt (3 * (bp ta (pf85 11) - bp ta (pf_33 11))) (200 - (pf_33 12).toInt) := e102
              have hv_v90 := e102
              have hn_hv_v90 := hv_v90.num fs_ok
              have e103 : FsI (tf 6).toInt (pf85 13).toInt na86 := e103
              have hfs := e103
              have e104 : R_mp_statement (RL_mp_statement (lv - 1)) ta pf_33 na_33 ma_33 wa_33 pf85 na86 ma87 wa88 v90 0 := e104
              first | have e104L : (RL_mp_statement lv) ta pf_33 na_33 ma_33 wa_33 pf85 na86 ma87 wa88 v90 0 := up_RL_mp_statement (show 1 ≤ lv from (oz_6721671b0f g9 g4)) ▸ e104 | (have e104L : (RL_mp_statement lv) ta pf_33 na_33 ma_33 wa_33 pf85 na86 ma87 wa88 v90 0 := up_RL_mp_statement (show 1 ≤ lv from by first | exact oz_6721671b0f g9 g4 | omega) ▸ e104)
              have lv90 := Int32.le_toInt v90
              have uv90 := Int32.toInt_lt v90
              refine lv_istore_n (lv' := [(3, .int v90), (0, .ref h), (1, .int x33_1), (2, .int x33_2)]) S.x S.b d_Mpg_switching_149 rfl hl (by decide) rfl (fun ls hl => ?_)
              refine lv_aload_n S.x S.b d_Mpg_switching_150 rfl (lv_at hl 1 rfl) ?_
              refine gP_18 S hT hw 0 rfl m10_3 d_Mpg_switching_151 ?_
              refine lv_iload_n S.x S.b d_Mpg_switching_154 rfl (lv_at hl 2 rfl) ?_
              refine lv_aload_n S.x S.b d_Mpg_switching_155 rfl (lv_at hl 1 rfl) ?_
              refine lv_aload_n S.x S.b d_Mpg_switching_156 rfl (lv_at hl 1 rfl) ?_
              refine gP_18 S hT hw 0 rfl m10_3 d_Mpg_switching_157 ?_
              refine lv_iload_n S.x S.b d_Mpg_switching_160 rfl (lv_at hl 2 rfl) ?_
              refine px_iald S hT hw 0 14 (n := 2100) (f := (ma87 18)) rfl gp_18 (x := x33_1) (vp_in_iff.mpr (by first | exact oz_0cb7fdb6b4 k33_7 g5 g6 k33_5 e91 e92 g2 | (constructor <;> omega))) d_Mpg_switching_161 ?_
              refine lv_topi (fun z105 ez105 => ?_)
              have lz105 := Int32.le_toInt z105
              have uz105 := Int32.toInt_lt z105
              have hsz105 : b18 = z105 := (ez105.trans hf_18_x33_1).symm; subst hsz105
              refine lv_iload_n S.x S.b d_Mpg_switching_162 rfl (lv_at hl 3 rfl) ?_
              refine lv_iload_n S.x S.b d_Mpg_switching_163 rfl (lv_at hl 0 rfl) ?_
              first | refine px_calli (pr := []) (px_runV (As := [.int b18, .int x33_2, .int v90]) (rest := [.int x33_1, .ref (r 18)]) S (c_mp_hang l D cs h r g tf ta pf85 ma87 wa88 cf ca ef ea xf xa na86 b18 x33_2 v90  (show x33_2.toInt < 2100 from (oz_3c5529d13a k33_12 k33_9 g6 e91 e92 g2)) htk _) hT (pr := []) (pcs := [wdP cs h r g tf ta pf85 na86 ma87 wa88 cf ca ef ea xf xa]) hw px_X.tt (px_recv hT hw 0 0 rfl rfl rfl) m12_77 m12_74 m12_76 ms_10_4 m1_21 q_Mpg_hang ⟨show 0 + 1 ≤ (8 * lv + 26) from (oz_3fe2768530), show 8 + (4 + 11) + 0 ≤ (220 * lv + 1200) from (oz_a3b70bbbba)⟩ hl.1 rfl (Nat.le_of_ble_eq_true rfl) d_Mpg_switching_164 ⟨Nat.le_of_ble_eq_true rfl, Nat.le_of_ble_eq_true rfl⟩) hw hA (fun v109 p108 H locs hp108 hw => ?_) | (refine px_calli (pr := []) (px_runV (As := [.int b18, .int x33_2, .int v90]) (rest := [.int x33_1, .ref (r 18)]) S (c_mp_hang l D cs h r g tf ta pf85 ma87 wa88 cf ca ef ea xf xa na86 b18 x33_2 v90  (show x33_2.toInt < 2100 from by first | exact oz_3c5529d13a k33_12 k33_9 g6 e91 e92 g2 | omega) htk _) hT (pr := []) (pcs := [wdP cs h r g tf ta pf85 na86 ma87 wa88 cf ca ef ea xf xa]) hw px_X.tt (px_recv hT hw 0 0 rfl rfl rfl) m12_77 m12_74 m12_76 ms_10_4 m1_21 q_Mpg_hang ⟨show 0 + 1 ≤ (8 * lv + 26) from (by first | exact oz_3fe2768530 | omega), show 8 + (4 + 11) + 0 ≤ (220 * lv + 1200) from (by first | exact oz_a3b70bbbba | omega)⟩ hl.1 rfl (Nat.le_of_ble_eq_true rfl) d_Mpg_switching_164 ⟨Nat.le_of_ble_eq_true rfl, Nat.le_of_ble_eq_true rfl⟩) hw hA (fun v109 p108 H locs hp108 hw => ?_))
              obtain ⟨na107, rfl, e110, e111⟩ := hp108
              have e110 : Hg na86 na107 b18 x33_2 v90 v109 := e110
              have hf_14_x33_1 := (Hg.fld e110 (by omega) (by omega)).trans hf_14_x33_1
              have hf_15_x33_1 := (Hg.fld e110 (by omega) (by omega)).trans hf_15_x33_1
              have hf_21_x33_1 := (Hg.fld e110 (by omega) (by omega)).trans hf_21_x33_1
              have hf_17_x33_1 := (Hg.fld e110 (by omega) (by omega)).trans hf_17_x33_1
              have hrw_v90 := Hg.row e110 fs_ok hz_x33_2 (VlV.le hv_v90 (by omega) (Int.le_refl _) (Int.le_refl _) (by omega)) (by omega) (by omega)
              have hn_hrw_v90 := hrw_v90.num
              have hv_a17 := hv_a17.ag fe_ok (Hg.ag e110 (by omega))
              have hfb := Hg.fb e110 hfb (by omega)
              have hfs := FsI.hg hfs e110
              have e111 : R_mp_hang b18 x33_2 v90 na86 na107 v109 := e111
              have lv109 := Int32.le_toInt v109
              have uv109 := Int32.toInt_lt v109
              refine px_iast S hT hw 0 14 (n := 2100) (f := (ma87 18)) (x := x33_1) (y := v109) rfl gp_18 (vp_in_iff.mpr (by constructor <;> omega)) d_Mpg_switching_167 (w' := wdP cs h r g tf ta pf85 na107 (va_up ma87 18 (upd (ma87 18) x33_1.toNatClampNeg v109)) wa88 cf ca ef ea xf xa) (ps' := [wdP cs h r g tf ta pf85 na107 (va_up ma87 18 (upd (ma87 18) x33_1.toNatClampNeg v109)) wa88 cf ca ef ea xf xa]) sp_18 rfl (fun H locs hw => ?_)
              obtain ⟨ma112, hu_ma112⟩ : ∃ y : Nat → Nat → Int32, y = va_up ma87 18 (upd (ma87 18) x33_1.toNatClampNeg v109) := ⟨_, rfl⟩
              have hw : pw D A s.heap _ _ [wdP cs h r g tf ta pf85 na107 ma112 wa88 cf ca ef ea xf xa] := (by rw [hu_ma112]; exact hw)
              have hv_a17 := hv_a17.ag fe_ok (ag_m hu_ma112 (by omega) (by omega))
              have hrw_v90 := hrw_v90.ag fs_ok (ag_m hu_ma112 (by omega) (by omega))
              have hf_18_x33_1 : ma112 18 x33_1.toNatClampNeg = v109 := (by rw [hu_ma112, va_up_s, pk_us])
              have hfb : FrB (pf 13).toInt na ma na107 ma112 := (by rw [hu_ma112]; exact FrB.um hfb (by omega) (by omega))
              refine lv_iload_n S.x S.b d_Mpg_switching_168 rfl (lv_at hl 0 rfl) ?_
              refine lv_istore_n (lv' := [(2, .int v90), (3, .int v90), (0, .ref h), (1, .int x33_1)]) S.x S.b d_Mpg_switching_169 rfl hl (by decide) rfl (fun ls hl => ?_)
              refine lv_goto (tgt := 33) S.x S.b d_Mpg_switching_170 (by decide) ?_
              first | exact ih33 pf85 na107 ma112 wa88 x33_1 v90 _ _ ls (show (pf85 24).toInt = (pf 24).toInt from (oz_1687f4cc65 k33_0 e97)) (show (pf85 25).toInt = (pf 25).toInt from (oz_1687f4cc65 k33_1 e98)) (show (pf85 26).toInt = (pf 26).toInt from (oz_1687f4cc65 k33_2 e99)) (show (pf85 12).toInt = (pf 12).toInt + 2 from (oz_29ee0aead2 k33_3 e96)) (show (pf85 12).toInt ≤ 60 from (oz_a3db38fa3c e96 k33_4)) (show (pf 11).toInt + 2 ≤ (pf85 11).toInt from (oz_7a8532e08c k33_5 e91)) (show (pf85 11).toInt < (tf 6).toInt from e92) (show x33_1.toInt = (pf 13).toInt from k33_7) (show x33_1.toInt < (pf85 13).toInt from (oz_3a4745f90a k33_8 e93)) (show (pf85 13).toInt - (pf 13).toInt ≤ (pf85 11).toInt - (pf 11).toInt from (oz_e76dadc267 k33_9 e94)) (show bp ta (pf 11) + 2 ≤ bp ta (pf85 11) from (oz_7a8532e08c k33_10 e95)) (show v90.toInt = -1 ∨ x33_1.toInt + 1 ≤ v90.toInt from by omega) (show v90.toInt < (pf85 13).toInt from by omega) (show FrB (pf 13).toInt na ma na107 ma112 from hfb) (show FrW (pf 26).toInt wa wa88 from hfw) (show NdF (tf 6).toInt na107 x33_1 28 (pf 11) from ⟨(oz_f3ebed1ad0 k33_7 g5), hf_14_x33_1, hf_15_x33_1, ⟨g0, g1⟩, hf_21_x33_1⟩) (show SwV ta (tf 6).toInt na107 ma112 x33_1 v90 (pf85 13).toInt (3 * (bp ta (pf85 11) - bp ta (pf 11)) - 3) (198 - (pf 12).toInt) from ⟨_, _, _, _, _, hf_17_x33_1, hf_18_x33_1, by omega, by omega, (VlV.le hv_a17 (by omega) (Int.le_refl _) (Int.le_refl _) (by omega)), (Or.inr (RwV.le hrw_v90 (by omega) (by omega) (Int.le_refl _) (by omega))), by omega, by omega, by omega⟩) (show FsI (tf 6).toInt (pf85 13).toInt na107 from (FsI.le hfs (by omega))) (show K_mp_switching_33 (RL_mp_statement lv) ta pf na ma wa pf85 na107 ma112 wa88 x33_1 v90 from (fun y_f0 y_f1 y_f2 y_f3 y_v y_t k hE => k33_18 y_f0 y_f1 y_f2 y_f3 y_v y_t (k + 1) (Or.inr (Or.inl ⟨rfl, x33_1, x33_2, rfl, rfl, rfl, rfl, rfl, a17, b18, rq_a17, rq_b18, v5, e8, Or.inr ⟨nc9, v30, e33, Or.inl ⟨nc34, v37, e40, Or.inl ⟨nc41, Or.inr ⟨nc43, Or.inr ⟨hndp79, Or.inr ⟨pf85, na86, ma87, wa88, v90, e104L, b18, ez105, na107, v109, e111, ma112, hu_ma112, hE⟩⟩⟩⟩⟩⟩⟩)))) (show (tf 6).toInt - (pf85 11).toInt < (n_33 : Int) from (oz_ecb2ca289a hm e91)) hw (lv_sub hl [2, 3, 0] rfl) | (exact ih33 pf85 na107 ma112 wa88 x33_1 v90 _ _ ls (show (pf85 24).toInt = (pf 24).toInt from by first | exact oz_1687f4cc65 k33_0 e97 | omega) (show (pf85 25).toInt = (pf 25).toInt from by first | exact oz_1687f4cc65 k33_1 e98 | omega) (show (pf85 26).toInt = (pf 26).toInt from by first | exact oz_1687f4cc65 k33_2 e99 | omega) (show (pf85 12).toInt = (pf 12).toInt + 2 from by first | exact oz_29ee0aead2 k33_3 e96 | omega) (show (pf85 12).toInt ≤ 60 from by first | exact oz_a3db38fa3c e96 k33_4 | omega) (show (pf 11).toInt + 2 ≤ (pf85 11).toInt from by first | exact oz_7a8532e08c k33_5 e91 | omega) (show (pf85 11).toInt < (tf 6).toInt from by first | exact e92 | omega) (show x33_1.toInt = (pf 13).toInt from by first | exact k33_7 | omega) (show x33_1.toInt < (pf85 13).toInt from by first | exact oz_3a4745f90a k33_8 e93 | omega) (show (pf85 13).toInt - (pf 13).toInt ≤ (pf85 11).toInt - (pf 11).toInt from by first | exact oz_e76dadc267 k33_9 e94 | omega) (show bp ta (pf 11) + 2 ≤ bp ta (pf85 11) from by first | exact oz_7a8532e08c k33_10 e95 | omega) (show v90.toInt = -1 ∨ x33_1.toInt + 1 ≤ v90.toInt from by omega) (show v90.toInt < (pf85 13).toInt from by omega) (show FrB (pf 13).toInt na ma na107 ma112 from hfb) (show FrW (pf 26).toInt wa wa88 from hfw) (show NdF (tf 6).toInt na107 x33_1 28 (pf 11) from ⟨by first | exact oz_f3ebed1ad0 k33_7 g5 | omega, hf_14_x33_1, hf_15_x33_1, ⟨by first | exact g0 | omega, by first | exact g1 | omega⟩, hf_21_x33_1⟩) (show SwV ta (tf 6).toInt na107 ma112 x33_1 v90 (pf85 13).toInt (3 * (bp ta (pf85 11) - bp ta (pf 11)) - 3) (198 - (pf 12).toInt) from ⟨_, _, _, _, _, hf_17_x33_1, hf_18_x33_1, by omega, by omega, (VlV.le hv_a17 (by omega) (Int.le_refl _) (Int.le_refl _) (by omega)), (Or.inr (RwV.le hrw_v90 (by omega) (by omega) (Int.le_refl _) (by omega))), by omega, by omega, by omega⟩) (show FsI (tf 6).toInt (pf85 13).toInt na107 from (FsI.le hfs (by omega))) (show K_mp_switching_33 (RL_mp_statement lv) ta pf na ma wa pf85 na107 ma112 wa88 x33_1 v90 from (fun y_f0 y_f1 y_f2 y_f3 y_v y_t k hE => k33_18 y_f0 y_f1 y_f2 y_f3 y_v y_t (k + 1) (Or.inr (Or.inl ⟨rfl, x33_1, x33_2, rfl, rfl, rfl, rfl, rfl, a17, b18, rq_a17, rq_b18, v5, e8, Or.inr ⟨nc9, v30, e33, Or.inl ⟨nc34, v37, e40, Or.inl ⟨nc41, Or.inr ⟨nc43, Or.inr ⟨hndp79, Or.inr ⟨pf85, na86, ma87, wa88, v90, e104L, b18, ez105, na107, v109, e111, ma112, hu_ma112, hE⟩⟩⟩⟩⟩⟩⟩)))) (show (tf 6).toInt - (pf85 11).toInt < (n_33 : Int) from by first | exact oz_ecb2ca289a hm e91 | omega) hw (lv_sub hl [2, 3, 0] rfl))
          · have nc41 : ¬ v37.toInt = (0 : Int) := mt (i_eq (x := v37) (y := 0)).mpr c41
            refine lv_aload_n S.x S.b d_Mpg_switching_102 rfl (lv_at hl 1 rfl) ?_
            refine lv_bipush (v := 30) S.x S.b d_Mpg_switching_103 (by decide) ?_
            refine lv_aload_n S.x S.b d_Mpg_switching_105 rfl (lv_at hl 1 rfl) ?_
            refine gP_11 (v := (pf_33 11)) S hT hw 0 rfl rfl m9_235 d_Mpg_switching_106 ?_
            first | refine px_calli (pr := []) (px_runV (As := [.int 30, .int (pf_33 11)]) (rest := []) S (c_mp_make l D cs h r g tf ta wa_33 cf ca ef ea xf xa pf_33 na_33 ma_33 30 (pf_33 11)  (show 0 ≤ (pf_33 13).toInt from (oz_36c2aaaab5 k33_8 g5 k33_7)) (show (pf_33 13).toInt < 2100 from (oz_50fbb05cd2 k33_9 g6 k33_6 g2)) _) hT (pr := []) (pcs := [wdP cs h r g tf ta pf_33 na_33 ma_33 wa_33 cf ca ef ea xf xa]) hw px_X.tt (px_recv hT hw 0 0 rfl rfl rfl) m11_209 m11_206 m11_208 ms_8_12 m1_21 q_Mpg_make ⟨show 0 + 1 ≤ (8 * lv + 26) from (oz_3fe2768530), show 8 + (3 + 11) + 0 ≤ (220 * lv + 1200) from (oz_877b3efa3f)⟩ hl.1 rfl (Nat.le_of_ble_eq_true rfl) d_Mpg_switching_109 ⟨Nat.le_of_ble_eq_true rfl, Nat.le_of_ble_eq_true rfl⟩) hw hA (fun v120 p119 H locs hp119 hw => ?_) | (refine px_calli (pr := []) (px_runV (As := [.int 30, .int (pf_33 11)]) (rest := []) S (c_mp_make l D cs h r g tf ta wa_33 cf ca ef ea xf xa pf_33 na_33 ma_33 30 (pf_33 11)  (show 0 ≤ (pf_33 13).toInt from by first | exact oz_36c2aaaab5 k33_8 g5 k33_7 | omega) (show (pf_33 13).toInt < 2100 from by first | exact oz_50fbb05cd2 k33_9 g6 k33_6 g2 | omega) _) hT (pr := []) (pcs := [wdP cs h r g tf ta pf_33 na_33 ma_33 wa_33 cf ca ef ea xf xa]) hw px_X.tt (px_recv hT hw 0 0 rfl rfl rfl) m11_209 m11_206 m11_208 ms_8_12 m1_21 q_Mpg_make ⟨show 0 + 1 ≤ (8 * lv + 26) from (by first | exact oz_3fe2768530 | omega), show 8 + (3 + 11) + 0 ≤ (220 * lv + 1200) from (by first | exact oz_877b3efa3f | omega)⟩ hl.1 rfl (Nat.le_of_ble_eq_true rfl) d_Mpg_switching_109 ⟨Nat.le_of_ble_eq_true rfl, Nat.le_of_ble_eq_true rfl⟩) hw hA (fun v120 p119 H locs hp119 hw => ?_))
            obtain ⟨pf116, na117, ma118, rfl, e121, e122, e123, e124, e125, e126, e127, e128, e129⟩ := hp119
            have e121 : v120.toInt = (pf_33 13).toInt := e121
            have e122 : (pf116 13).toInt = (pf_33 13).toInt + 1 := e122
            have e123 : (pf116 11).toInt = (pf_33 11).toInt := e123
            have e124 : (pf116 12).toInt = (pf_33 12).toInt := e124
            have e125 : (pf116 24).toInt = (pf_33 24).toInt := e125
            have e126 : (pf116 25).toInt = (pf_33 25).toInt := e126
            have e127 : (pf116 26).toInt = (pf_33 26).toInt := e127
            have e128 : MkN na_33 ma_33 na117 ma118 v120 (30 : Int32) (pf_33 11) := e128
            have e129 : R_mp_make (30 : Int32) (pf_33 11) pf_33 na_33 ma_33 pf116 na117 ma118 v120 := e129
            obtain ⟨qb1301, qb1302, qb1303, qb1304⟩ := tk_eq (ta := ta) (x := (pf116 11)) (y := (pf_33 11)) (by omega)
            have hmk_v120 := e128
            have hfm_v120 := MkN.frb (b := v120.toInt) hmk_v120 (by omega) (by omega)
            have hf_14_x33_1 := (fb_n hfm_v120 (by omega) (by omega)).trans hf_14_x33_1
            have hf_15_x33_1 := (fb_n hfm_v120 (by omega) (by omega)).trans hf_15_x33_1
            have hf_21_x33_1 := (fb_n hfm_v120 (by omega) (by omega)).trans hf_21_x33_1
            have hf_17_x33_1 := (fb_n hfm_v120 (by omega) (by omega)).trans hf_17_x33_1
            have hf_18_x33_1 := (fb_m hfm_v120 (by omega) (by omega)).trans hf_18_x33_1
            have hv_a17 := hv_a17.ag fe_ok (FrB.ag hfm_v120 (by omega))
            have hz_x33_2 := hz_x33_2.ag fs_ok (FrB.ag hfm_v120 (by omega))
            have hfs := FsI.mk hfs hmk_v120 (by omega) (by omega) (by omega) (by omega)
            have hfb := hfb.tr hfm_v120 (by omega)
            have hf_14_v120 := hmk_v120.2.1 (by decide) (by decide)
            have hf_15_v120 := hmk_v120.2.2.1
            have hf_17_v120 := hmk_v120.2.2.2.2.1
            have hf_18_v120 := hmk_v120.2.2.2.2.2.1
            have hf_21_v120 := hmk_v120.2.2.2.2.2.2.2.2.1
            clear hmk_v120 hfm_v120
            have lv120 := Int32.le_toInt v120
            have uv120 := Int32.toInt_lt v120
            refine lv_istore_n (lv' := [(3, .int v120), (0, .ref h), (1, .int x33_1), (2, .int x33_2)]) S.x S.b d_Mpg_switching_112 rfl hl (by decide) rfl (fun ls hl => ?_)
            refine lv_aload_n S.x S.b d_Mpg_switching_113 rfl (lv_at hl 1 rfl) ?_
            refine lv_dup S.x S.b d_Mpg_switching_114 rfl ?_
            refine gP_11 (v := (pf116 11)) S hT hw 0 rfl rfl m9_235 d_Mpg_switching_115 ?_
            refine lv_iconst (v := 1) S.x S.b d_Mpg_switching_118 (by decide) ?_
            refine lv_iadd S.x S.b d_Mpg_switching_119 ?_
            have lr131 := Int32.le_toInt (pf116 11)
            have ur131 := Int32.toInt_lt (pf116 11)
            refine lv_topi (fun z132 ez132 => ?_)
            have tz132 : z132.toInt = ((pf116 11).toInt + (1 : Int) + 2147483648) % 4294967296 - 2147483648 := by rw [ez132]; exact i_add (pf116 11) 1
            have lz132 := Int32.le_toInt z132
            have uz132 := Int32.toInt_lt z132
            try replace tz132 : z132.toInt = (pf116 11).toInt + (1 : Int) := by omega
            have hnx119 := tk_n htk (x := (pf116 11)) (y := z132) (by omega) (by omega) (by omega)
            refine pP_11 S hT hw 0 rfl m9_235 rfl rfl rfl d_Mpg_switching_120 (ps' := [wdP cs h r g tf ta (upd pf116 11 z132) na117 ma118 wa_33 cf ca ef ea xf xa]) rfl (fun H locs hw => ?_)
            refine lv_aload_n S.x S.b d_Mpg_switching_123 rfl (lv_at hl 1 rfl) ?_
            obtain ⟨sk133, hRsk133, st134, hSsk133⟩ := oP_litB hP (k := 103) (tx := ":") (n := 1) (List.mem_of_getElem? (i := 43) rfl)
            refine va_ldcS S.x S.b S.own hRsk133 d_Mpg_switching_124 ?_
            first | refine th_callv (ps0 := [wdP cs h r g tf ta pf na ma wa cf ca ef ea xf xa]) (pr := []) (pcs := [wdP cs h r g tf ta (upd pf116 11 z132) na117 ma118 wa_33 cf ca ef ea xf xa]) (As := [.ref sk133]) (rest := []) (c_mp_take l D cs sk133 1 (lby ":") h r g tf ta na117 ma118 wa_33 cf ca ef ea xf xa (upd pf116 11 z132)   (show 0 ≤ z132.toInt from (oz_ffb5f7237d tz132 e123 k33_5 g0)) (show z132.toInt < (tf 6).toInt from by omega) (show (tf 6).toInt ≤ 2049 from g2) (show 1 ≤ 100 from by omega) hlf htk) S hT hw (oX_call (P := (fun A U H => (oN A U H) ∧ (oP A g U H) ∧ (StLt A sk133 1 (lby ":") U H))) (pr := []) (oG_and oG_N (oG_and oG_P oG_QB)) hw hA ⟨hN, hP, ⟨_, hSsk133⟩⟩) (px_recv hT hw 0 0 rfl rfl rfl) m12_57 m12_54 m12_56 ms_9_15 m1_21 q_Mpg_take ⟨show 7 + 1 ≤ (8 * lv + 26) from (oz_8b673174a9), show 8 + (2 + 11) + 230 ≤ (220 * lv + 1200) from (oz_200b99b4a8)⟩ hl.1 rfl (Nat.le_of_ble_eq_true rfl) d_Mpg_switching_126 ⟨Nat.le_of_ble_eq_true rfl, Nat.le_of_ble_eq_true rfl⟩ hne hlk hA hAe (fun o t h => Or.inr h) ?_ (fun p138 H locs hp138 hw => ?_) | (refine th_callv (ps0 := [wdP cs h r g tf ta pf na ma wa cf ca ef ea xf xa]) (pr := []) (pcs := [wdP cs h r g tf ta (upd pf116 11 z132) na117 ma118 wa_33 cf ca ef ea xf xa]) (As := [.ref sk133]) (rest := []) (c_mp_take l D cs sk133 1 (lby ":") h r g tf ta na117 ma118 wa_33 cf ca ef ea xf xa (upd pf116 11 z132)   (show 0 ≤ z132.toInt from by first | exact oz_ffb5f7237d tz132 e123 k33_5 g0 | omega) (show z132.toInt < (tf 6).toInt from by omega) (show (tf 6).toInt ≤ 2049 from by first | exact g2 | omega) (show 1 ≤ 100 from by omega) hlf htk) S hT hw (oX_call (P := (fun A U H => (oN A U H) ∧ (oP A g U H) ∧ (StLt A sk133 1 (lby ":") U H))) (pr := []) (oG_and oG_N (oG_and oG_P oG_QB)) hw hA ⟨hN, hP, ⟨_, hSsk133⟩⟩) (px_recv hT hw 0 0 rfl rfl rfl) m12_57 m12_54 m12_56 ms_9_15 m1_21 q_Mpg_take ⟨show 7 + 1 ≤ (8 * lv + 26) from (by first | exact oz_8b673174a9 | omega), show 8 + (2 + 11) + 230 ≤ (220 * lv + 1200) from (by first | exact oz_200b99b4a8 | omega)⟩ hl.1 rfl (Nat.le_of_ble_eq_true rfl) d_Mpg_switching_126 ⟨Nat.le_of_ble_eq_true rfl, Nat.le_of_ble_eq_true rfl⟩ hne hlk hA hAe (fun o t h => Or.inr h) ?_ (fun p138 H locs hp138 hw => ?_))
            · exact fun p1 H1 locs1 hp hw => by obtain ⟨pq1, pq2, pq3, pq4, rfl, hq1, hq2, hu_na, hu_ma, hu_wa, hq3⟩ := hp; exact ⟨_, ⟨pq1, pq2, pq3, pq4, rfl, hq1, hq2, (k33_18 _ _ _ _ _ _ 1 (Or.inr (Or.inl ⟨rfl, x33_1, x33_2, rfl, rfl, rfl, rfl, rfl, a17, b18, rq_a17, rq_b18, v5, e8, Or.inr ⟨nc9, v30, e33, Or.inl ⟨nc34, v37, e40, Or.inr ⟨nc41, pf116, na117, ma118, v120, e129, z132, ez132, Or.inl ⟨pq1, hq3, rfl, hu_na, hu_ma, hu_wa, rfl, rfl⟩⟩⟩⟩⟩)))⟩, hw⟩
            obtain ⟨pf137, rfl, e140, e141, e142, e143, e144, e145, e146, e147, e148⟩ := hp138
            have e140 : (pf137 11).toInt = z132.toInt + 1 := e140
            have e141 : (pf137 11).toInt < (tf 6).toInt := e141
            have e142 : bp ta z132 + 1 ≤ bp ta (pf137 11) := e142
            have e143 : (pf137 12).toInt = (pf116 12).toInt := e143
            have e144 : (pf137 13).toInt = (pf116 13).toInt := e144
            have e145 : (pf137 24).toInt = (pf116 24).toInt := e145
            have e146 : (pf137 25).toInt = (pf116 25).toInt := e146
            have e147 : (pf137 26).toInt = (pf116 26).toInt := e147
            have e148 : R_mp_take 1 (lby ":") ta (upd pf116 11 z132) pf137 0 := e148
            refine lv_goto (tgt := 150) S.x S.b d_Mpg_switching_129 (by decide) ?_
            refine lv_aload_n S.x S.b d_Mpg_switching_150 rfl (lv_at hl 1 rfl) ?_
            have hv_v120 : VlS ta (tf 6).toInt na117 ma118 v120 v120.toInt (pf137 13).toInt _ _ := st_default (hi := (pf137 13).toInt) (D := 130) ⟨by omega, hf_14_v120, hf_15_v120, ⟨by omega, by omega⟩, hf_21_v120⟩ (by omega) (by omega); have hn_hv_v120 := hv_v120.num fs_ok
            refine gP_18 S hT hw 0 rfl m10_3 d_Mpg_switching_151 ?_
            refine lv_iload_n S.x S.b d_Mpg_switching_154 rfl (lv_at hl 2 rfl) ?_
            refine lv_aload_n S.x S.b d_Mpg_switching_155 rfl (lv_at hl 1 rfl) ?_
            refine lv_aload_n S.x S.b d_Mpg_switching_156 rfl (lv_at hl 1 rfl) ?_
            refine gP_18 S hT hw 0 rfl m10_3 d_Mpg_switching_157 ?_
            refine lv_iload_n S.x S.b d_Mpg_switching_160 rfl (lv_at hl 2 rfl) ?_
            refine px_iald S hT hw 0 14 (n := 2100) (f := (ma118 18)) rfl gp_18 (x := x33_1) (vp_in_iff.mpr (by first | exact oz_76c30dab77 k33_7 g5 g6 k33_5 k33_6 g2 | (constructor <;> omega))) d_Mpg_switching_161 ?_
            refine lv_topi (fun z149 ez149 => ?_)
            have lz149 := Int32.le_toInt z149
            have uz149 := Int32.toInt_lt z149
            have hsz149 : b18 = z149 := (ez149.trans hf_18_x33_1).symm; subst hsz149
            refine lv_iload_n S.x S.b d_Mpg_switching_162 rfl (lv_at hl 3 rfl) ?_
            refine lv_iload_n S.x S.b d_Mpg_switching_163 rfl (lv_at hl 0 rfl) ?_
            first | refine px_calli (pr := []) (px_runV (As := [.int b18, .int x33_2, .int v120]) (rest := [.int x33_1, .ref (r 18)]) S (c_mp_hang l D cs h r g tf ta pf137 ma118 wa_33 cf ca ef ea xf xa na117 b18 x33_2 v120  (show x33_2.toInt < 2100 from (oz_1b5264ebed k33_12 k33_9 g6 k33_6 g2)) htk _) hT (pr := []) (pcs := [wdP cs h r g tf ta pf137 na117 ma118 wa_33 cf ca ef ea xf xa]) hw px_X.tt (px_recv hT hw 0 0 rfl rfl rfl) m12_77 m12_74 m12_76 ms_10_4 m1_21 q_Mpg_hang ⟨show 0 + 1 ≤ (8 * lv + 26) from (oz_3fe2768530), show 8 + (4 + 11) + 0 ≤ (220 * lv + 1200) from (oz_a3b70bbbba)⟩ hl.1 rfl (Nat.le_of_ble_eq_true rfl) d_Mpg_switching_164 ⟨Nat.le_of_ble_eq_true rfl, Nat.le_of_ble_eq_true rfl⟩) hw hA (fun v153 p152 H locs hp152 hw => ?_) | (refine px_calli (pr := []) (px_runV (As := [.int b18, .int x33_2, .int v120]) (rest := [.int x33_1, .ref (r 18)]) S (c_mp_hang l D cs h r g tf ta pf137 ma118 wa_33 cf ca ef ea xf xa na117 b18 x33_2 v120  (show x33_2.toInt < 2100 from by first | exact oz_1b5264ebed k33_12 k33_9 g6 k33_6 g2 | omega) htk _) hT (pr := []) (pcs := [wdP cs h r g tf ta pf137 na117 ma118 wa_33 cf ca ef ea xf xa]) hw px_X.tt (px_recv hT hw 0 0 rfl rfl rfl) m12_77 m12_74 m12_76 ms_10_4 m1_21 q_Mpg_hang ⟨show 0 + 1 ≤ (8 * lv + 26) from (by first | exact oz_3fe2768530 | omega), show 8 + (4 + 11) + 0 ≤ (220 * lv + 1200) from (by first | exact oz_a3b70bbbba | omega)⟩ hl.1 rfl (Nat.le_of_ble_eq_true rfl) d_Mpg_switching_164 ⟨Nat.le_of_ble_eq_true rfl, Nat.le_of_ble_eq_true rfl⟩) hw hA (fun v153 p152 H locs hp152 hw => ?_))
            obtain ⟨na151, rfl, e154, e155⟩ := hp152
            have e154 : Hg na117 na151 b18 x33_2 v120 v153 := e154
            have hf_14_x33_1 := (Hg.fld e154 (by omega) (by omega)).trans hf_14_x33_1
            have hf_15_x33_1 := (Hg.fld e154 (by omega) (by omega)).trans hf_15_x33_1
            have hf_21_x33_1 := (Hg.fld e154 (by omega) (by omega)).trans hf_21_x33_1
            have hf_17_x33_1 := (Hg.fld e154 (by omega) (by omega)).trans hf_17_x33_1
            have hrw_v120 := Hg.row e154 fs_ok hz_x33_2 (VlV.le hv_v120 (by omega) (Int.le_refl _) (Int.le_refl _) (by omega)) (by omega) (by omega)
            have hn_hrw_v120 := hrw_v120.num
            have hv_a17 := hv_a17.ag fe_ok (Hg.ag e154 (by omega))
            have hfb := Hg.fb e154 hfb (by omega)
            have hfs := FsI.hg hfs e154
            have e155 : R_mp_hang b18 x33_2 v120 na117 na151 v153 := e155
            have lv153 := Int32.le_toInt v153
            have uv153 := Int32.toInt_lt v153
            refine px_iast S hT hw 0 14 (n := 2100) (f := (ma118 18)) (x := x33_1) (y := v153) rfl gp_18 (vp_in_iff.mpr (by constructor <;> omega)) d_Mpg_switching_167 (w' := wdP cs h r g tf ta pf137 na151 (va_up ma118 18 (upd (ma118 18) x33_1.toNatClampNeg v153)) wa_33 cf ca ef ea xf xa) (ps' := [wdP cs h r g tf ta pf137 na151 (va_up ma118 18 (upd (ma118 18) x33_1.toNatClampNeg v153)) wa_33 cf ca ef ea xf xa]) sp_18 rfl (fun H locs hw => ?_)
            obtain ⟨ma156, hu_ma156⟩ : ∃ y : Nat → Nat → Int32, y = va_up ma118 18 (upd (ma118 18) x33_1.toNatClampNeg v153) := ⟨_, rfl⟩
            have hw : pw D A s.heap _ _ [wdP cs h r g tf ta pf137 na151 ma156 wa_33 cf ca ef ea xf xa] := (by rw [hu_ma156]; exact hw)
            have hv_a17 := hv_a17.ag fe_ok (ag_m hu_ma156 (by omega) (by omega))
            have hrw_v120 := hrw_v120.ag fs_ok (ag_m hu_ma156 (by omega) (by omega))
            have hf_18_x33_1 : ma156 18 x33_1.toNatClampNeg = v153 := (by rw [hu_ma156, va_up_s, pk_us])
            have hfb : FrB (pf 13).toInt na ma na151 ma156 := (by rw [hu_ma156]; exact FrB.um hfb (by omega) (by omega))
            refine lv_iload_n S.x S.b d_Mpg_switching_168 rfl (lv_at hl 0 rfl) ?_
            refine lv_istore_n (lv' := [(2, .int v120), (3, .int v120), (0, .ref h), (1, .int x33_1)]) S.x S.b d_Mpg_switching_169 rfl hl (by decide) rfl (fun ls hl => ?_)
            refine lv_goto (tgt := 33) S.x S.b d_Mpg_switching_170 (by decide) ?_
            first | exact ih33 pf137 na151 ma156 wa_33 x33_1 v120 _ _ ls (show (pf137 24).toInt = (pf 24).toInt from (oz_e13fc83238 k33_0 e145 e125)) (show (pf137 25).toInt = (pf 25).toInt from (oz_e13fc83238 k33_1 e146 e126)) (show (pf137 26).toInt = (pf 26).toInt from (oz_e13fc83238 k33_2 e147 e127)) (show (pf137 12).toInt = (pf 12).toInt + 2 from (oz_4fb0b9a079 k33_3 e143 e124)) (show (pf137 12).toInt ≤ 60 from (oz_d791cd839d e143 e124 k33_4)) (show (pf 11).toInt + 2 ≤ (pf137 11).toInt from (oz_1b7dd3e4ae k33_5 e140 e123 tz132)) (show (pf137 11).toInt < (tf 6).toInt from e141) (show x33_1.toInt = (pf 13).toInt from k33_7) (show x33_1.toInt < (pf137 13).toInt from (oz_7f3387d82f k33_8 e144 e122)) (show (pf137 13).toInt - (pf 13).toInt ≤ (pf137 11).toInt - (pf 11).toInt from (oz_48901975ad k33_9 e140 e144 e122 e123 tz132)) (show bp ta (pf 11) + 2 ≤ bp ta (pf137 11) from (oz_9d3e682df8 k33_10 e142 qb1301 hnx119.1 hnx119.2)) (show v120.toInt = -1 ∨ x33_1.toInt + 1 ≤ v120.toInt from by omega) (show v120.toInt < (pf137 13).toInt from (oz_c94e31fc97 e121 e144 e122)) (show FrB (pf 13).toInt na ma na151 ma156 from hfb) (show FrW (pf 26).toInt wa wa_33 from hfw) (show NdF (tf 6).toInt na151 x33_1 28 (pf 11) from ⟨(oz_f3ebed1ad0 k33_7 g5), hf_14_x33_1, hf_15_x33_1, ⟨g0, g1⟩, hf_21_x33_1⟩) (show SwV ta (tf 6).toInt na151 ma156 x33_1 v120 (pf137 13).toInt (3 * (bp ta (pf137 11) - bp ta (pf 11)) - 3) (198 - (pf 12).toInt) from ⟨_, _, _, _, _, hf_17_x33_1, hf_18_x33_1, by omega, by omega, (VlV.le hv_a17 (by omega) (Int.le_refl _) (Int.le_refl _) (by omega)), (Or.inr (RwV.le hrw_v120 (by omega) (by omega) (Int.le_refl _) (by omega))), by omega, by omega, by omega⟩) (show FsI (tf 6).toInt (pf137 13).toInt na151 from (FsI.le hfs (by omega))) (show K_mp_switching_33 (RL_mp_statement lv) ta pf na ma wa pf137 na151 ma156 wa_33 x33_1 v120 from (fun y_f0 y_f1 y_f2 y_f3 y_v y_t k hE => k33_18 y_f0 y_f1 y_f2 y_f3 y_v y_t (k + 1) (Or.inr (Or.inl ⟨rfl, x33_1, x33_2, rfl, rfl, rfl, rfl, rfl, a17, b18, rq_a17, rq_b18, v5, e8, Or.inr ⟨nc9, v30, e33, Or.inl ⟨nc34, v37, e40, Or.inr ⟨nc41, pf116, na117, ma118, v120, e129, z132, ez132, Or.inr ⟨pf137, e148, b18, ez149, na151, v153, e155, ma156, hu_ma156, hE⟩⟩⟩⟩⟩)))) (show (tf 6).toInt - (pf137 11).toInt < (n_33 : Int) from (oz_d6911cdbdd hm e140 e123 tz132)) hw (lv_sub hl [2, 3, 0] rfl) | (exact ih33 pf137 na151 ma156 wa_33 x33_1 v120 _ _ ls (show (pf137 24).toInt = (pf 24).toInt from by first | exact oz_e13fc83238 k33_0 e145 e125 | omega) (show (pf137 25).toInt = (pf 25).toInt from by first | exact oz_e13fc83238 k33_1 e146 e126 | omega) (show (pf137 26).toInt = (pf 26).toInt from by first | exact oz_e13fc83238 k33_2 e147 e127 | omega) (show (pf137 12).toInt = (pf 12).toInt + 2 from by first | exact oz_4fb0b9a079 k33_3 e143 e124 | omega) (show (pf137 12).toInt ≤ 60 from by first | exact oz_d791cd839d e143 e124 k33_4 | omega) (show (pf 11).toInt + 2 ≤ (pf137 11).toInt from by first | exact oz_1b7dd3e4ae k33_5 e140 e123 tz132 | omega) (show (pf137 11).toInt < (tf 6).toInt from by first | exact e141 | omega) (show x33_1.toInt = (pf 13).toInt from by first | exact k33_7 | omega) (show x33_1.toInt < (pf137 13).toInt from by first | exact oz_7f3387d82f k33_8 e144 e122 | omega) (show (pf137 13).toInt - (pf 13).toInt ≤ (pf137 11).toInt - (pf 11).toInt from by first | exact oz_48901975ad k33_9 e140 e144 e122 e123 tz132 | omega) (show bp ta (pf 11) + 2 ≤ bp ta (pf137 11) from by first | exact oz_9d3e682df8 k33_10 e142 qb1301 hnx119.1 hnx119.2 | omega) (show v120.toInt = -1 ∨ x33_1.toInt + 1 ≤ v120.toInt from by omega) (show v120.toInt < (pf137 13).toInt from by first | exact oz_c94e31fc97 e121 e144 e122 | omega) (show FrB (pf 13).toInt na ma na151 ma156 from hfb) (show FrW (pf 26).toInt wa wa_33 from hfw) (show NdF (tf 6).toInt na151 x33_1 28 (pf 11) from ⟨by first | exact oz_f3ebed1ad0 k33_7 g5 | omega, hf_14_x33_1, hf_15_x33_1, ⟨by first | exact g0 | omega, by first | exact g1 | omega⟩, hf_21_x33_1⟩) (show SwV ta (tf 6).toInt na151 ma156 x33_1 v120 (pf137 13).toInt (3 * (bp ta (pf137 11) - bp ta (pf 11)) - 3) (198 - (pf 12).toInt) from ⟨_, _, _, _, _, hf_17_x33_1, hf_18_x33_1, by omega, by omega, (VlV.le hv_a17 (by omega) (Int.le_refl _) (Int.le_refl _) (by omega)), (Or.inr (RwV.le hrw_v120 (by omega) (by omega) (Int.le_refl _) (by omega))), by omega, by omega, by omega⟩) (show FsI (tf 6).toInt (pf137 13).toInt na151 from (FsI.le hfs (by omega))) (show K_mp_switching_33 (RL_mp_statement lv) ta pf na ma wa pf137 na151 ma156 wa_33 x33_1 v120 from (fun y_f0 y_f1 y_f2 y_f3 y_v y_t k hE => k33_18 y_f0 y_f1 y_f2 y_f3 y_v y_t (k + 1) (Or.inr (Or.inl ⟨rfl, x33_1, x33_2, rfl, rfl, rfl, rfl, rfl, a17, b18, rq_a17, rq_b18, v5, e8, Or.inr ⟨nc9, v30, e33, Or.inl ⟨nc34, v37, e40, Or.inr ⟨nc41, pf116, na117, ma118, v120, e129, z132, ez132, Or.inr ⟨pf137, e148, b18, ez149, na151, v153, e155, ma156, hu_ma156, hE⟩⟩⟩⟩⟩)))) (show (tf 6).toInt - (pf137 11).toInt < (n_33 : Int) from by first | exact oz_d6911cdbdd hm e140 e123 tz132 | omega) hw (lv_sub hl [2, 3, 0] rfl))
        · have nc34 : ¬ v30.toInt = (0 : Int) := mt (i_eq (x := v30) (y := 0)).mpr c34
          refine lv_aload_n S.x S.b d_Mpg_switching_53 rfl (lv_at hl 1 rfl) ?_
          refine lv_bipush (v := 29) S.x S.b d_Mpg_switching_54 (by decide) ?_
          refine lv_aload_n S.x S.b d_Mpg_switching_56 rfl (lv_at hl 1 rfl) ?_
          refine gP_11 (v := (pf_33 11)) S hT hw 0 rfl rfl m9_235 d_Mpg_switching_57 ?_
          first | refine px_calli (pr := []) (px_runV (As := [.int 29, .int (pf_33 11)]) (rest := []) S (c_mp_make l D cs h r g tf ta wa_33 cf ca ef ea xf xa pf_33 na_33 ma_33 29 (pf_33 11)  (show 0 ≤ (pf_33 13).toInt from (oz_36c2aaaab5 k33_8 g5 k33_7)) (show (pf_33 13).toInt < 2100 from (oz_50fbb05cd2 k33_9 g6 k33_6 g2)) _) hT (pr := []) (pcs := [wdP cs h r g tf ta pf_33 na_33 ma_33 wa_33 cf ca ef ea xf xa]) hw px_X.tt (px_recv hT hw 0 0 rfl rfl rfl) m11_209 m11_206 m11_208 ms_8_12 m1_21 q_Mpg_make ⟨show 0 + 1 ≤ (8 * lv + 26) from (oz_3fe2768530), show 8 + (3 + 11) + 0 ≤ (220 * lv + 1200) from (oz_877b3efa3f)⟩ hl.1 rfl (Nat.le_of_ble_eq_true rfl) d_Mpg_switching_60 ⟨Nat.le_of_ble_eq_true rfl, Nat.le_of_ble_eq_true rfl⟩) hw hA (fun v164 p163 H locs hp163 hw => ?_) | (refine px_calli (pr := []) (px_runV (As := [.int 29, .int (pf_33 11)]) (rest := []) S (c_mp_make l D cs h r g tf ta wa_33 cf ca ef ea xf xa pf_33 na_33 ma_33 29 (pf_33 11)  (show 0 ≤ (pf_33 13).toInt from by first | exact oz_36c2aaaab5 k33_8 g5 k33_7 | omega) (show (pf_33 13).toInt < 2100 from by first | exact oz_50fbb05cd2 k33_9 g6 k33_6 g2 | omega) _) hT (pr := []) (pcs := [wdP cs h r g tf ta pf_33 na_33 ma_33 wa_33 cf ca ef ea xf xa]) hw px_X.tt (px_recv hT hw 0 0 rfl rfl rfl) m11_209 m11_206 m11_208 ms_8_12 m1_21 q_Mpg_make ⟨show 0 + 1 ≤ (8 * lv + 26) from (by first | exact oz_3fe2768530 | omega), show 8 + (3 + 11) + 0 ≤ (220 * lv + 1200) from (by first | exact oz_877b3efa3f | omega)⟩ hl.1 rfl (Nat.le_of_ble_eq_true rfl) d_Mpg_switching_60 ⟨Nat.le_of_ble_eq_true rfl, Nat.le_of_ble_eq_true rfl⟩) hw hA (fun v164 p163 H locs hp163 hw => ?_))
          obtain ⟨pf160, na161, ma162, rfl, e165, e166, e167, e168, e169, e170, e171, e172, e173⟩ := hp163
          have e165 : v164.toInt = (pf_33 13).toInt := e165
          have e166 : (pf160 13).toInt = (pf_33 13).toInt + 1 := e166
          have e167 : (pf160 11).toInt = (pf_33 11).toInt := e167
          have e168 : (pf160 12).toInt = (pf_33 12).toInt := e168
          have e169 : (pf160 24).toInt = (pf_33 24).toInt := e169
          have e170 : (pf160 25).toInt = (pf_33 25).toInt := e170
          have e171 : (pf160 26).toInt = (pf_33 26).toInt := e171
          have e172 : MkN na_33 ma_33 na161 ma162 v164 (29 : Int32) (pf_33 11) := e172
          have e173 : R_mp_make (29 : Int32) (pf_33 11) pf_33 na_33 ma_33 pf160 na161 ma162 v164 := e173
          obtain ⟨qb1741, qb1742, qb1743, qb1744⟩ := tk_eq (ta := ta) (x := (pf160 11)) (y := (pf_33 11)) (by omega)
          have hmk_v164 := e172
          have hfm_v164 := MkN.frb (b := v164.toInt) hmk_v164 (by omega) (by omega)
          have hf_14_x33_1 := (fb_n hfm_v164 (by omega) (by omega)).trans hf_14_x33_1
          have hf_15_x33_1 := (fb_n hfm_v164 (by omega) (by omega)).trans hf_15_x33_1
          have hf_21_x33_1 := (fb_n hfm_v164 (by omega) (by omega)).trans hf_21_x33_1
          have hf_17_x33_1 := (fb_n hfm_v164 (by omega) (by omega)).trans hf_17_x33_1
          have hf_18_x33_1 := (fb_m hfm_v164 (by omega) (by omega)).trans hf_18_x33_1
          have hv_a17 := hv_a17.ag fe_ok (FrB.ag hfm_v164 (by omega))
          have hz_x33_2 := hz_x33_2.ag fs_ok (FrB.ag hfm_v164 (by omega))
          have hfs := FsI.mk hfs hmk_v164 (by omega) (by omega) (by omega) (by omega)
          have hfb := hfb.tr hfm_v164 (by omega)
          have hf_14_v164 := hmk_v164.2.1 (by decide) (by decide)
          have hf_15_v164 := hmk_v164.2.2.1
          have hf_17_v164 := hmk_v164.2.2.2.2.1
          have hf_18_v164 := hmk_v164.2.2.2.2.2.1
          have hf_21_v164 := hmk_v164.2.2.2.2.2.2.2.2.1
          clear hmk_v164 hfm_v164
          have lv164 := Int32.le_toInt v164
          have uv164 := Int32.toInt_lt v164
          refine lv_istore_n (lv' := [(3, .int v164), (0, .ref h), (1, .int x33_1), (2, .int x33_2)]) S.x S.b d_Mpg_switching_63 rfl hl (by decide) rfl (fun ls hl => ?_)
          refine lv_aload_n S.x S.b d_Mpg_switching_64 rfl (lv_at hl 1 rfl) ?_
          refine lv_dup S.x S.b d_Mpg_switching_65 rfl ?_
          refine gP_11 (v := (pf160 11)) S hT hw 0 rfl rfl m9_235 d_Mpg_switching_66 ?_
          refine lv_iconst (v := 1) S.x S.b d_Mpg_switching_69 (by decide) ?_
          refine lv_iadd S.x S.b d_Mpg_switching_70 ?_
          have lr175 := Int32.le_toInt (pf160 11)
          have ur175 := Int32.toInt_lt (pf160 11)
          refine lv_topi (fun z176 ez176 => ?_)
          have tz176 : z176.toInt = ((pf160 11).toInt + (1 : Int) + 2147483648) % 4294967296 - 2147483648 := by rw [ez176]; exact i_add (pf160 11) 1
          have lz176 := Int32.le_toInt z176
          have uz176 := Int32.toInt_lt z176
          try replace tz176 : z176.toInt = (pf160 11).toInt + (1 : Int) := by omega
          have hnx70 := tk_n htk (x := (pf160 11)) (y := z176) (by omega) (by omega) (by omega)
          refine pP_11 S hT hw 0 rfl m9_235 rfl rfl rfl d_Mpg_switching_71 (ps' := [wdP cs h r g tf ta (upd pf160 11 z176) na161 ma162 wa_33 cf ca ef ea xf xa]) rfl (fun H locs hw => ?_)
          refine lv_aload_n S.x S.b d_Mpg_switching_74 rfl (lv_at hl 1 rfl) ?_
          refine gP_17 S hT hw 0 rfl m10_1 d_Mpg_switching_75 ?_
          refine lv_iload_n S.x S.b d_Mpg_switching_78 rfl (lv_at hl 0 rfl) ?_
          refine lv_aload_n S.x S.b d_Mpg_switching_79 rfl (lv_at hl 1 rfl) ?_
          first | refine th_calli (ps0 := [wdP cs h r g tf ta pf na ma wa cf ca ef ea xf xa]) (pr := []) (pcs := [wdP cs h r g tf ta (upd pf160 11 z176) na161 ma162 wa_33 cf ca ef ea xf xa]) (As := []) (rest := [.int v164, .ref (r 17)]) (c_mp_constant l D cs h r g tf ta cf ca ef ea xf xa (upd pf160 11 z176) na161 ma162 wa_33  lv (show 0 ≤ z176.toInt from (oz_ffb5f7237d tz176 e167 k33_5 g0)) (show z176.toInt < (tf 6).toInt from by omega) (show (tf 6).toInt ≤ 2049 from g2) (show 0 ≤ (pf160 12).toInt from (oz_fb3ccc32d0 e168 k33_3 g8 g7)) (show (pf160 12).toInt ≤ 60 from (oz_a3db38fa3c e168 k33_4)) (show 0 ≤ (pf160 13).toInt from (oz_a454ae152d e166 k33_8 g5 k33_7)) (show (pf160 13).toInt ≤ z176.toInt + 10 from (oz_9d54c0695a e166 tz176 k33_9 e167 g6)) (show 0 ≤ (pf160 26).toInt from (oz_e2fef14871 e171 k33_2 g7)) (show (pf160 26).toInt ≤ (pf160 12).toInt from (oz_c2bcecd9e0 e168 e171 k33_2 k33_3 g8)) (show 61 ≤ (pf160 12).toInt + (lv : Int) from (oz_0124fbd43e g9 e168 k33_3)) (show lv ≤ 61 from g10) hlf htk (FsI.le (N' := (pf160 13).toInt) hfs (by omega))) S hT hw (oX_call (P := (fun A U H => (oN A U H) ∧ (oP A g U H))) (pr := []) (oG_and oG_N oG_P) hw hA ⟨hN, hP⟩) (px_recv hT hw 0 0 rfl rfl rfl) m12_10 m12_7 m12_9 ms_9_4 m1_21 q_Mpg_constant ⟨show (8 * lv + 21) + 1 ≤ (8 * lv + 26) from (oz_79bc52cafa), show 8 + (2 + 11) + (220 * lv + 720) ≤ (220 * lv + 1200) from (oz_56c9d55d2a)⟩ hl.1 rfl (Nat.le_of_ble_eq_true rfl) d_Mpg_switching_80 ⟨Nat.le_of_ble_eq_true rfl, Nat.le_of_ble_eq_true rfl⟩ hne hlk hA hAe (fun o t h => Or.inr h) ?_ (fun v186 p185 H locs hp185 hw => ?_) | (refine th_calli (ps0 := [wdP cs h r g tf ta pf na ma wa cf ca ef ea xf xa]) (pr := []) (pcs := [wdP cs h r g tf ta (upd pf160 11 z176) na161 ma162 wa_33 cf ca ef ea xf xa]) (As := []) (rest := [.int v164, .ref (r 17)]) (c_mp_constant l D cs h r g tf ta cf ca ef ea xf xa (upd pf160 11 z176) na161 ma162 wa_33  lv (show 0 ≤ z176.toInt from by first | exact oz_ffb5f7237d tz176 e167 k33_5 g0 | omega) (show z176.toInt < (tf 6).toInt from by omega) (show (tf 6).toInt ≤ 2049 from by first | exact g2 | omega) (show 0 ≤ (pf160 12).toInt from by first | exact oz_fb3ccc32d0 e168 k33_3 g8 g7 | omega) (show (pf160 12).toInt ≤ 60 from by first | exact oz_a3db38fa3c e168 k33_4 | omega) (show 0 ≤ (pf160 13).toInt from by first | exact oz_a454ae152d e166 k33_8 g5 k33_7 | omega) (show (pf160 13).toInt ≤ z176.toInt + 10 from by first | exact oz_9d54c0695a e166 tz176 k33_9 e167 g6 | omega) (show 0 ≤ (pf160 26).toInt from by first | exact oz_e2fef14871 e171 k33_2 g7 | omega) (show (pf160 26).toInt ≤ (pf160 12).toInt from by first | exact oz_c2bcecd9e0 e168 e171 k33_2 k33_3 g8 | omega) (show 61 ≤ (pf160 12).toInt + (lv : Int) from by first | exact oz_0124fbd43e g9 e168 k33_3 | omega) (show lv ≤ 61 from by first | exact g10 | omega) hlf htk (FsI.le (N' := (pf160 13).toInt) hfs (by omega))) S hT hw (oX_call (P := (fun A U H => (oN A U H) ∧ (oP A g U H))) (pr := []) (oG_and oG_N oG_P) hw hA ⟨hN, hP⟩) (px_recv hT hw 0 0 rfl rfl rfl) m12_10 m12_7 m12_9 ms_9_4 m1_21 q_Mpg_constant ⟨show (8 * lv + 21) + 1 ≤ (8 * lv + 26) from (by first | exact oz_79bc52cafa | omega), show 8 + (2 + 11) + (220 * lv + 720) ≤ (220 * lv + 1200) from (by first | exact oz_56c9d55d2a | omega)⟩ hl.1 rfl (Nat.le_of_ble_eq_true rfl) d_Mpg_switching_80 ⟨Nat.le_of_ble_eq_true rfl, Nat.le_of_ble_eq_true rfl⟩ hne hlk hA hAe (fun o t h => Or.inr h) ?_ (fun v186 p185 H locs hp185 hw => ?_))
          · exact fun p1 H1 locs1 hp hw => by obtain ⟨pq1, pq2, pq3, pq4, rfl, hq1, hq2, hq3⟩ := hp; exact ⟨_, ⟨pq1, pq2, pq3, pq4, rfl, hq1, hq2, (k33_18 _ _ _ _ _ _ 1 (Or.inr (Or.inl ⟨rfl, x33_1, x33_2, rfl, rfl, rfl, rfl, rfl, a17, b18, rq_a17, rq_b18, v5, e8, Or.inr ⟨nc9, v30, e33, Or.inr ⟨nc34, pf160, na161, ma162, v164, e173, z176, ez176, Or.inl ⟨pq1, pq2, pq3, pq4, hq3, rfl, rfl, rfl, rfl, rfl, rfl⟩⟩⟩⟩)))⟩, hw⟩
          obtain ⟨pf181, na182, ma183, wa184, rfl, e187, e188, e189, e190, e191, e192, e193, e194, e195, e196, e197, e198, e199, e200⟩ := hp185
          have e187 : z176.toInt + 1 ≤ (pf181 11).toInt := e187
          have e188 : (pf181 11).toInt < (tf 6).toInt := e188
          have e189 : (pf160 13).toInt + 1 ≤ (pf181 13).toInt := e189
          have e190 : (pf181 13).toInt - (pf160 13).toInt ≤ (pf181 11).toInt - z176.toInt := e190
          have e191 : bp ta z176 + 1 ≤ bp ta (pf181 11) := e191
          have e192 : (pf181 12).toInt = (pf160 12).toInt := e192
          have e193 : (pf181 24).toInt = (pf160 24).toInt := e193
          have e194 : (pf181 25).toInt = (pf160 25).toInt := e194
          have e195 : (pf181 26).toInt = (pf160 26).toInt := e195
          have e196 : FrB (pf160 13).toInt na161 ma162 na182 ma183 := e196
          have hf_14_x33_1 := (fb_n e196 (by omega) (by omega)).trans hf_14_x33_1
          have hf_15_x33_1 := (fb_n e196 (by omega) (by omega)).trans hf_15_x33_1
          have hf_21_x33_1 := (fb_n e196 (by omega) (by omega)).trans hf_21_x33_1
          have hf_17_x33_1 := (fb_n e196 (by omega) (by omega)).trans hf_17_x33_1
          have hf_18_x33_1 := (fb_m e196 (by omega) (by omega)).trans hf_18_x33_1
          have hf_14_v164 := (fb_n e196 (by omega) (by omega)).trans hf_14_v164
          have hf_15_v164 := (fb_n e196 (by omega) (by omega)).trans hf_15_v164
          have hf_17_v164 := (fb_n e196 (by omega) (by omega)).trans hf_17_v164
          have hf_18_v164 := (fb_m e196 (by omega) (by omega)).trans hf_18_v164
          have hf_21_v164 := (fb_n e196 (by omega) (by omega)).trans hf_21_v164
          have hv_a17 := hv_a17.ag fe_ok (FrB.ag e196 (by omega))
          have hz_x33_2 := hz_x33_2.ag fs_ok (FrB.ag e196 (by omega))
          have hfb := hfb.tr e196 (by omega)
          have e197 : FrW (pf160 26).toInt wa_33 wa184 := e197
          have hfw := hfw.tr e197 (by omega)
          have e198 : ExR ta (tf 6).toInt na182 ma183 v186 (pf160 13).toInt (pf181 13).toInt (3 * (bp ta (pf181 11) - bp ta z176)) (pf160 12).toInt := e198
          have ht_v186 := e198
          have hn_ht_v186 := ht_v186.num
          have e199 : FsI (tf 6).toInt (pf181 13).toInt na182 := e199
          have hfs := e199
          have e200 : R_mp_constant ta (upd pf160 11 z176) na161 ma162 wa_33 pf181 na182 ma183 wa184 v186 0 := e200
          have lv186 := Int32.le_toInt v186
          have uv186 := Int32.toInt_lt v186
          refine px_iast S hT hw 0 13 (n := 2100) (f := (na182 17)) (x := v164) (y := v186) rfl gp_17 (vp_in_iff.mpr (by constructor <;> omega)) d_Mpg_switching_83 (w' := wdP cs h r g tf ta pf181 (va_up na182 17 (upd (na182 17) v164.toNatClampNeg v186)) ma183 wa184 cf ca ef ea xf xa) (ps' := [wdP cs h r g tf ta pf181 (va_up na182 17 (upd (na182 17) v164.toNatClampNeg v186)) ma183 wa184 cf ca ef ea xf xa]) sp_17 rfl (fun H locs hw => ?_)
          obtain ⟨na201, hu_na201⟩ : ∃ y : Nat → Nat → Int32, y = va_up na182 17 (upd (na182 17) v164.toNatClampNeg v186) := ⟨_, rfl⟩
          have hw : pw D A s.heap _ _ [wdP cs h r g tf ta pf181 na201 ma183 wa184 cf ca ef ea xf xa] := (by rw [hu_na201]; exact hw)
          obtain ⟨ht_v186, hdq_v186⟩ := ht_v186.ag (ag_n hu_na201 (by omega) (by omega)) (by omega)
          have hn_ht_v186 := ht_v186.num
          have hv_a17 := hv_a17.ag fe_ok (ag_n hu_na201 (by omega) (by omega))
          have hz_x33_2 := hz_x33_2.ag fs_ok (ag_n hu_na201 (by omega) (by omega))
          have hf_14_x33_1 := (fl_n hu_na201 (by decide)).trans hf_14_x33_1
          have hf_15_x33_1 := (fl_n hu_na201 (by decide)).trans hf_15_x33_1
          have hf_21_x33_1 := (fl_n hu_na201 (by decide)).trans hf_21_x33_1
          have hf_17_x33_1 := (fl_f hu_na201 (by omega) (by omega) (by omega)).trans hf_17_x33_1
          have hf_14_v164 := (fl_n hu_na201 (by decide)).trans hf_14_v164
          have hf_15_v164 := (fl_n hu_na201 (by decide)).trans hf_15_v164
          have hf_21_v164 := (fl_n hu_na201 (by decide)).trans hf_21_v164
          have hf_17_v164 : na201 17 v164.toNatClampNeg = v186 := (by rw [hu_na201, va_up_s, pk_us])
          have hfs : FsI _ _ na201 := (by rw [hu_na201]; exact FsI.un hfs (by decide))
          have hfb : FrB (pf 13).toInt na ma na201 ma183 := (by rw [hu_na201]; exact FrB.un hfb (by omega) (by omega))
          refine lv_aload_n S.x S.b d_Mpg_switching_84 rfl (lv_at hl 1 rfl) ?_
          obtain ⟨sk202, hRsk202, st203, hSsk202⟩ := oP_litB hP (k := 103) (tx := ":") (n := 1) (List.mem_of_getElem? (i := 43) rfl)
          refine va_ldcS S.x S.b S.own hRsk202 d_Mpg_switching_85 ?_
          first | refine th_callv (ps0 := [wdP cs h r g tf ta pf na ma wa cf ca ef ea xf xa]) (pr := []) (pcs := [wdP cs h r g tf ta pf181 na201 ma183 wa184 cf ca ef ea xf xa]) (As := [.ref sk202]) (rest := []) (c_mp_take l D cs sk202 1 (lby ":") h r g tf ta na201 ma183 wa184 cf ca ef ea xf xa pf181   (show 0 ≤ (pf181 11).toInt from (oz_e5fce5812b e187 tz176 g0 k33_5 e167)) (show (pf181 11).toInt < (tf 6).toInt from e188) (show (tf 6).toInt ≤ 2049 from g2) (show 1 ≤ 100 from by omega) hlf htk) S hT hw (oX_call (P := (fun A U H => (oN A U H) ∧ (oP A g U H) ∧ (StLt A sk202 1 (lby ":") U H))) (pr := []) (oG_and oG_N (oG_and oG_P oG_QB)) hw hA ⟨hN, hP, ⟨_, hSsk202⟩⟩) (px_recv hT hw 0 0 rfl rfl rfl) m12_57 m12_54 m12_56 ms_9_15 m1_21 q_Mpg_take ⟨show 7 + 1 ≤ (8 * lv + 26) from (oz_8b673174a9), show 8 + (2 + 11) + 230 ≤ (220 * lv + 1200) from (oz_200b99b4a8)⟩ hl.1 rfl (Nat.le_of_ble_eq_true rfl) d_Mpg_switching_87 ⟨Nat.le_of_ble_eq_true rfl, Nat.le_of_ble_eq_true rfl⟩ hne hlk hA hAe (fun o t h => Or.inr h) ?_ (fun p207 H locs hp207 hw => ?_) | (refine th_callv (ps0 := [wdP cs h r g tf ta pf na ma wa cf ca ef ea xf xa]) (pr := []) (pcs := [wdP cs h r g tf ta pf181 na201 ma183 wa184 cf ca ef ea xf xa]) (As := [.ref sk202]) (rest := []) (c_mp_take l D cs sk202 1 (lby ":") h r g tf ta na201 ma183 wa184 cf ca ef ea xf xa pf181   (show 0 ≤ (pf181 11).toInt from by first | exact oz_e5fce5812b e187 tz176 g0 k33_5 e167 | omega) (show (pf181 11).toInt < (tf 6).toInt from by first | exact e188 | omega) (show (tf 6).toInt ≤ 2049 from by first | exact g2 | omega) (show 1 ≤ 100 from by omega) hlf htk) S hT hw (oX_call (P := (fun A U H => (oN A U H) ∧ (oP A g U H) ∧ (StLt A sk202 1 (lby ":") U H))) (pr := []) (oG_and oG_N (oG_and oG_P oG_QB)) hw hA ⟨hN, hP, ⟨_, hSsk202⟩⟩) (px_recv hT hw 0 0 rfl rfl rfl) m12_57 m12_54 m12_56 ms_9_15 m1_21 q_Mpg_take ⟨show 7 + 1 ≤ (8 * lv + 26) from (by first | exact oz_8b673174a9 | omega), show 8 + (2 + 11) + 230 ≤ (220 * lv + 1200) from (by first | exact oz_200b99b4a8 | omega)⟩ hl.1 rfl (Nat.le_of_ble_eq_true rfl) d_Mpg_switching_87 ⟨Nat.le_of_ble_eq_true rfl, Nat.le_of_ble_eq_true rfl⟩ hne hlk hA hAe (fun o t h => Or.inr h) ?_ (fun p207 H locs hp207 hw => ?_))
          · exact fun p1 H1 locs1 hp hw => by obtain ⟨pq1, pq2, pq3, pq4, rfl, hq1, hq2, hu_na, hu_ma, hu_wa, hq3⟩ := hp; exact ⟨_, ⟨pq1, pq2, pq3, pq4, rfl, hq1, hq2, (k33_18 _ _ _ _ _ _ 1 (Or.inr (Or.inl ⟨rfl, x33_1, x33_2, rfl, rfl, rfl, rfl, rfl, a17, b18, rq_a17, rq_b18, v5, e8, Or.inr ⟨nc9, v30, e33, Or.inr ⟨nc34, pf160, na161, ma162, v164, e173, z176, ez176, Or.inr ⟨pf181, na182, ma183, wa184, v186, e200, na201, hu_na201, Or.inl ⟨pq1, hq3, rfl, hu_na, hu_ma, hu_wa, rfl, rfl⟩⟩⟩⟩⟩)))⟩, hw⟩
          obtain ⟨pf206, rfl, e209, e210, e211, e212, e213, e214, e215, e216, e217⟩ := hp207
          have e209 : (pf206 11).toInt = (pf181 11).toInt + 1 := e209
          have e210 : (pf206 11).toInt < (tf 6).toInt := e210
          have e211 : bp ta (pf181 11) + 1 ≤ bp ta (pf206 11) := e211
          have e212 : (pf206 12).toInt = (pf181 12).toInt := e212
          have e213 : (pf206 13).toInt = (pf181 13).toInt := e213
          have e214 : (pf206 24).toInt = (pf181 24).toInt := e214
          have e215 : (pf206 25).toInt = (pf181 25).toInt := e215
          have e216 : (pf206 26).toInt = (pf181 26).toInt := e216
          have e217 : R_mp_take 1 (lby ":") ta pf181 pf206 0 := e217
          refine lv_goto (tgt := 150) S.x S.b d_Mpg_switching_90 (by decide) ?_
          refine lv_aload_n S.x S.b d_Mpg_switching_150 rfl (lv_at hl 1 rfl) ?_
          have hv_v164 : VlS ta (tf 6).toInt na201 ma183 v164 v164.toInt (pf206 13).toInt _ _ := st_case (hi := (pf206 13).toInt) (D := 130) ⟨by omega, hf_14_v164, hf_15_v164, ⟨by omega, by omega⟩, hf_21_v164⟩ hf_17_v164 (by omega) (lo := v164.toInt + 1) (VlV.le (exr_vl ht_v186 (by omega)) (by omega) (by omega) (Int.le_refl _) (by omega)) (by omega); have hn_hv_v164 := hv_v164.num fs_ok
          refine gP_18 S hT hw 0 rfl m10_3 d_Mpg_switching_151 ?_
          refine lv_iload_n S.x S.b d_Mpg_switching_154 rfl (lv_at hl 2 rfl) ?_
          refine lv_aload_n S.x S.b d_Mpg_switching_155 rfl (lv_at hl 1 rfl) ?_
          refine lv_aload_n S.x S.b d_Mpg_switching_156 rfl (lv_at hl 1 rfl) ?_
          refine gP_18 S hT hw 0 rfl m10_3 d_Mpg_switching_157 ?_
          refine lv_iload_n S.x S.b d_Mpg_switching_160 rfl (lv_at hl 2 rfl) ?_
          refine px_iald S hT hw 0 14 (n := 2100) (f := (ma183 18)) rfl gp_18 (x := x33_1) (vp_in_iff.mpr (by first | exact oz_42d356aa53 k33_7 g5 g6 k33_5 e167 g2 tz176 e187 e209 e210 | (constructor <;> omega))) d_Mpg_switching_161 ?_
          refine lv_topi (fun z218 ez218 => ?_)
          have lz218 := Int32.le_toInt z218
          have uz218 := Int32.toInt_lt z218
          have hsz218 : b18 = z218 := (ez218.trans hf_18_x33_1).symm; subst hsz218
          refine lv_iload_n S.x S.b d_Mpg_switching_162 rfl (lv_at hl 3 rfl) ?_
          refine lv_iload_n S.x S.b d_Mpg_switching_163 rfl (lv_at hl 0 rfl) ?_
          first | refine px_calli (pr := []) (px_runV (As := [.int b18, .int x33_2, .int v164]) (rest := [.int x33_1, .ref (r 18)]) S (c_mp_hang l D cs h r g tf ta pf206 ma183 wa184 cf ca ef ea xf xa na201 b18 x33_2 v164  (show x33_2.toInt < 2100 from (oz_76e8d69b32 k33_12 k33_9 g6 e167 g2 tz176 e187 e209 e210)) htk _) hT (pr := []) (pcs := [wdP cs h r g tf ta pf206 na201 ma183 wa184 cf ca ef ea xf xa]) hw px_X.tt (px_recv hT hw 0 0 rfl rfl rfl) m12_77 m12_74 m12_76 ms_10_4 m1_21 q_Mpg_hang ⟨show 0 + 1 ≤ (8 * lv + 26) from (oz_3fe2768530), show 8 + (4 + 11) + 0 ≤ (220 * lv + 1200) from (oz_a3b70bbbba)⟩ hl.1 rfl (Nat.le_of_ble_eq_true rfl) d_Mpg_switching_164 ⟨Nat.le_of_ble_eq_true rfl, Nat.le_of_ble_eq_true rfl⟩) hw hA (fun v222 p221 H locs hp221 hw => ?_) | (refine px_calli (pr := []) (px_runV (As := [.int b18, .int x33_2, .int v164]) (rest := [.int x33_1, .ref (r 18)]) S (c_mp_hang l D cs h r g tf ta pf206 ma183 wa184 cf ca ef ea xf xa na201 b18 x33_2 v164  (show x33_2.toInt < 2100 from by first | exact oz_76e8d69b32 k33_12 k33_9 g6 e167 g2 tz176 e187 e209 e210 | omega) htk _) hT (pr := []) (pcs := [wdP cs h r g tf ta pf206 na201 ma183 wa184 cf ca ef ea xf xa]) hw px_X.tt (px_recv hT hw 0 0 rfl rfl rfl) m12_77 m12_74 m12_76 ms_10_4 m1_21 q_Mpg_hang ⟨show 0 + 1 ≤ (8 * lv + 26) from (by first | exact oz_3fe2768530 | omega), show 8 + (4 + 11) + 0 ≤ (220 * lv + 1200) from (by first | exact oz_a3b70bbbba | omega)⟩ hl.1 rfl (Nat.le_of_ble_eq_true rfl) d_Mpg_switching_164 ⟨Nat.le_of_ble_eq_true rfl, Nat.le_of_ble_eq_true rfl⟩) hw hA (fun v222 p221 H locs hp221 hw => ?_))
          obtain ⟨na220, rfl, e223, e224⟩ := hp221
          have e223 : Hg na201 na220 b18 x33_2 v164 v222 := e223
          have hf_14_x33_1 := (Hg.fld e223 (by omega) (by omega)).trans hf_14_x33_1
          have hf_15_x33_1 := (Hg.fld e223 (by omega) (by omega)).trans hf_15_x33_1
          have hf_21_x33_1 := (Hg.fld e223 (by omega) (by omega)).trans hf_21_x33_1
          have hf_17_x33_1 := (Hg.fld e223 (by omega) (by omega)).trans hf_17_x33_1
          have hrw_v164 := Hg.row e223 fs_ok hz_x33_2 (VlV.le hv_v164 (by omega) (Int.le_refl _) (Int.le_refl _) (by omega)) (by omega) (by omega)
          have hn_hrw_v164 := hrw_v164.num
          have hv_a17 := hv_a17.ag fe_ok (Hg.ag e223 (by omega))
          have hfb := Hg.fb e223 hfb (by omega)
          have hfs := FsI.hg hfs e223
          have e224 : R_mp_hang b18 x33_2 v164 na201 na220 v222 := e224
          have lv222 := Int32.le_toInt v222
          have uv222 := Int32.toInt_lt v222
          refine px_iast S hT hw 0 14 (n := 2100) (f := (ma183 18)) (x := x33_1) (y := v222) rfl gp_18 (vp_in_iff.mpr (by constructor <;> omega)) d_Mpg_switching_167 (w' := wdP cs h r g tf ta pf206 na220 (va_up ma183 18 (upd (ma183 18) x33_1.toNatClampNeg v222)) wa184 cf ca ef ea xf xa) (ps' := [wdP cs h r g tf ta pf206 na220 (va_up ma183 18 (upd (ma183 18) x33_1.toNatClampNeg v222)) wa184 cf ca ef ea xf xa]) sp_18 rfl (fun H locs hw => ?_)
          obtain ⟨ma225, hu_ma225⟩ : ∃ y : Nat → Nat → Int32, y = va_up ma183 18 (upd (ma183 18) x33_1.toNatClampNeg v222) := ⟨_, rfl⟩
          have hw : pw D A s.heap _ _ [wdP cs h r g tf ta pf206 na220 ma225 wa184 cf ca ef ea xf xa] := (by rw [hu_ma225]; exact hw)
          have hv_a17 := hv_a17.ag fe_ok (ag_m hu_ma225 (by omega) (by omega))
          have hrw_v164 := hrw_v164.ag fs_ok (ag_m hu_ma225 (by omega) (by omega))
          have hf_18_x33_1 : ma225 18 x33_1.toNatClampNeg = v222 := (by rw [hu_ma225, va_up_s, pk_us])
          have hfb : FrB (pf 13).toInt na ma na220 ma225 := (by rw [hu_ma225]; exact FrB.um hfb (by omega) (by omega))
          refine lv_iload_n S.x S.b d_Mpg_switching_168 rfl (lv_at hl 0 rfl) ?_
          refine lv_istore_n (lv' := [(2, .int v164), (3, .int v164), (0, .ref h), (1, .int x33_1)]) S.x S.b d_Mpg_switching_169 rfl hl (by decide) rfl (fun ls hl => ?_)
          refine lv_goto (tgt := 33) S.x S.b d_Mpg_switching_170 (by decide) ?_
          first | exact ih33 pf206 na220 ma225 wa184 x33_1 v164 _ _ ls (show (pf206 24).toInt = (pf 24).toInt from (oz_ff3084e3c1 k33_0 e214 e169 e193)) (show (pf206 25).toInt = (pf 25).toInt from (oz_ff3084e3c1 k33_1 e215 e170 e194)) (show (pf206 26).toInt = (pf 26).toInt from (oz_ff3084e3c1 k33_2 e216 e171 e195)) (show (pf206 12).toInt = (pf 12).toInt + 2 from (oz_9b08fec897 k33_3 e212 e168 e192)) (show (pf206 12).toInt ≤ 60 from (oz_3612ae8487 e212 e192 hn_ht_v186.2.2.2 hn_ht_v186.2.2.1)) (show (pf 11).toInt + 2 ≤ (pf206 11).toInt from (oz_c4e72dd71c k33_5 e209 e167 e187 tz176)) (show (pf206 11).toInt < (tf 6).toInt from e210) (show x33_1.toInt = (pf 13).toInt from k33_7) (show x33_1.toInt < (pf206 13).toInt from (oz_307014c40f k33_8 e213 e166 e189)) (show (pf206 13).toInt - (pf 13).toInt ≤ (pf206 11).toInt - (pf 11).toInt from (oz_266ee2c208 k33_9 e209 e213 e166 e167 e190 tz176)) (show bp ta (pf 11) + 2 ≤ bp ta (pf206 11) from (oz_923d0fafc8 k33_10 e211 qb1741 e191 hnx70.1 hnx70.2)) (show v164.toInt = -1 ∨ x33_1.toInt + 1 ≤ v164.toInt from by omega) (show v164.toInt < (pf206 13).toInt from (oz_6b4cc8397a e165 e213 e166 e189)) (show FrB (pf 13).toInt na ma na220 ma225 from hfb) (show FrW (pf 26).toInt wa wa184 from hfw) (show NdF (tf 6).toInt na220 x33_1 28 (pf 11) from ⟨(oz_f3ebed1ad0 k33_7 g5), hf_14_x33_1, hf_15_x33_1, ⟨g0, g1⟩, hf_21_x33_1⟩) (show SwV ta (tf 6).toInt na220 ma225 x33_1 v164 (pf206 13).toInt (3 * (bp ta (pf206 11) - bp ta (pf 11)) - 3) (198 - (pf 12).toInt) from ⟨_, _, _, _, _, hf_17_x33_1, hf_18_x33_1, by omega, by omega, (VlV.le hv_a17 (by omega) (Int.le_refl _) (Int.le_refl _) (by omega)), (Or.inr (RwV.le hrw_v164 (by omega) (by omega) (Int.le_refl _) (by omega))), by omega, by omega, by omega⟩) (show FsI (tf 6).toInt (pf206 13).toInt na220 from (FsI.le hfs (by omega))) (show K_mp_switching_33 (RL_mp_statement lv) ta pf na ma wa pf206 na220 ma225 wa184 x33_1 v164 from (fun y_f0 y_f1 y_f2 y_f3 y_v y_t k hE => k33_18 y_f0 y_f1 y_f2 y_f3 y_v y_t (k + 1) (Or.inr (Or.inl ⟨rfl, x33_1, x33_2, rfl, rfl, rfl, rfl, rfl, a17, b18, rq_a17, rq_b18, v5, e8, Or.inr ⟨nc9, v30, e33, Or.inr ⟨nc34, pf160, na161, ma162, v164, e173, z176, ez176, Or.inr ⟨pf181, na182, ma183, wa184, v186, e200, na201, hu_na201, Or.inr ⟨pf206, e217, b18, ez218, na220, v222, e224, ma225, hu_ma225, hE⟩⟩⟩⟩⟩)))) (show (tf 6).toInt - (pf206 11).toInt < (n_33 : Int) from (oz_4ccf800409 hm e209 e167 e187 tz176)) hw (lv_sub hl [2, 3, 0] rfl) | (exact ih33 pf206 na220 ma225 wa184 x33_1 v164 _ _ ls (show (pf206 24).toInt = (pf 24).toInt from by first | exact oz_ff3084e3c1 k33_0 e214 e169 e193 | omega) (show (pf206 25).toInt = (pf 25).toInt from by first | exact oz_ff3084e3c1 k33_1 e215 e170 e194 | omega) (show (pf206 26).toInt = (pf 26).toInt from by first | exact oz_ff3084e3c1 k33_2 e216 e171 e195 | omega) (show (pf206 12).toInt = (pf 12).toInt + 2 from by first | exact oz_9b08fec897 k33_3 e212 e168 e192 | omega) (show (pf206 12).toInt ≤ 60 from by first | exact oz_3612ae8487 e212 e192 hn_ht_v186.2.2.2 hn_ht_v186.2.2.1 | omega) (show (pf 11).toInt + 2 ≤ (pf206 11).toInt from by first | exact oz_c4e72dd71c k33_5 e209 e167 e187 tz176 | omega) (show (pf206 11).toInt < (tf 6).toInt from by first | exact e210 | omega) (show x33_1.toInt = (pf 13).toInt from by first | exact k33_7 | omega) (show x33_1.toInt < (pf206 13).toInt from by first | exact oz_307014c40f k33_8 e213 e166 e189 | omega) (show (pf206 13).toInt - (pf 13).toInt ≤ (pf206 11).toInt - (pf 11).toInt from by first | exact oz_266ee2c208 k33_9 e209 e213 e166 e167 e190 tz176 | omega) (show bp ta (pf 11) + 2 ≤ bp ta (pf206 11) from by first | exact oz_923d0fafc8 k33_10 e211 qb1741 e191 hnx70.1 hnx70.2 | omega) (show v164.toInt = -1 ∨ x33_1.toInt + 1 ≤ v164.toInt from by omega) (show v164.toInt < (pf206 13).toInt from by first | exact oz_6b4cc8397a e165 e213 e166 e189 | omega) (show FrB (pf 13).toInt na ma na220 ma225 from hfb) (show FrW (pf 26).toInt wa wa184 from hfw) (show NdF (tf 6).toInt na220 x33_1 28 (pf 11) from ⟨by first | exact oz_f3ebed1ad0 k33_7 g5 | omega, hf_14_x33_1, hf_15_x33_1, ⟨by first | exact g0 | omega, by first | exact g1 | omega⟩, hf_21_x33_1⟩) (show SwV ta (tf 6).toInt na220 ma225 x33_1 v164 (pf206 13).toInt (3 * (bp ta (pf206 11) - bp ta (pf 11)) - 3) (198 - (pf 12).toInt) from ⟨_, _, _, _, _, hf_17_x33_1, hf_18_x33_1, by omega, by omega, (VlV.le hv_a17 (by omega) (Int.le_refl _) (Int.le_refl _) (by omega)), (Or.inr (RwV.le hrw_v164 (by omega) (by omega) (Int.le_refl _) (by omega))), by omega, by omega, by omega⟩) (show FsI (tf 6).toInt (pf206 13).toInt na220 from (FsI.le hfs (by omega))) (show K_mp_switching_33 (RL_mp_statement lv) ta pf na ma wa pf206 na220 ma225 wa184 x33_1 v164 from (fun y_f0 y_f1 y_f2 y_f3 y_v y_t k hE => k33_18 y_f0 y_f1 y_f2 y_f3 y_v y_t (k + 1) (Or.inr (Or.inl ⟨rfl, x33_1, x33_2, rfl, rfl, rfl, rfl, rfl, a17, b18, rq_a17, rq_b18, v5, e8, Or.inr ⟨nc9, v30, e33, Or.inr ⟨nc34, pf160, na161, ma162, v164, e173, z176, ez176, Or.inr ⟨pf181, na182, ma183, wa184, v186, e200, na201, hu_na201, Or.inr ⟨pf206, e217, b18, ez218, na220, v222, e224, ma225, hu_ma225, hE⟩⟩⟩⟩⟩)))) (show (tf 6).toInt - (pf206 11).toInt < (n_33 : Int) from by first | exact oz_4ccf800409 hm e209 e167 e187 tz176 | omega) hw (lv_sub hl [2, 3, 0] rfl))
  refine lv_aload_n S.x S.b d_Mpg_switching_0 rfl (lv_at hl 0 rfl) ?_
  refine lv_bipush (v := 28) S.x S.b d_Mpg_switching_1 (by decide) ?_
  refine lv_aload_n S.x S.b d_Mpg_switching_3 rfl (lv_at hl 0 rfl) ?_
  refine gP_11 (v := (pf 11)) S hT hw 0 rfl rfl m9_235 d_Mpg_switching_4 ?_
  first | refine px_calli (pr := []) (px_runV (As := [.int 28, .int (pf 11)]) (rest := []) S (c_mp_make l D cs h r g tf ta wa cf ca ef ea xf xa pf na ma 28 (pf 11)  (show 0 ≤ (pf 13).toInt from g5) (show (pf 13).toInt < 2100 from (oz_1fa6c9b1b7 g6 g11 g2)) _) hT (pr := []) (pcs := [wdP cs h r g tf ta pf na ma wa cf ca ef ea xf xa]) hw px_X.tt (px_recv hT hw 0 0 rfl rfl rfl) m11_209 m11_206 m11_208 ms_8_12 m1_21 q_Mpg_make ⟨show 0 + 1 ≤ (8 * lv + 26) from (oz_3fe2768530), show 8 + (3 + 11) + 0 ≤ (220 * lv + 1200) from (oz_877b3efa3f)⟩ hl.1 rfl (Nat.le_of_ble_eq_true rfl) d_Mpg_switching_7 ⟨Nat.le_of_ble_eq_true rfl, Nat.le_of_ble_eq_true rfl⟩) hw hA (fun v233 p232 H locs hp232 hw => ?_) | (refine px_calli (pr := []) (px_runV (As := [.int 28, .int (pf 11)]) (rest := []) S (c_mp_make l D cs h r g tf ta wa cf ca ef ea xf xa pf na ma 28 (pf 11)  (show 0 ≤ (pf 13).toInt from by first | exact g5 | omega) (show (pf 13).toInt < 2100 from by first | exact oz_1fa6c9b1b7 g6 g11 g2 | omega) _) hT (pr := []) (pcs := [wdP cs h r g tf ta pf na ma wa cf ca ef ea xf xa]) hw px_X.tt (px_recv hT hw 0 0 rfl rfl rfl) m11_209 m11_206 m11_208 ms_8_12 m1_21 q_Mpg_make ⟨show 0 + 1 ≤ (8 * lv + 26) from (by first | exact oz_3fe2768530 | omega), show 8 + (3 + 11) + 0 ≤ (220 * lv + 1200) from (by first | exact oz_877b3efa3f | omega)⟩ hl.1 rfl (Nat.le_of_ble_eq_true rfl) d_Mpg_switching_7 ⟨Nat.le_of_ble_eq_true rfl, Nat.le_of_ble_eq_true rfl⟩) hw hA (fun v233 p232 H locs hp232 hw => ?_))
  obtain ⟨pf229, na230, ma231, rfl, e234, e235, e236, e237, e238, e239, e240, e241, e242⟩ := hp232
  have e234 : v233.toInt = (pf 13).toInt := e234
  have e235 : (pf229 13).toInt = (pf 13).toInt + 1 := e235
  have e236 : (pf229 11).toInt = (pf 11).toInt := e236
  have e237 : (pf229 12).toInt = (pf 12).toInt := e237
  have e238 : (pf229 24).toInt = (pf 24).toInt := e238
  have e239 : (pf229 25).toInt = (pf 25).toInt := e239
  have e240 : (pf229 26).toInt = (pf 26).toInt := e240
  have e241 : MkN na ma na230 ma231 v233 (28 : Int32) (pf 11) := e241
  have e242 : R_mp_make (28 : Int32) (pf 11) pf na ma pf229 na230 ma231 v233 := e242
  obtain ⟨qb2431, qb2432, qb2433, qb2434⟩ := tk_eq (ta := ta) (x := (pf229 11)) (y := (pf 11)) (by omega)
  have hmk_v233 := e241
  have hfm_v233 := MkN.frb (b := v233.toInt) hmk_v233 (by omega) (by omega)
  have hfs := FsI.mk hfs hmk_v233 (by omega) (by omega) (by omega) (by omega)
  have hfb := hfb.tr hfm_v233 (by omega)
  have hf_14_v233 := hmk_v233.2.1 (by decide) (by decide)
  have hf_15_v233 := hmk_v233.2.2.1
  have hf_17_v233 := hmk_v233.2.2.2.2.1
  have hf_18_v233 := hmk_v233.2.2.2.2.2.1
  have hf_21_v233 := hmk_v233.2.2.2.2.2.2.2.2.1
  clear hmk_v233 hfm_v233
  have lv233 := Int32.le_toInt v233
  have uv233 := Int32.toInt_lt v233
  refine lv_istore_n (lv' := [(1, .int v233), (0, .ref h)]) S.x S.b d_Mpg_switching_10 rfl hl (by decide) rfl (fun ls hl => ?_)
  refine lv_aload_n S.x S.b d_Mpg_switching_11 rfl (lv_at hl 1 rfl) ?_
  first | refine th_callv (ps0 := [wdP cs h r g tf ta pf na ma wa cf ca ef ea xf xa]) (pr := []) (pcs := [wdP cs h r g tf ta pf229 na230 ma231 wa cf ca ef ea xf xa]) (As := []) (rest := []) (c_mp_opens l D cs h r g tf ta na230 ma231 wa cf ca ef ea xf xa pf229   (show 0 ≤ (pf229 11).toInt from (oz_f3ebed1ad0 e236 g0)) (show (pf229 11).toInt < (tf 6).toInt from (oz_0f9fb0345d g11 e236)) (show (tf 6).toInt ≤ 2049 from g2) (show (pf229 11).toInt + 1 < (tf 6).toInt from (oz_4b6b8b2f72 g11 e236)) (show 0 ≤ (pf229 12).toInt from (oz_f3ebed1ad0 e237 g3)) (show (pf229 12).toInt ≤ 60 from (oz_a3db38fa3c e237 g4)) hlf htk) S hT hw (oX_call (P := (fun A U H => (oN A U H) ∧ (oP A g U H))) (pr := []) (oG_and oG_N oG_P) hw hA ⟨hN, hP⟩) (px_recv hT hw 0 0 rfl rfl rfl) m11_238 m11_235 m11_237 ms_9_1 m1_21 q_Mpg_opens ⟨show 7 + 1 ≤ (8 * lv + 26) from (oz_8b673174a9), show 8 + (1 + 11) + 150 ≤ (220 * lv + 1200) from (oz_8d5674cc2c)⟩ hl.1 rfl (Nat.le_of_ble_eq_true rfl) d_Mpg_switching_12 ⟨Nat.le_of_ble_eq_true rfl, Nat.le_of_ble_eq_true rfl⟩ hne hlk hA hAe (fun o t h => Or.inr h) ?_ (fun p246 H locs hp246 hw => ?_) | (refine th_callv (ps0 := [wdP cs h r g tf ta pf na ma wa cf ca ef ea xf xa]) (pr := []) (pcs := [wdP cs h r g tf ta pf229 na230 ma231 wa cf ca ef ea xf xa]) (As := []) (rest := []) (c_mp_opens l D cs h r g tf ta na230 ma231 wa cf ca ef ea xf xa pf229   (show 0 ≤ (pf229 11).toInt from by first | exact oz_f3ebed1ad0 e236 g0 | omega) (show (pf229 11).toInt < (tf 6).toInt from by first | exact oz_0f9fb0345d g11 e236 | omega) (show (tf 6).toInt ≤ 2049 from by first | exact g2 | omega) (show (pf229 11).toInt + 1 < (tf 6).toInt from by first | exact oz_4b6b8b2f72 g11 e236 | omega) (show 0 ≤ (pf229 12).toInt from by first | exact oz_f3ebed1ad0 e237 g3 | omega) (show (pf229 12).toInt ≤ 60 from by first | exact oz_a3db38fa3c e237 g4 | omega) hlf htk) S hT hw (oX_call (P := (fun A U H => (oN A U H) ∧ (oP A g U H))) (pr := []) (oG_and oG_N oG_P) hw hA ⟨hN, hP⟩) (px_recv hT hw 0 0 rfl rfl rfl) m11_238 m11_235 m11_237 ms_9_1 m1_21 q_Mpg_opens ⟨show 7 + 1 ≤ (8 * lv + 26) from (by first | exact oz_8b673174a9 | omega), show 8 + (1 + 11) + 150 ≤ (220 * lv + 1200) from (by first | exact oz_8d5674cc2c | omega)⟩ hl.1 rfl (Nat.le_of_ble_eq_true rfl) d_Mpg_switching_12 ⟨Nat.le_of_ble_eq_true rfl, Nat.le_of_ble_eq_true rfl⟩ hne hlk hA hAe (fun o t h => Or.inr h) ?_ (fun p246 H locs hp246 hw => ?_))
  · exact fun p1 H1 locs1 hp hw => by obtain ⟨pq1, pq2, pq3, pq4, rfl, hq1, hq2, hu_na, hu_ma, hu_wa, hq3⟩ := hp; exact ⟨_, ⟨pq1, pq2, pq3, pq4, rfl, hq1, hq2, (Exists.intro 1 (Or.inl ⟨rfl, pf229, na230, ma231, v233, e242, Or.inl ⟨pq1, hq3, rfl, hu_na, hu_ma, hu_wa, rfl, rfl⟩⟩))⟩, hw⟩
  obtain ⟨pf245, rfl, e248, e249, e250, e251, e252, e253, e254, e255, e256, e257, e258⟩ := hp246
  have e248 : (pf245 11).toInt = (pf229 11).toInt + 1 := e248
  have e249 : (pf245 11).toInt < (tf 6).toInt := e249
  have e250 : bp ta (pf229 11) + sz ta (pf229 11) ≤ bp ta (pf245 11) := e250
  have e251 : 1 ≤ sz ta (pf229 11) := e251
  have e252 : (pf245 12).toInt = (pf229 12).toInt + 1 := e252
  have e253 : (pf229 12).toInt < 60 := e253
  have e254 : (pf245 13).toInt = (pf229 13).toInt := e254
  have e255 : (pf245 24).toInt = (pf229 24).toInt := e255
  have e256 : (pf245 25).toInt = (pf229 25).toInt := e256
  have e257 : (pf245 26).toInt = (pf229 26).toInt := e257
  have e258 : R_mp_opens pf229 pf245 0 := e258
  refine lv_aload_n S.x S.b d_Mpg_switching_15 rfl (lv_at hl 1 rfl) ?_
  refine gP_17 S hT hw 0 rfl m10_1 d_Mpg_switching_16 ?_
  refine lv_iload_n S.x S.b d_Mpg_switching_19 rfl (lv_at hl 0 rfl) ?_
  refine lv_aload_n S.x S.b d_Mpg_switching_20 rfl (lv_at hl 1 rfl) ?_
  first | refine th_calli (ps0 := [wdP cs h r g tf ta pf na ma wa cf ca ef ea xf xa]) (pr := []) (pcs := [wdP cs h r g tf ta pf245 na230 ma231 wa cf ca ef ea xf xa]) (As := []) (rest := [.int v233, .ref (r 17)]) (c_mp_inParentheses l D cs h r g tf ta cf ca ef ea xf xa pf245 na230 ma231 wa  lv (show 0 ≤ (pf245 11).toInt from (oz_f3f97b7517 e248 e236 g0)) (show (pf245 11).toInt < (tf 6).toInt from e249) (show (tf 6).toInt ≤ 2049 from g2) (show 0 ≤ (pf245 12).toInt from (oz_87be06313f e252 e237 g8 g7)) (show (pf245 12).toInt ≤ 60 from (oz_6710fd9021 e252 e253)) (show 0 ≤ (pf245 13).toInt from (oz_78ad3463af e254 e235 g5)) (show (pf245 13).toInt ≤ (pf245 11).toInt + 10 from (oz_80eb9436a0 e248 e254 e235 e236 g6)) (show 0 ≤ (pf245 26).toInt from (oz_e2fef14871 e257 e240 g7)) (show (pf245 26).toInt ≤ (pf245 12).toInt from (oz_e919e29b70 e252 e257 e237 e240 g8)) (show 61 ≤ (pf245 12).toInt + (lv : Int) from (oz_927a742cd4 g9 e252 e237)) (show lv ≤ 61 from g10) hlf htk (FsI.le (N' := (pf245 13).toInt) hfs (by omega))) S hT hw (oX_call (P := (fun A U H => (oN A U H) ∧ (oP A g U H))) (pr := []) (oG_and oG_N oG_P) hw hA ⟨hN, hP⟩) (px_recv hT hw 0 0 rfl rfl rfl) m12_129 m12_126 m12_128 ms_11_1 m1_21 q_Mpg_inParentheses ⟨show (8 * lv + 22) + 1 ≤ (8 * lv + 26) from (oz_2e917a000d), show 8 + (2 + 11) + (220 * lv + 1000) ≤ (220 * lv + 1200) from (oz_552b89e250)⟩ hl.1 rfl (Nat.le_of_ble_eq_true rfl) d_Mpg_switching_21 ⟨Nat.le_of_ble_eq_true rfl, Nat.le_of_ble_eq_true rfl⟩ hne hlk hA hAe (fun o t h => Or.inr h) ?_ (fun v268 p267 H locs hp267 hw => ?_) | (refine th_calli (ps0 := [wdP cs h r g tf ta pf na ma wa cf ca ef ea xf xa]) (pr := []) (pcs := [wdP cs h r g tf ta pf245 na230 ma231 wa cf ca ef ea xf xa]) (As := []) (rest := [.int v233, .ref (r 17)]) (c_mp_inParentheses l D cs h r g tf ta cf ca ef ea xf xa pf245 na230 ma231 wa  lv (show 0 ≤ (pf245 11).toInt from by first | exact oz_f3f97b7517 e248 e236 g0 | omega) (show (pf245 11).toInt < (tf 6).toInt from by first | exact e249 | omega) (show (tf 6).toInt ≤ 2049 from by first | exact g2 | omega) (show 0 ≤ (pf245 12).toInt from by first | exact oz_87be06313f e252 e237 g8 g7 | omega) (show (pf245 12).toInt ≤ 60 from by first | exact oz_6710fd9021 e252 e253 | omega) (show 0 ≤ (pf245 13).toInt from by first | exact oz_78ad3463af e254 e235 g5 | omega) (show (pf245 13).toInt ≤ (pf245 11).toInt + 10 from by first | exact oz_80eb9436a0 e248 e254 e235 e236 g6 | omega) (show 0 ≤ (pf245 26).toInt from by first | exact oz_e2fef14871 e257 e240 g7 | omega) (show (pf245 26).toInt ≤ (pf245 12).toInt from by first | exact oz_e919e29b70 e252 e257 e237 e240 g8 | omega) (show 61 ≤ (pf245 12).toInt + (lv : Int) from by first | exact oz_927a742cd4 g9 e252 e237 | omega) (show lv ≤ 61 from by first | exact g10 | omega) hlf htk (FsI.le (N' := (pf245 13).toInt) hfs (by omega))) S hT hw (oX_call (P := (fun A U H => (oN A U H) ∧ (oP A g U H))) (pr := []) (oG_and oG_N oG_P) hw hA ⟨hN, hP⟩) (px_recv hT hw 0 0 rfl rfl rfl) m12_129 m12_126 m12_128 ms_11_1 m1_21 q_Mpg_inParentheses ⟨show (8 * lv + 22) + 1 ≤ (8 * lv + 26) from (by first | exact oz_2e917a000d | omega), show 8 + (2 + 11) + (220 * lv + 1000) ≤ (220 * lv + 1200) from (by first | exact oz_552b89e250 | omega)⟩ hl.1 rfl (Nat.le_of_ble_eq_true rfl) d_Mpg_switching_21 ⟨Nat.le_of_ble_eq_true rfl, Nat.le_of_ble_eq_true rfl⟩ hne hlk hA hAe (fun o t h => Or.inr h) ?_ (fun v268 p267 H locs hp267 hw => ?_))
  · exact fun p1 H1 locs1 hp hw => by obtain ⟨pq1, pq2, pq3, pq4, rfl, hq1, hq2, hq3⟩ := hp; exact ⟨_, ⟨pq1, pq2, pq3, pq4, rfl, hq1, hq2, (Exists.intro 1 (Or.inl ⟨rfl, pf229, na230, ma231, v233, e242, Or.inr ⟨pf245, e258, Or.inl ⟨pq1, pq2, pq3, pq4, hq3, rfl, rfl, rfl, rfl, rfl, rfl⟩⟩⟩))⟩, hw⟩
  obtain ⟨pf263, na264, ma265, wa266, rfl, e269, e270, e271, e272, e273, e274, e275, e276, e277, e278, e279, e280, e281, e282⟩ := hp267
  have e269 : (pf245 11).toInt + 1 ≤ (pf263 11).toInt := e269
  have e270 : (pf263 11).toInt < (tf 6).toInt := e270
  have e271 : (pf245 13).toInt + 1 ≤ (pf263 13).toInt := e271
  have e272 : (pf263 13).toInt - (pf245 13).toInt ≤ (pf263 11).toInt - (pf245 11).toInt := e272
  have e273 : bp ta (pf245 11) + 1 ≤ bp ta (pf263 11) := e273
  have e274 : (pf263 12).toInt = (pf245 12).toInt := e274
  have e275 : (pf263 24).toInt = (pf245 24).toInt := e275
  have e276 : (pf263 25).toInt = (pf245 25).toInt := e276
  have e277 : (pf263 26).toInt = (pf245 26).toInt := e277
  have e278 : FrB (pf245 13).toInt na230 ma231 na264 ma265 := e278
  have hf_14_v233 := (fb_n e278 (by omega) (by omega)).trans hf_14_v233
  have hf_15_v233 := (fb_n e278 (by omega) (by omega)).trans hf_15_v233
  have hf_17_v233 := (fb_n e278 (by omega) (by omega)).trans hf_17_v233
  have hf_18_v233 := (fb_m e278 (by omega) (by omega)).trans hf_18_v233
  have hf_21_v233 := (fb_n e278 (by omega) (by omega)).trans hf_21_v233
  have hfb := hfb.tr e278 (by omega)
  have e279 : FrW (pf245 26).toInt wa wa266 := e279
  have hfw := hfw.tr e279 (by omega)
  have e280 : ExR ta (tf 6).toInt na264 ma265 v268 (pf245 13).toInt (pf263 13).toInt (3 * (bp ta (pf263 11) - bp ta (pf245 11)) - 6) (pf245 12).toInt := e280
  have ht_v268 := e280
  have hn_ht_v268 := ht_v268.num
  have e281 : FsI (tf 6).toInt (pf263 13).toInt na264 := e281
  have hfs := e281
  have e282 : R_mp_inParentheses ta pf245 na230 ma231 wa pf263 na264 ma265 wa266 v268 0 := e282
  have lv268 := Int32.le_toInt v268
  have uv268 := Int32.toInt_lt v268
  refine px_iast S hT hw 0 13 (n := 2100) (f := (na264 17)) (x := v233) (y := v268) rfl gp_17 (vp_in_iff.mpr (by constructor <;> omega)) d_Mpg_switching_24 (w' := wdP cs h r g tf ta pf263 (va_up na264 17 (upd (na264 17) v233.toNatClampNeg v268)) ma265 wa266 cf ca ef ea xf xa) (ps' := [wdP cs h r g tf ta pf263 (va_up na264 17 (upd (na264 17) v233.toNatClampNeg v268)) ma265 wa266 cf ca ef ea xf xa]) sp_17 rfl (fun H locs hw => ?_)
  obtain ⟨na283, hu_na283⟩ : ∃ y : Nat → Nat → Int32, y = va_up na264 17 (upd (na264 17) v233.toNatClampNeg v268) := ⟨_, rfl⟩
  have hw : pw D A s.heap _ _ [wdP cs h r g tf ta pf263 na283 ma265 wa266 cf ca ef ea xf xa] := (by rw [hu_na283]; exact hw)
  obtain ⟨ht_v268, hdq_v268⟩ := ht_v268.ag (ag_n hu_na283 (by omega) (by omega)) (by omega)
  have hn_ht_v268 := ht_v268.num
  have hf_14_v233 := (fl_n hu_na283 (by decide)).trans hf_14_v233
  have hf_15_v233 := (fl_n hu_na283 (by decide)).trans hf_15_v233
  have hf_21_v233 := (fl_n hu_na283 (by decide)).trans hf_21_v233
  have hf_17_v233 : na283 17 v233.toNatClampNeg = v268 := (by rw [hu_na283, va_up_s, pk_us])
  have hfs : FsI _ _ na283 := (by rw [hu_na283]; exact FsI.un hfs (by decide))
  have hfb : FrB (pf 13).toInt na ma na283 ma265 := (by rw [hu_na283]; exact FrB.un hfb (by omega) (by omega))
  refine lv_aload_n S.x S.b d_Mpg_switching_25 rfl (lv_at hl 1 rfl) ?_
  obtain ⟨sk284, hRsk284, st285, hSsk284⟩ := oP_litB hP (k := 91) (tx := "{") (n := 1) (List.mem_of_getElem? (i := 37) rfl)
  refine va_ldcS S.x S.b S.own hRsk284 d_Mpg_switching_26 ?_
  first | refine th_callv (ps0 := [wdP cs h r g tf ta pf na ma wa cf ca ef ea xf xa]) (pr := []) (pcs := [wdP cs h r g tf ta pf263 na283 ma265 wa266 cf ca ef ea xf xa]) (As := [.ref sk284]) (rest := []) (c_mp_opensMark l D cs sk284 1 (lby "{") h r g tf ta na283 ma265 wa266 cf ca ef ea xf xa pf263   (show 0 ≤ (pf263 11).toInt from (oz_5d987d7f9e e269 e248 g0 e236)) (show (pf263 11).toInt < (tf 6).toInt from e270) (show (tf 6).toInt ≤ 2049 from g2) (show 0 ≤ (pf263 12).toInt from (oz_18519da00e e274 e252 e237 g3)) (show (pf263 12).toInt ≤ 60 from (oz_1a76b13bbc e274 e252 e253)) (show 1 ≤ 100 from by omega) hlf htk) S hT hw (oX_call (P := (fun A U H => (oN A U H) ∧ (oP A g U H) ∧ (StLt A sk284 1 (lby "{") U H))) (pr := []) (oG_and oG_N (oG_and oG_P oG_QB)) hw hA ⟨hN, hP, ⟨_, hSsk284⟩⟩) (px_recv hT hw 0 0 rfl rfl rfl) m11_213 m11_210 m11_212 ms_8_13 m1_21 q_Mpg_opensMark ⟨show 8 + 1 ≤ (8 * lv + 26) from (oz_1f16e6619d), show 8 + (2 + 11) + 240 ≤ (220 * lv + 1200) from (oz_31245685ef)⟩ hl.1 rfl (Nat.le_of_ble_eq_true rfl) d_Mpg_switching_28 ⟨Nat.le_of_ble_eq_true rfl, Nat.le_of_ble_eq_true rfl⟩ hne hlk hA hAe (fun o t h => Or.inr h) ?_ (fun p289 H locs hp289 hw => ?_) | (refine th_callv (ps0 := [wdP cs h r g tf ta pf na ma wa cf ca ef ea xf xa]) (pr := []) (pcs := [wdP cs h r g tf ta pf263 na283 ma265 wa266 cf ca ef ea xf xa]) (As := [.ref sk284]) (rest := []) (c_mp_opensMark l D cs sk284 1 (lby "{") h r g tf ta na283 ma265 wa266 cf ca ef ea xf xa pf263   (show 0 ≤ (pf263 11).toInt from by first | exact oz_5d987d7f9e e269 e248 g0 e236 | omega) (show (pf263 11).toInt < (tf 6).toInt from by first | exact e270 | omega) (show (tf 6).toInt ≤ 2049 from by first | exact g2 | omega) (show 0 ≤ (pf263 12).toInt from by first | exact oz_18519da00e e274 e252 e237 g3 | omega) (show (pf263 12).toInt ≤ 60 from by first | exact oz_1a76b13bbc e274 e252 e253 | omega) (show 1 ≤ 100 from by omega) hlf htk) S hT hw (oX_call (P := (fun A U H => (oN A U H) ∧ (oP A g U H) ∧ (StLt A sk284 1 (lby "{") U H))) (pr := []) (oG_and oG_N (oG_and oG_P oG_QB)) hw hA ⟨hN, hP, ⟨_, hSsk284⟩⟩) (px_recv hT hw 0 0 rfl rfl rfl) m11_213 m11_210 m11_212 ms_8_13 m1_21 q_Mpg_opensMark ⟨show 8 + 1 ≤ (8 * lv + 26) from (by first | exact oz_1f16e6619d | omega), show 8 + (2 + 11) + 240 ≤ (220 * lv + 1200) from (by first | exact oz_31245685ef | omega)⟩ hl.1 rfl (Nat.le_of_ble_eq_true rfl) d_Mpg_switching_28 ⟨Nat.le_of_ble_eq_true rfl, Nat.le_of_ble_eq_true rfl⟩ hne hlk hA hAe (fun o t h => Or.inr h) ?_ (fun p289 H locs hp289 hw => ?_))
  · exact fun p1 H1 locs1 hp hw => by obtain ⟨pq1, pq2, pq3, pq4, rfl, hq1, hq2, hu_na, hu_ma, hu_wa, hq3⟩ := hp; exact ⟨_, ⟨pq1, pq2, pq3, pq4, rfl, hq1, hq2, (Exists.intro 1 (Or.inl ⟨rfl, pf229, na230, ma231, v233, e242, Or.inr ⟨pf245, e258, Or.inr ⟨pf263, na264, ma265, wa266, v268, e282, na283, hu_na283, Or.inl ⟨pq1, hq3, rfl, hu_na, hu_ma, hu_wa, rfl, rfl⟩⟩⟩⟩))⟩, hw⟩
  obtain ⟨pf288, rfl, e291, e292, e293, e294, e295, e296, e297, e298, e299, e300, e301⟩ := hp289
  have e291 : (pf288 11).toInt = (pf263 11).toInt + 1 := e291
  have e292 : (pf288 11).toInt < (tf 6).toInt := e292
  have e293 : bp ta (pf263 11) + sz ta (pf263 11) ≤ bp ta (pf288 11) := e293
  have e294 : 1 ≤ sz ta (pf263 11) := e294
  have e295 : (pf288 12).toInt = (pf263 12).toInt + 1 := e295
  have e296 : (pf263 12).toInt < 60 := e296
  have e297 : (pf288 13).toInt = (pf263 13).toInt := e297
  have e298 : (pf288 24).toInt = (pf263 24).toInt := e298
  have e299 : (pf288 25).toInt = (pf263 25).toInt := e299
  have e300 : (pf288 26).toInt = (pf263 26).toInt := e300
  have e301 : R_mp_opensMark 1 (lby "{") ta pf263 pf288 0 := e301
  refine lv_iconst (v := (-1)) S.x S.b d_Mpg_switching_31 (by decide) ?_
  refine lv_istore_n (lv' := [(2, .int (-1)), (1, .int v233), (0, .ref h)]) S.x S.b d_Mpg_switching_32 rfl hl (by decide) rfl (fun ls hl => ?_)
  first | exact J33 (((tf 6).toInt - (pf288 11).toInt).toNat + 1) pf288 na283 ma265 wa266 v233 (-1) _ _ ls (show (pf288 24).toInt = (pf 24).toInt from (oz_ff3084e3c1 e238 e298 e255 e275)) (show (pf288 25).toInt = (pf 25).toInt from (oz_ff3084e3c1 e239 e299 e256 e276)) (show (pf288 26).toInt = (pf 26).toInt from (oz_ff3084e3c1 e240 e300 e257 e277)) (show (pf288 12).toInt = (pf 12).toInt + 2 from (oz_98be4ab6f7 e237 e295 e252 e274)) (show (pf288 12).toInt ≤ 60 from (oz_6710fd9021 e295 e296)) (show (pf 11).toInt + 2 ≤ (pf288 11).toInt from (oz_f8f0dbf1fb e236 e291 e248 e269)) (show (pf288 11).toInt < (tf 6).toInt from e292) (show v233.toInt = (pf 13).toInt from e234) (show v233.toInt < (pf288 13).toInt from (oz_59e62d555c e234 e297 e235 e271 e254)) (show (pf288 13).toInt - (pf 13).toInt ≤ (pf288 11).toInt - (pf 11).toInt from (oz_bb3ffa4880 e235 e236 e291 e297 e248 e254 e272)) (show bp ta (pf 11) + 2 ≤ bp ta (pf288 11) from (oz_969467a754 qb2431 e293 e250 e273 e294 e251)) (show (-1 : Int) = -1 ∨ v233.toInt + 1 ≤ (-1 : Int) from by omega) (show (-1 : Int) < (pf288 13).toInt from (oz_476abe6f46 e297 e271 e254 e235 g5)) (show FrB (pf 13).toInt na ma na283 ma265 from hfb) (show FrW (pf 26).toInt wa wa266 from hfw) (show NdF (tf 6).toInt na283 v233 28 (pf 11) from ⟨(oz_f3ebed1ad0 e234 g5), hf_14_v233, hf_15_v233, ⟨g0, g1⟩, hf_21_v233⟩) (show SwV ta (tf 6).toInt na283 ma265 v233 (-1) (pf288 13).toInt (3 * (bp ta (pf288 11) - bp ta (pf 11)) - 3) (198 - (pf 12).toInt) from ⟨_, _, _, _, 0, hf_17_v233, hf_18_v233, by omega, by omega, (VlV.le (exr_vl ht_v268 (by omega)) (by omega) (Int.le_refl _) (Int.le_refl _) (by omega)), (Or.inl ⟨by decide, by decide, by omega⟩), by omega, by omega, by omega⟩) (show FsI (tf 6).toInt (pf288 13).toInt na283 from (FsI.le hfs (by omega))) (show K_mp_switching_33 (RL_mp_statement lv) ta pf na ma wa pf288 na283 ma265 wa266 v233 (-1) from (fun y_f0 y_f1 y_f2 y_f3 y_v y_t k hE => Exists.intro (k + 1) (Or.inl ⟨rfl, pf229, na230, ma231, v233, e242, Or.inr ⟨pf245, e258, Or.inr ⟨pf263, na264, ma265, wa266, v268, e282, na283, hu_na283, Or.inr ⟨pf288, e301, hE⟩⟩⟩⟩))) (show (tf 6).toInt - (pf288 11).toInt < (((((tf 6).toInt - (pf288 11).toInt).toNat + 1 : Nat) : Int) : Int) from oz_natlt) hw (lv_sub hl [2, 1, 0] rfl) | (exact J33 (((tf 6).toInt - (pf288 11).toInt).toNat + 1) pf288 na283 ma265 wa266 v233 (-1) _ _ ls (show (pf288 24).toInt = (pf 24).toInt from by first | exact oz_ff3084e3c1 e238 e298 e255 e275 | omega) (show (pf288 25).toInt = (pf 25).toInt from by first | exact oz_ff3084e3c1 e239 e299 e256 e276 | omega) (show (pf288 26).toInt = (pf 26).toInt from by first | exact oz_ff3084e3c1 e240 e300 e257 e277 | omega) (show (pf288 12).toInt = (pf 12).toInt + 2 from by first | exact oz_98be4ab6f7 e237 e295 e252 e274 | omega) (show (pf288 12).toInt ≤ 60 from by first | exact oz_6710fd9021 e295 e296 | omega) (show (pf 11).toInt + 2 ≤ (pf288 11).toInt from by first | exact oz_f8f0dbf1fb e236 e291 e248 e269 | omega) (show (pf288 11).toInt < (tf 6).toInt from by first | exact e292 | omega) (show v233.toInt = (pf 13).toInt from by first | exact e234 | omega) (show v233.toInt < (pf288 13).toInt from by first | exact oz_59e62d555c e234 e297 e235 e271 e254 | omega) (show (pf288 13).toInt - (pf 13).toInt ≤ (pf288 11).toInt - (pf 11).toInt from by first | exact oz_bb3ffa4880 e235 e236 e291 e297 e248 e254 e272 | omega) (show bp ta (pf 11) + 2 ≤ bp ta (pf288 11) from by first | exact oz_969467a754 qb2431 e293 e250 e273 e294 e251 | omega) (show (-1 : Int) = -1 ∨ v233.toInt + 1 ≤ (-1 : Int) from by omega) (show (-1 : Int) < (pf288 13).toInt from by first | exact oz_476abe6f46 e297 e271 e254 e235 g5 | omega) (show FrB (pf 13).toInt na ma na283 ma265 from hfb) (show FrW (pf 26).toInt wa wa266 from hfw) (show NdF (tf 6).toInt na283 v233 28 (pf 11) from ⟨by first | exact oz_f3ebed1ad0 e234 g5 | omega, hf_14_v233, hf_15_v233, ⟨by first | exact g0 | omega, by first | exact g1 | omega⟩, hf_21_v233⟩) (show SwV ta (tf 6).toInt na283 ma265 v233 (-1) (pf288 13).toInt (3 * (bp ta (pf288 11) - bp ta (pf 11)) - 3) (198 - (pf 12).toInt) from ⟨_, _, _, _, 0, hf_17_v233, hf_18_v233, by omega, by omega, (VlV.le (exr_vl ht_v268 (by omega)) (by omega) (Int.le_refl _) (Int.le_refl _) (by omega)), (Or.inl ⟨by decide, by decide, by omega⟩), by omega, by omega, by omega⟩) (show FsI (tf 6).toInt (pf288 13).toInt na283 from (FsI.le hfs (by omega))) (show K_mp_switching_33 (RL_mp_statement lv) ta pf na ma wa pf288 na283 ma265 wa266 v233 (-1) from (fun y_f0 y_f1 y_f2 y_f3 y_v y_t k hE => Exists.intro (k + 1) (Or.inl ⟨rfl, pf229, na230, ma231, v233, e242, Or.inr ⟨pf245, e258, Or.inr ⟨pf263, na264, ma265, wa266, v268, e282, na283, hu_na283, Or.inr ⟨pf288, e301, hE⟩⟩⟩⟩))) (show (tf 6).toInt - (pf288 11).toInt < (((((tf 6).toInt - (pf288 11).toInt).toNat + 1 : Nat) : Int) : Int) from by first | exact oz_natlt | omega) hw (lv_sub hl [2, 1, 0] rfl))
