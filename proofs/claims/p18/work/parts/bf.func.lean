theorem oz_f10fc4399c {a0 a1 a2 : Int} (h0 : a1 - 4 ≤ 4096 * (a0 - a2)) (h1 : 0 ≤ a2) (h2 : 4 ≤ a1) : 0 ≤ a0 := by omega
theorem oz_a0605c1f11 {a0 a1 a2 : Int} (h0 : a0 ≤ 4096 * (a1 - a2)) (h1 : 0 ≤ a2) : a0 ≤ 4096 * a1 := by omega
theorem oz_1996704690 {a0 : Int} (h0 : 4 ≤ a0) : 0 ≤ a0 := by omega
theorem oz_9f0e46e5a4 {a0 a1 a2 : Int} (h0 : a0 - 4 ≤ 4096 * (a1 - a2)) (h1 : 0 ≤ a2) : a0 ≤ 4 + 4096 * a1 := by omega
theorem oz_348f6f8c37 {a0 a2 : Int} {n1 : Nat} (h0 : (n1 : Int) ≤ 300) (h1 : a0 = a2) (h2 : a2 = 0) : a0 + (n1 : Int) ≤ 400 := by omega
theorem oz_aa500a4d1b {n0 : Nat}  : (6 * n0 + 27) + 1 ≤ (6 * n0 + 30) := by omega
theorem oz_8192920269 {n0 : Nat}  : 8 + (3 + 11) + (260 * n0 + 940) ≤ (260 * n0 + 1200) := by omega
theorem oz_87ccaac56f {n0 : Nat}  : 0 + 1 ≤ (6 * n0 + 30) := by omega
theorem oz_afd8bf942c {n0 : Nat}  : 8 + (3 + 11) + 0 ≤ (260 * n0 + 1200) := by omega
theorem oz_ae47b2e413 {a0 : Int} (h0 : a0 = (-1 : Int)) : a0 = -1 := by omega
theorem oz_7d77f9acb2 {a0 a1 a2 a3 a4 a5 : Int} (h0 : a2 - 4 ≤ 4096 * (a3 - a0)) (h1 : a1 = a4) (h2 : 4 ≤ a2) (h3 : a2 ≤ a5) (h4 : a5 - a2 ≤ 4096 * (a4 - a3)) : a0 ≤ a1 := by omega
theorem oz_0f098ad6c4 {a0 a1 a2 : Int} (h0 : 6 * a1 ≤ 6 * a2 + (a0)) (h1 : a2 ≤ a1) : 0 ≤ a0 := by omega
theorem oz_cdfb500257 {n0 : Nat}  : (5 * n0 + 15) + 1 ≤ (6 * n0 + 30) := by omega
theorem oz_c6d7f8e51f {n0 : Nat}  : 8 + (3 + 11) + (220 * n0 + 500) ≤ (260 * n0 + 1200) := by omega
theorem oz_569dc2842b {a0 a1 a2 a3 a4 a5 a6 : Int} (h0 : a2 - 4 ≤ 4096 * (a3 - a0)) (h1 : a1 = a4) (h2 : 4 ≤ a2) (h3 : a2 ≤ a5) (h4 : a5 - a2 ≤ 4096 * (a6 - a3)) (h5 : a4 = a6) : a0 ≤ a1 := by omega
theorem oz_e7154091a6 {a0 a1 a2 a3 : Int} (h0 : a0 = a1) (h1 : a1 = a2) (h2 : a3 < a2) (h3 : 0 ≤ a3) : 0 ≤ a0 := by omega
theorem oz_22cd23fbfb {n0 : Nat}  : 8 + 1 ≤ (6 * n0 + 30) := by omega
theorem oz_bfdd52d0e9 {n0 : Nat}  : 8 + (3 + 11) + 330 ≤ (260 * n0 + 1200) := by omega
theorem oz_c0af2c5e34 {a0 a1 a2 a3 : Int} (h0 : a0 = a1) (h1 : a2 - 4 ≤ 4096 * (a1 - a3)) (h2 : 0 ≤ a3) (h3 : 4 ≤ a2) : 0 ≤ a0 := by omega
theorem oz_2ffb131b77 {n0 : Nat}  : 8 + (5 + 11) + 0 ≤ (260 * n0 + 1200) := by omega
theorem oz_2da8b60292 {a0 a1 a2 a3 a4 a5 : Int} (h0 : a2 - 4 ≤ 4096 * (a3 - a0)) (h1 : a1 = a4) (h2 : 4 ≤ a2) (h3 : a5 = a3) (h4 : a5 < a4) : a0 ≤ a1 := by omega
theorem oz_6ca5c2d626 {a0 a1 a2 a3 a4 : Int} (h0 : a0 = a1) (h1 : a1 = a2) (h2 : a2 = a3 + (1 : Int)) (h3 : a3 = a4) (h4 : 4 ≤ a4) : 4 ≤ a0 := by omega
theorem oz_ecc8fd4544 {a0 a1 a2 a3 : Int} (h0 : a0 = a1) (h1 : a2 ≤ a1) (h2 : a2 = a3) (h3 : 0 ≤ a3) : 0 ≤ a0 := by omega
theorem oz_534035a21a {a0 a1 a2 a3 a4 a5 a6 a7 a8 : Int} (h0 : a1 = a2) (h1 : a0 = a3) (h2 : a2 = a4) (h3 : (0 : Int) ≤ 3 → a3 = a5 + (1 : Int)) (h4 : a5 = a6) (h5 : a4 = a7 + (1 : Int)) (h6 : a6 ≤ 4 * (a8 - 4)) (h7 : a7 = a8) : a0 ≤ 4 * (a1 - 4) := by omega
theorem oz_8173734d0d {a0 a1 a2 a3 a4 a5 a6 a7 a8 : Int} (h0 : a3 ≤ 4096 * (a4 - a2)) (h1 : a1 = a5) (h2 : a0 = a6) (h3 : a7 = a4) (h4 : a8 = a3) (h5 : a6 ≤ a8 + 4096) (h6 : a7 < a5) : a0 ≤ 4096 * (a1 - a2) := by omega
theorem oz_dffa147a41 {a0 a1 a2 a3 a4 a5 a6 a7 a8 a9 : Int} (h0 : a3 - 4 ≤ 4096 * (a4 - a2)) (h1 : a0 = a5) (h2 : a1 = a6) (h3 : a7 = a4) (h4 : a8 = a3) (h5 : a5 = a9) (h6 : a7 < a6) (h7 : a9 = a8 + (1 : Int)) : a0 - 4 ≤ 4096 * (a1 - a2) := by omega
theorem oz_2184f957c1 {a0 a1 a2 a3 a4 a5 a6 a7 a8 : Int} (h0 : a1 = a2) (h1 : a0 = a3) (h2 : a2 = a4) (h3 : (1 : Int) ≤ 3 → a3 = a5 + (1 : Int)) (h4 : a5 = a6) (h5 : a4 = a7 + (1 : Int)) (h6 : a6 ≤ 4 * (a8 - 4)) (h7 : a7 = a8) : a0 ≤ 4 * (a1 - 4) := by omega
theorem oz_49140f3e75 {a0 : Int} (h0 : a0 = (4 : Int) + (0 : Int)) : 0 ≤ a0 := by omega
theorem oz_c5999268bd {a0 : Int} (h0 : a0 = (4 : Int) + (0 : Int)) : a0 ≤ 5 := by omega
theorem oz_c55b6a1f99 {a0 a1 a2 a3 a4 : Int} (h0 : a0 = a1) (h1 : a1 = a2) (h2 : a2 = a3 + (2 : Int)) (h3 : a3 = a4) (h4 : 4 ≤ a4) : 4 ≤ a0 := by omega
theorem oz_dcdcbe9638 {a0 a1 a2 a3 a4 a5 a6 a7 a8 a9 : Int} (h0 : a1 = a2) (h1 : a0 = a3) (h2 : a2 = a4) (h3 : a5 = (4 : Int) + (0 : Int)) (h4 : 4 ≤ a5 → a3 = a6 + 2) (h5 : a6 = a7) (h6 : a4 = a8 + (2 : Int)) (h7 : a7 ≤ 4 * (a9 - 4)) (h8 : a8 = a9) : a0 ≤ 4 * (a1 - 4) := by omega
theorem oz_22c2709563 {a0 a1 a2 a3 a4 a5 a6 a7 a8 a9 : Int} (h0 : a3 - 4 ≤ 4096 * (a4 - a2)) (h1 : a0 = a5) (h2 : a1 = a6) (h3 : a7 = a4) (h4 : a8 = a3) (h5 : a5 = a9) (h6 : a7 < a6) (h7 : a9 = a8 + (2 : Int)) : a0 - 4 ≤ 4096 * (a1 - a2) := by omega
theorem oz_47940b811e {a0 : Int} (h0 : a0 = (4 : Int) + (1 : Int)) : 0 ≤ a0 := by omega
theorem oz_9d1cbf99c5 {a0 : Int} (h0 : a0 = (4 : Int) + (1 : Int)) : a0 ≤ 5 := by omega
theorem oz_64d2d2f693 {a0 a1 a2 a3 a4 a5 a6 a7 a8 a9 : Int} (h0 : a1 = a2) (h1 : a0 = a3) (h2 : a2 = a4) (h3 : a5 = (4 : Int) + (1 : Int)) (h4 : 4 ≤ a5 → a3 = a6 + 2) (h5 : a6 = a7) (h6 : a4 = a8 + (2 : Int)) (h7 : a7 ≤ 4 * (a9 - 4)) (h8 : a8 = a9) : a0 ≤ 4 * (a1 - 4) := by omega
theorem oz_8e6a47f383 {a0 a1 a2 : Int} (h0 : 0 ≤ a0) (h1 : a0 < a1) (h2 : a2 = a1) (h3 : a2 ≤ 260) : 0 ≤ a0 ∧ a0 < ((260 : Nat) : Int) := by omega
theorem oz_e804ab7b34 {n0 : Nat}  : 6 + 1 ≤ (6 * n0 + 30) := by omega
theorem oz_65a2126698 {n0 : Nat}  : 8 + (3 + 11) + 230 ≤ (260 * n0 + 1200) := by omega
theorem oz_3b2a82b8fc {a0 a1 a2 : Int} (h0 : a0 = a1) : 6 * a0 ≤ 6 * a1 + (a2 - a2) := by omega
theorem oz_2170ba78f0  : 4 ≤ (4 : Int) := by omega
theorem oz_53c6623dd4  : (0 : Int) ≤ 4 * ((4 : Int) - 4) := by omega
theorem oz_87aa8a2640 {a0 a1 : Int} (h0 : a0 = a1) : (0 : Int) ≤ 4096 * (a0 - a1) := by omega
theorem oz_fee1adc983 {a0 a1 : Int} (h0 : a0 = a1) : (4 : Int) - 4 ≤ 4096 * (a0 - a1) := by omega
theorem oz_cfa840a818 {n0 : Nat}  : 1 + 1 ≤ (6 * n0 + 30) := by omega
theorem oz_087f2c1197 {n0 : Nat}  : 8 + (3 + 11) + 40 ≤ (260 * n0 + 1200) := by omega
theorem oz_0e660507e8 {a0 : Int}  : (0 : Int) ≤ 4096 * (a0 - a0) := by omega
theorem oz_9715964488 {a0 : Int}  : (4 : Int) - 4 ≤ 4096 * (a0 - a0) := by omega
theorem m10_30 : Cond.fieldLink "HomeSystemModel$Program" 258 "HomeSystemModel$Program" "frames" "[I" ∈ AL := AL_10 (List.mem_of_getElem? (i := 30) rfl) rfl
theorem m10_52 : Cond.fieldLink "HomeSystemModel$Program" 277 "HomeSystemModel$Program" "frameCells" "[I" ∈ AL := AL_10 (List.mem_of_getElem? (i := 52) rfl) rfl
abbrev b_Mpg_checkFunction : ByteArray := prog_16_method_97_code
def y_Mpg_checkFunction : MethodName := ⟨"HomeSystemModel$Program", "checkFunction", "(I)V"⟩
theorem d_Mpg_checkFunction_0 : decode b_Mpg_checkFunction 0 = .ok (.aload_n 0, 1) := by decide +kernel
theorem d_Mpg_checkFunction_1 : decode b_Mpg_checkFunction 1 = .ok (.getfield 255, 3) := by decide +kernel
theorem d_Mpg_checkFunction_4 : decode b_Mpg_checkFunction 4 = .ok (.iload_n 1, 1) := by decide +kernel
theorem d_Mpg_checkFunction_5 : decode b_Mpg_checkFunction 5 = .ok (.iaload, 1) := by decide +kernel
theorem d_Mpg_checkFunction_6 : decode b_Mpg_checkFunction 6 = .ok (.istore_n 2, 1) := by decide +kernel
theorem d_Mpg_checkFunction_7 : decode b_Mpg_checkFunction 7 = .ok (.aload_n 0, 1) := by decide +kernel
theorem d_Mpg_checkFunction_8 : decode b_Mpg_checkFunction 8 = .ok (.getfield 210, 3) := by decide +kernel
theorem d_Mpg_checkFunction_11 : decode b_Mpg_checkFunction 11 = .ok (.iload_n 2, 1) := by decide +kernel
theorem d_Mpg_checkFunction_12 : decode b_Mpg_checkFunction 12 = .ok (.iaload, 1) := by decide +kernel
theorem d_Mpg_checkFunction_13 : decode b_Mpg_checkFunction 13 = .ok (.istore_n 3, 1) := by decide +kernel
theorem d_Mpg_checkFunction_14 : decode b_Mpg_checkFunction 14 = .ok (.aload_n 0, 1) := by decide +kernel
theorem d_Mpg_checkFunction_15 : decode b_Mpg_checkFunction 15 = .ok (.iload_n 3, 1) := by decide +kernel
theorem d_Mpg_checkFunction_16 : decode b_Mpg_checkFunction 16 = .ok (.invokevirtual 544, 3) := by decide +kernel
theorem d_Mpg_checkFunction_19 : decode b_Mpg_checkFunction 19 = .ok (.ifCond .ge 12, 3) := by decide +kernel
theorem d_Mpg_checkFunction_22 : decode b_Mpg_checkFunction 22 = .ok (.aload_n 0, 1) := by decide +kernel
theorem d_Mpg_checkFunction_23 : decode b_Mpg_checkFunction 23 = .ok (.iload_n 3, 1) := by decide +kernel
theorem d_Mpg_checkFunction_24 : decode b_Mpg_checkFunction 24 = .ok (.invokevirtual 541, 3) := by decide +kernel
theorem d_Mpg_checkFunction_27 : decode b_Mpg_checkFunction 27 = .ok (.iload_n 1, 1) := by decide +kernel
theorem d_Mpg_checkFunction_28 : decode b_Mpg_checkFunction 28 = .ok (.if_icmp .eq 9, 3) := by decide +kernel
theorem d_Mpg_checkFunction_31 : decode b_Mpg_checkFunction 31 = .ok (.aload_n 0, 1) := by decide +kernel
theorem d_Mpg_checkFunction_32 : decode b_Mpg_checkFunction 32 = .ok (.iconst 1, 1) := by decide +kernel
theorem d_Mpg_checkFunction_33 : decode b_Mpg_checkFunction 33 = .ok (.iload_n 3, 1) := by decide +kernel
theorem d_Mpg_checkFunction_34 : decode b_Mpg_checkFunction 34 = .ok (.invokevirtual 565, 3) := by decide +kernel
theorem d_Mpg_checkFunction_37 : decode b_Mpg_checkFunction 37 = .ok (.aload_n 0, 1) := by decide +kernel
theorem d_Mpg_checkFunction_38 : decode b_Mpg_checkFunction 38 = .ok (.getfield 528, 3) := by decide +kernel
theorem d_Mpg_checkFunction_41 : decode b_Mpg_checkFunction 41 = .ok (.istore 4, 2) := by decide +kernel
theorem d_Mpg_checkFunction_43 : decode b_Mpg_checkFunction 43 = .ok (.aload_n 0, 1) := by decide +kernel
theorem d_Mpg_checkFunction_44 : decode b_Mpg_checkFunction 44 = .ok (.getfield 556, 3) := by decide +kernel
theorem d_Mpg_checkFunction_47 : decode b_Mpg_checkFunction 47 = .ok (.istore 5, 2) := by decide +kernel
theorem d_Mpg_checkFunction_49 : decode b_Mpg_checkFunction 49 = .ok (.aload_n 0, 1) := by decide +kernel
theorem d_Mpg_checkFunction_50 : decode b_Mpg_checkFunction 50 = .ok (.aload_n 0, 1) := by decide +kernel
theorem d_Mpg_checkFunction_51 : decode b_Mpg_checkFunction 51 = .ok (.getfield 528, 3) := by decide +kernel
theorem d_Mpg_checkFunction_54 : decode b_Mpg_checkFunction 54 = .ok (.putfield 556, 3) := by decide +kernel
theorem d_Mpg_checkFunction_57 : decode b_Mpg_checkFunction 57 = .ok (.aload_n 0, 1) := by decide +kernel
theorem d_Mpg_checkFunction_58 : decode b_Mpg_checkFunction 58 = .ok (.iload_n 2, 1) := by decide +kernel
theorem d_Mpg_checkFunction_59 : decode b_Mpg_checkFunction 59 = .ok (.putfield 550, 3) := by decide +kernel
theorem d_Mpg_checkFunction_62 : decode b_Mpg_checkFunction 62 = .ok (.aload_n 0, 1) := by decide +kernel
theorem d_Mpg_checkFunction_63 : decode b_Mpg_checkFunction 63 = .ok (.iconst 4, 1) := by decide +kernel
theorem d_Mpg_checkFunction_64 : decode b_Mpg_checkFunction 64 = .ok (.putfield 621, 3) := by decide +kernel
theorem d_Mpg_checkFunction_67 : decode b_Mpg_checkFunction 67 = .ok (.aload_n 0, 1) := by decide +kernel
theorem d_Mpg_checkFunction_68 : decode b_Mpg_checkFunction 68 = .ok (.iconst 0, 1) := by decide +kernel
theorem d_Mpg_checkFunction_69 : decode b_Mpg_checkFunction 69 = .ok (.putfield 553, 3) := by decide +kernel
theorem d_Mpg_checkFunction_72 : decode b_Mpg_checkFunction 72 = .ok (.aload_n 0, 1) := by decide +kernel
theorem d_Mpg_checkFunction_73 : decode b_Mpg_checkFunction 73 = .ok (.getfield 216, 3) := by decide +kernel
theorem d_Mpg_checkFunction_76 : decode b_Mpg_checkFunction 76 = .ok (.iload_n 2, 1) := by decide +kernel
theorem d_Mpg_checkFunction_77 : decode b_Mpg_checkFunction 77 = .ok (.iaload, 1) := by decide +kernel
theorem d_Mpg_checkFunction_78 : decode b_Mpg_checkFunction 78 = .ok (.istore 6, 2) := by decide +kernel
theorem d_Mpg_checkFunction_80 : decode b_Mpg_checkFunction 80 = .ok (.iload 6, 2) := by decide +kernel
theorem d_Mpg_checkFunction_82 : decode b_Mpg_checkFunction 82 = .ok (.ifCond .lt 150, 3) := by decide +kernel
theorem d_Mpg_checkFunction_85 : decode b_Mpg_checkFunction 85 = .ok (.aload_n 0, 1) := by decide +kernel
theorem d_Mpg_checkFunction_86 : decode b_Mpg_checkFunction 86 = .ok (.aload_n 0, 1) := by decide +kernel
theorem d_Mpg_checkFunction_87 : decode b_Mpg_checkFunction 87 = .ok (.getfield 210, 3) := by decide +kernel
theorem d_Mpg_checkFunction_90 : decode b_Mpg_checkFunction 90 = .ok (.iload 6, 2) := by decide +kernel
theorem d_Mpg_checkFunction_92 : decode b_Mpg_checkFunction 92 = .ok (.iaload, 1) := by decide +kernel
theorem d_Mpg_checkFunction_93 : decode b_Mpg_checkFunction 93 = .ok (.invokevirtual 618, 3) := by decide +kernel
theorem d_Mpg_checkFunction_96 : decode b_Mpg_checkFunction 96 = .ok (.aload_n 0, 1) := by decide +kernel
theorem d_Mpg_checkFunction_97 : decode b_Mpg_checkFunction 97 = .ok (.getfield 216, 3) := by decide +kernel
theorem d_Mpg_checkFunction_100 : decode b_Mpg_checkFunction 100 = .ok (.iload 6, 2) := by decide +kernel
theorem d_Mpg_checkFunction_102 : decode b_Mpg_checkFunction 102 = .ok (.iaload, 1) := by decide +kernel
theorem d_Mpg_checkFunction_103 : decode b_Mpg_checkFunction 103 = .ok (.ifCond .lt 7, 3) := by decide +kernel
theorem d_Mpg_checkFunction_106 : decode b_Mpg_checkFunction 106 = .ok (.iconst 1, 1) := by decide +kernel
theorem d_Mpg_checkFunction_107 : decode b_Mpg_checkFunction 107 = .ok (.goto 4, 3) := by decide +kernel
theorem d_Mpg_checkFunction_110 : decode b_Mpg_checkFunction 110 = .ok (.iconst 0, 1) := by decide +kernel
theorem d_Mpg_checkFunction_111 : decode b_Mpg_checkFunction 111 = .ok (.istore 7, 2) := by decide +kernel
theorem d_Mpg_checkFunction_113 : decode b_Mpg_checkFunction 113 = .ok (.aload_n 0, 1) := by decide +kernel
theorem d_Mpg_checkFunction_114 : decode b_Mpg_checkFunction 114 = .ok (.aload_n 0, 1) := by decide +kernel
theorem d_Mpg_checkFunction_115 : decode b_Mpg_checkFunction 115 = .ok (.getfield 621, 3) := by decide +kernel
theorem d_Mpg_checkFunction_118 : decode b_Mpg_checkFunction 118 = .ok (.iload 7, 2) := by decide +kernel
theorem d_Mpg_checkFunction_120 : decode b_Mpg_checkFunction 120 = .ok (.ifCond .eq 7, 3) := by decide +kernel
theorem d_Mpg_checkFunction_123 : decode b_Mpg_checkFunction 123 = .ok (.iconst 2, 1) := by decide +kernel
theorem d_Mpg_checkFunction_124 : decode b_Mpg_checkFunction 124 = .ok (.goto 4, 3) := by decide +kernel
theorem d_Mpg_checkFunction_127 : decode b_Mpg_checkFunction 127 = .ok (.iconst 1, 1) := by decide +kernel
theorem d_Mpg_checkFunction_128 : decode b_Mpg_checkFunction 128 = .ok (.iadd, 1) := by decide +kernel
theorem d_Mpg_checkFunction_129 : decode b_Mpg_checkFunction 129 = .ok (.putfield 621, 3) := by decide +kernel
theorem d_Mpg_checkFunction_132 : decode b_Mpg_checkFunction 132 = .ok (.aload_n 0, 1) := by decide +kernel
theorem d_Mpg_checkFunction_133 : decode b_Mpg_checkFunction 133 = .ok (.getfield 231, 3) := by decide +kernel
theorem d_Mpg_checkFunction_136 : decode b_Mpg_checkFunction 136 = .ok (.iload 6, 2) := by decide +kernel
theorem d_Mpg_checkFunction_138 : decode b_Mpg_checkFunction 138 = .ok (.iaload, 1) := by decide +kernel
theorem d_Mpg_checkFunction_139 : decode b_Mpg_checkFunction 139 = .ok (.iconst 1, 1) := by decide +kernel
theorem d_Mpg_checkFunction_140 : decode b_Mpg_checkFunction 140 = .ok (.if_icmp .ne 7, 3) := by decide +kernel
theorem d_Mpg_checkFunction_143 : decode b_Mpg_checkFunction 143 = .ok (.iconst 1, 1) := by decide +kernel
theorem d_Mpg_checkFunction_144 : decode b_Mpg_checkFunction 144 = .ok (.goto 4, 3) := by decide +kernel
theorem d_Mpg_checkFunction_147 : decode b_Mpg_checkFunction 147 = .ok (.iconst 0, 1) := by decide +kernel
theorem d_Mpg_checkFunction_148 : decode b_Mpg_checkFunction 148 = .ok (.istore 8, 2) := by decide +kernel
theorem d_Mpg_checkFunction_150 : decode b_Mpg_checkFunction 150 = .ok (.aload_n 0, 1) := by decide +kernel
theorem d_Mpg_checkFunction_151 : decode b_Mpg_checkFunction 151 = .ok (.getfield 219, 3) := by decide +kernel
theorem d_Mpg_checkFunction_154 : decode b_Mpg_checkFunction 154 = .ok (.iload 6, 2) := by decide +kernel
theorem d_Mpg_checkFunction_156 : decode b_Mpg_checkFunction 156 = .ok (.aload_n 0, 1) := by decide +kernel
theorem d_Mpg_checkFunction_157 : decode b_Mpg_checkFunction 157 = .ok (.iload 7, 2) := by decide +kernel
theorem d_Mpg_checkFunction_159 : decode b_Mpg_checkFunction 159 = .ok (.ifCond .eq 10, 3) := by decide +kernel
theorem d_Mpg_checkFunction_162 : decode b_Mpg_checkFunction 162 = .ok (.iconst 4, 1) := by decide +kernel
theorem d_Mpg_checkFunction_163 : decode b_Mpg_checkFunction 163 = .ok (.iload 8, 2) := by decide +kernel
theorem d_Mpg_checkFunction_165 : decode b_Mpg_checkFunction 165 = .ok (.iadd, 1) := by decide +kernel
theorem d_Mpg_checkFunction_166 : decode b_Mpg_checkFunction 166 = .ok (.goto 5, 3) := by decide +kernel
theorem d_Mpg_checkFunction_169 : decode b_Mpg_checkFunction 169 = .ok (.iload 8, 2) := by decide +kernel
theorem d_Mpg_checkFunction_171 : decode b_Mpg_checkFunction 171 = .ok (.iconst 1, 1) := by decide +kernel
theorem d_Mpg_checkFunction_172 : decode b_Mpg_checkFunction 172 = .ok (.invokevirtual 630, 3) := by decide +kernel
theorem d_Mpg_checkFunction_175 : decode b_Mpg_checkFunction 175 = .ok (.iastore, 1) := by decide +kernel
theorem d_Mpg_checkFunction_176 : decode b_Mpg_checkFunction 176 = .ok (.aload_n 0, 1) := by decide +kernel
theorem d_Mpg_checkFunction_177 : decode b_Mpg_checkFunction 177 = .ok (.aload_n 0, 1) := by decide +kernel
theorem d_Mpg_checkFunction_178 : decode b_Mpg_checkFunction 178 = .ok (.getfield 210, 3) := by decide +kernel
theorem d_Mpg_checkFunction_181 : decode b_Mpg_checkFunction 181 = .ok (.iload 6, 2) := by decide +kernel
theorem d_Mpg_checkFunction_183 : decode b_Mpg_checkFunction 183 = .ok (.iaload, 1) := by decide +kernel
theorem d_Mpg_checkFunction_184 : decode b_Mpg_checkFunction 184 = .ok (.iload 7, 2) := by decide +kernel
theorem d_Mpg_checkFunction_186 : decode b_Mpg_checkFunction 186 = .ok (.ifCond .ne 7, 3) := by decide +kernel
theorem d_Mpg_checkFunction_189 : decode b_Mpg_checkFunction 189 = .ok (.iconst 1, 1) := by decide +kernel
theorem d_Mpg_checkFunction_190 : decode b_Mpg_checkFunction 190 = .ok (.goto 19, 3) := by decide +kernel
theorem d_Mpg_checkFunction_193 : decode b_Mpg_checkFunction 193 = .ok (.aload_n 0, 1) := by decide +kernel
theorem d_Mpg_checkFunction_194 : decode b_Mpg_checkFunction 194 = .ok (.getfield 231, 3) := by decide +kernel
theorem d_Mpg_checkFunction_197 : decode b_Mpg_checkFunction 197 = .ok (.iload 6, 2) := by decide +kernel
theorem d_Mpg_checkFunction_199 : decode b_Mpg_checkFunction 199 = .ok (.iaload, 1) := by decide +kernel
theorem d_Mpg_checkFunction_200 : decode b_Mpg_checkFunction 200 = .ok (.iconst 1, 1) := by decide +kernel
theorem d_Mpg_checkFunction_201 : decode b_Mpg_checkFunction 201 = .ok (.if_icmp .ne 7, 3) := by decide +kernel
theorem d_Mpg_checkFunction_204 : decode b_Mpg_checkFunction 204 = .ok (.iconst 3, 1) := by decide +kernel
theorem d_Mpg_checkFunction_205 : decode b_Mpg_checkFunction 205 = .ok (.goto 4, 3) := by decide +kernel
theorem d_Mpg_checkFunction_208 : decode b_Mpg_checkFunction 208 = .ok (.iconst 2, 1) := by decide +kernel
theorem d_Mpg_checkFunction_209 : decode b_Mpg_checkFunction 209 = .ok (.iconst 0, 1) := by decide +kernel
theorem d_Mpg_checkFunction_210 : decode b_Mpg_checkFunction 210 = .ok (.aload_n 0, 1) := by decide +kernel
theorem d_Mpg_checkFunction_211 : decode b_Mpg_checkFunction 211 = .ok (.getfield 219, 3) := by decide +kernel
theorem d_Mpg_checkFunction_214 : decode b_Mpg_checkFunction 214 = .ok (.iload 6, 2) := by decide +kernel
theorem d_Mpg_checkFunction_216 : decode b_Mpg_checkFunction 216 = .ok (.iaload, 1) := by decide +kernel
theorem d_Mpg_checkFunction_217 : decode b_Mpg_checkFunction 217 = .ok (.invokevirtual 633, 3) := by decide +kernel
theorem d_Mpg_checkFunction_220 : decode b_Mpg_checkFunction 220 = .ok (.aload_n 0, 1) := by decide +kernel
theorem d_Mpg_checkFunction_221 : decode b_Mpg_checkFunction 221 = .ok (.getfield 228, 3) := by decide +kernel
theorem d_Mpg_checkFunction_224 : decode b_Mpg_checkFunction 224 = .ok (.iload 6, 2) := by decide +kernel
theorem d_Mpg_checkFunction_226 : decode b_Mpg_checkFunction 226 = .ok (.iaload, 1) := by decide +kernel
theorem d_Mpg_checkFunction_227 : decode b_Mpg_checkFunction 227 = .ok (.istore 6, 2) := by decide +kernel
theorem d_Mpg_checkFunction_229 : decode b_Mpg_checkFunction 229 = .ok (.goto (-149), 3) := by decide +kernel
theorem d_Mpg_checkFunction_232 : decode b_Mpg_checkFunction 232 = .ok (.aload_n 0, 1) := by decide +kernel
theorem d_Mpg_checkFunction_233 : decode b_Mpg_checkFunction 233 = .ok (.aload_n 0, 1) := by decide +kernel
theorem d_Mpg_checkFunction_234 : decode b_Mpg_checkFunction 234 = .ok (.getfield 216, 3) := by decide +kernel
theorem d_Mpg_checkFunction_237 : decode b_Mpg_checkFunction 237 = .ok (.aload_n 0, 1) := by decide +kernel
theorem d_Mpg_checkFunction_238 : decode b_Mpg_checkFunction 238 = .ok (.getfield 219, 3) := by decide +kernel
theorem d_Mpg_checkFunction_241 : decode b_Mpg_checkFunction 241 = .ok (.iload_n 2, 1) := by decide +kernel
theorem d_Mpg_checkFunction_242 : decode b_Mpg_checkFunction 242 = .ok (.iaload, 1) := by decide +kernel
theorem d_Mpg_checkFunction_243 : decode b_Mpg_checkFunction 243 = .ok (.iaload, 1) := by decide +kernel
theorem d_Mpg_checkFunction_244 : decode b_Mpg_checkFunction 244 = .ok (.invokevirtual 639, 3) := by decide +kernel
theorem d_Mpg_checkFunction_247 : decode b_Mpg_checkFunction 247 = .ok (.aload_n 0, 1) := by decide +kernel
theorem d_Mpg_checkFunction_248 : decode b_Mpg_checkFunction 248 = .ok (.iconst 0, 1) := by decide +kernel
theorem d_Mpg_checkFunction_249 : decode b_Mpg_checkFunction 249 = .ok (.putfield 673, 3) := by decide +kernel
theorem d_Mpg_checkFunction_252 : decode b_Mpg_checkFunction 252 = .ok (.aload_n 0, 1) := by decide +kernel
theorem d_Mpg_checkFunction_253 : decode b_Mpg_checkFunction 253 = .ok (.getfield 522, 3) := by decide +kernel
theorem d_Mpg_checkFunction_256 : decode b_Mpg_checkFunction 256 = .ok (.ifCond .ne 18, 3) := by decide +kernel
theorem d_Mpg_checkFunction_259 : decode b_Mpg_checkFunction 259 = .ok (.aload_n 0, 1) := by decide +kernel
theorem d_Mpg_checkFunction_260 : decode b_Mpg_checkFunction 260 = .ok (.aload_n 0, 1) := by decide +kernel
theorem d_Mpg_checkFunction_261 : decode b_Mpg_checkFunction 261 = .ok (.getfield 216, 3) := by decide +kernel
theorem d_Mpg_checkFunction_264 : decode b_Mpg_checkFunction 264 = .ok (.aload_n 0, 1) := by decide +kernel
theorem d_Mpg_checkFunction_265 : decode b_Mpg_checkFunction 265 = .ok (.getfield 219, 3) := by decide +kernel
theorem d_Mpg_checkFunction_268 : decode b_Mpg_checkFunction 268 = .ok (.iload_n 2, 1) := by decide +kernel
theorem d_Mpg_checkFunction_269 : decode b_Mpg_checkFunction 269 = .ok (.iaload, 1) := by decide +kernel
theorem d_Mpg_checkFunction_270 : decode b_Mpg_checkFunction 270 = .ok (.iaload, 1) := by decide +kernel
theorem d_Mpg_checkFunction_271 : decode b_Mpg_checkFunction 271 = .ok (.invokevirtual 676, 3) := by decide +kernel
theorem d_Mpg_checkFunction_274 : decode b_Mpg_checkFunction 274 = .ok (.aload_n 0, 1) := by decide +kernel
theorem d_Mpg_checkFunction_275 : decode b_Mpg_checkFunction 275 = .ok (.getfield 258, 3) := by decide +kernel
theorem d_Mpg_checkFunction_278 : decode b_Mpg_checkFunction 278 = .ok (.iload_n 1, 1) := by decide +kernel
theorem d_Mpg_checkFunction_279 : decode b_Mpg_checkFunction 279 = .ok (.aload_n 0, 1) := by decide +kernel
theorem d_Mpg_checkFunction_280 : decode b_Mpg_checkFunction 280 = .ok (.getfield 621, 3) := by decide +kernel
theorem d_Mpg_checkFunction_283 : decode b_Mpg_checkFunction 283 = .ok (.aload_n 0, 1) := by decide +kernel
theorem d_Mpg_checkFunction_284 : decode b_Mpg_checkFunction 284 = .ok (.getfield 673, 3) := by decide +kernel
theorem d_Mpg_checkFunction_287 : decode b_Mpg_checkFunction 287 = .ok (.iadd, 1) := by decide +kernel
theorem d_Mpg_checkFunction_288 : decode b_Mpg_checkFunction 288 = .ok (.iastore, 1) := by decide +kernel
theorem d_Mpg_checkFunction_289 : decode b_Mpg_checkFunction 289 = .ok (.aload_n 0, 1) := by decide +kernel
theorem d_Mpg_checkFunction_290 : decode b_Mpg_checkFunction 290 = .ok (.getfield 277, 3) := by decide +kernel
theorem d_Mpg_checkFunction_293 : decode b_Mpg_checkFunction 293 = .ok (.iload_n 1, 1) := by decide +kernel
theorem d_Mpg_checkFunction_294 : decode b_Mpg_checkFunction 294 = .ok (.aload_n 0, 1) := by decide +kernel
theorem d_Mpg_checkFunction_295 : decode b_Mpg_checkFunction 295 = .ok (.getfield 553, 3) := by decide +kernel
theorem d_Mpg_checkFunction_298 : decode b_Mpg_checkFunction 298 = .ok (.iastore, 1) := by decide +kernel
theorem d_Mpg_checkFunction_299 : decode b_Mpg_checkFunction 299 = .ok (.aload_n 0, 1) := by decide +kernel
theorem d_Mpg_checkFunction_300 : decode b_Mpg_checkFunction 300 = .ok (.iconst (-1), 1) := by decide +kernel
theorem d_Mpg_checkFunction_301 : decode b_Mpg_checkFunction 301 = .ok (.putfield 550, 3) := by decide +kernel
theorem d_Mpg_checkFunction_304 : decode b_Mpg_checkFunction 304 = .ok (.aload_n 0, 1) := by decide +kernel
theorem d_Mpg_checkFunction_305 : decode b_Mpg_checkFunction 305 = .ok (.iload 4, 2) := by decide +kernel
theorem d_Mpg_checkFunction_307 : decode b_Mpg_checkFunction 307 = .ok (.iload 5, 2) := by decide +kernel
theorem d_Mpg_checkFunction_309 : decode b_Mpg_checkFunction 309 = .ok (.invokevirtual 642, 3) := by decide +kernel
theorem d_Mpg_checkFunction_312 : decode b_Mpg_checkFunction 312 = .ok (.return_, 1) := by decide +kernel
theorem q_Mpg_checkFunction : px_y y_Mpg_checkFunction 1 := by unfold px_y; decide +kernel
set_option maxHeartbeats 4000000 in
set_option maxRecDepth 100000 in
theorem c_mp_checkFunction (l : Launch) (D : va_G) (cs : Nat → ClassId) (ma0 : Nat → Nat → Int32) (nf : Int) (d : Nat) (lo : Int) (hi : Int) (w : Int) (h : Nat) (r : Nat → Nat) (g : Nat → Nat → Option Nat) (tf : Nat → Int32) (ta : Nat → Nat → Int32) (pf : Nat → Int32) (na : Nat → Nat → Int32) (wa : Nat → Nat → Int32) (ef : Nat → Int32) (ea : Nat → Nat → Int32) (xf : Nat → Int32) (xa : Nat → Nat → Int32) (ma : Nat → Nat → Int32) (cf : Nat → Int32) (ca : Nat → Nat → Int32) (p0 : Int32)  (g0 : 0 ≤ lo) (g1 : hi ≤ (pf 13).toInt) (g2 : (pf 13).toInt ≤ 2100) (g3 : (tf 6).toInt ≤ 2049) (g4 : 0 ≤ (cf 33).toInt) (g5 : 0 ≤ w) (g6 : 6 * (cf 33).toInt + w ≤ 6540) (g7 : 0 ≤ (cf 48).toInt) (g8 : 6 * (cf 48).toInt + w ≤ 6540) (g9 : (cf 38).toInt = nf) (g10 : 0 ≤ nf) (g11 : 0 ≤ (cf 37).toInt) (g12 : (cf 44).toInt = 0) (g13 : (cf 45).toInt = 0) (g14 : 0 ≤ (cf 46).toInt) (g15 : (cf 46).toInt ≤ 1) (g16 : 0 ≤ (cf 47).toInt) (g17 : (cf 47).toInt ≤ 1) (g18 : 0 ≤ p0.toInt) (g19 : p0.toInt < nf) (g20 : (d : Int) ≤ 300) (htk : TkI tf ta) (hfs : FsI (tf 6).toInt (pf 13).toInt na) (hwr : WrV cf (tf 6).toInt) (hkt : KnT (tf 6).toInt ca (cf 33).toInt) (hft : FnT (tf 6).toInt na ca (cf 38).toInt) (hks9 : KnS ca (cf 33).toInt (cf 48).toInt 5000) (hfp : FnP na ca nf) (han : Ann na ma0 ma) (hfu : FuV ta (tf 6).toInt na ma0 d lo hi w (ca 39 p0.toNatClampNeg)) : MetV l y_Mpg_checkFunction b_Mpg_checkFunction 9 D cs (6 * d + 30) (260 * d + 1200) (0) (0) [.ref h, .int p0] [wdP cs h r g tf ta pf na ma wa cf ca ef ea xf xa] (oX (fun A U H => (oP A g U H)) [wdP cs h r g tf ta pf na ma wa cf ca ef ea xf xa]) (fun ps => ∃ (ma' : Nat → Nat → Int32) (cf' : Nat → Int32) (ca' : Nat → Nat → Int32), (ps = [wdP cs h r g tf ta pf na ma' wa cf' ca' ef ea xf xa]) ∧ ((cf' 30).toInt = 0 → (cf 30).toInt = 0) ∧ (WrV cf' (tf 6).toInt) ∧ ((cf' 33).toInt = (cf 33).toInt) ∧ ((cf' 37).toInt = (cf 37).toInt) ∧ ((cf' 38).toInt = (cf 38).toInt) ∧ ((cf' 41).toInt = (cf 41).toInt) ∧ ((cf' 44).toInt = (cf 44).toInt) ∧ ((cf' 45).toInt = (cf 45).toInt) ∧ ((cf' 46).toInt = (cf 46).toInt) ∧ ((cf' 47).toInt = (cf 47).toInt) ∧ ((cf' 55).toInt = (cf 55).toInt) ∧ ((cf' 43).toInt = -1) ∧ ((cf 48).toInt ≤ (cf' 48).toInt) ∧ (6 * (cf' 48).toInt ≤ 6 * (cf 48).toInt + w) ∧ (KnT (tf 6).toInt ca' (cf' 33).toInt) ∧ (KnS ca' (cf' 33).toInt (cf' 48).toInt 5000) ∧ (CaF ca ca' (cf 33).toInt (cf 48).toInt p0.toNatClampNeg) ∧ (Ann na ma0 ma') ∧ (FrC lo hi ma ma') ∧ (ZFn cf' ta ca' na ma0 ma' nf (cf' 48).toInt lo hi d p0) ∧ (ZFu cf' ta na ca p0) ∧ (Sy0 ca' (cf 48).toInt (cf' 48).toInt) ∧ (R_mp_checkFunction d tf ta na p0 ma cf ca ma' cf' ca')) := by
  refine px_enter (by decide) (Nat.le_of_ble_eq_true rfl) ?_
  intro p e s m below meth c A ls hAe S hr hlk hnm hA hT hX hw hl
  have hl : lv_has ls 9 [(0, .ref h), (1, .int p0)] := hl
  have lp0 := Int32.le_toInt p0
  have up0 := Int32.toInt_lt p0
  have cstm1 : ((-1) : Int32).toInt = (-1) := rfl
  have cst0 : (0 : Int32).toInt = 0 := rfl
  have cst1 : (1 : Int32).toInt = 1 := rfl
  have cst2 : (2 : Int32).toInt = 2 := rfl
  have cst3 : (3 : Int32).toInt = 3 := rfl
  have cst4 : (4 : Int32).toInt = 4 := rfl
  have hX : (fun A U H => (oP A g U H)) A s s.heap := by rw [hAe]; exact hX
  have hP := hX
  have hZ := hP.1
  have hF0 := hP.2.1
  obtain ⟨nd, e_nd⟩ : ∃ y : Int32, y = ca 39 p0.toNatClampNeg := ⟨_, rfl⟩
  rw [← e_nd] at hfu
  obtain ⟨hnr, hk41, htn, h22n, hw24, m1, wp, wb, hm1, hrpA, hk20, hscb, hws, hwp, hwb⟩ := hfu
  obtain ⟨ys, hys⟩ : ∃ y : Int, y = (cf 48).toInt := ⟨_, rfl⟩
  obtain ⟨tx, htx0⟩ : ∃ y : Int, y = 0 := ⟨_, rfl⟩
  have hks : KnS ca (cf 33).toInt (cf 48).toInt ys := KnS.yy hks9 (by omega)
  have hkt0 := hkt
  have hks0 := hks
  have hft0 := hft
  have hfp0 := hfp
  have hsr : SyR ca ys (cf 48).toInt 0 tx := syr_0 (by omega)
  have htx : txo nd.toInt = tx := (by unfold txo; rw [if_neg (by omega)]; omega)
  have hfc : FrC lo hi ma ma := FrC.rf
  have hwr0 := hwr.1
  have hk11 := hkt.1
  have hf11 := hft.1
  have hcg : CaG ca ca (cf 33).toInt (cf 48).toInt := CaG.rf
  have hLS := stc_all l D cs d
  have hLQ := msc_all l D cs d
  have hrb := ScV.rng hscb
  have hrpA : RvP ta (tf 6).toInt na ma0 (nd.toInt + 1) m1 wp (na 17 nd.toNatClampNeg) := hrpA
  have J80 : ∀ (n_80 : Nat) (ma_80 : Nat → Nat → Int32) (cf_80 : Nat → Int32) (ca_80 : Nat → Nat → Int32) (mid_80 : Int) (wr_80 : Int) (x80_4 x80_5 x80_6 : Int32) (H : Heap) (locs : List Loc) (ls : Array Slot), ((cf_80 30).toInt = 0 → (cf 30).toInt = 0) → (WrV cf_80 (tf 6).toInt) → ((cf_80 38).toInt = (cf 38).toInt) → ((cf_80 44).toInt = (cf 44).toInt) → ((cf_80 45).toInt = (cf 45).toInt) → ((cf_80 46).toInt = (cf 46).toInt) → ((cf_80 47).toInt = (cf 47).toInt) → ((cf_80 41).toInt = (cf 41).toInt) → ((cf_80 55).toInt = (cf 55).toInt) → ((cf_80 37).toInt = (cf 33).toInt) → ((cf_80 43).toInt = nd.toInt) → ((cf 33).toInt ≤ (cf_80 33).toInt) → (6 * (cf_80 33).toInt ≤ 6 * (cf 33).toInt + (wp - wr_80)) → ((cf 48).toInt ≤ (cf_80 48).toInt) → (6 * (cf_80 48).toInt ≤ 6 * (cf 48).toInt + (wp - wr_80)) → (4 ≤ (cf_80 42).toInt) → (0 ≤ (cf_80 54).toInt) → ((cf_80 54).toInt ≤ 4 * ((cf_80 42).toInt - 4)) → ((cf_80 54).toInt ≤ 4096 * ((cf_80 48).toInt - (cf 48).toInt)) → ((cf_80 42).toInt - 4 ≤ 4096 * ((cf_80 48).toInt - (cf 48).toInt)) → (x80_4.toInt = (cf 33).toInt) → (x80_5.toInt = (cf 37).toInt) → (nd.toInt + 1 ≤ mid_80) → (mid_80 ≤ m1) → (0 ≤ wr_80) → (wr_80 ≤ wp) → (KnT (tf 6).toInt ca_80 (cf_80 33).toInt) → (KnS ca_80 (cf_80 33).toInt (cf_80 48).toInt ys) → (CaG ca ca_80 (cf 33).toInt (cf 48).toInt) → (SyR ca_80 ys (cf_80 48).toInt (cf_80 54).toInt tx) → (Ann na ma0 ma_80) → (FrC lo hi ma ma_80) → (RvP ta (tf 6).toInt na ma0 mid_80 m1 wr_80 x80_6) → (PrS ca_80 (cf_80 48).toInt ys na ma_80 lo mid_80 (na 17 nd.toNatClampNeg) x80_6) → (ZFu cf_80 ta na ca p0) → (K_mp_checkFunction_80 d tf ta na p0 ma cf ca ma_80 cf_80 ca_80 x80_4 x80_5 x80_6 nd) → m1 - mid_80 < (n_80 : Int) → pw D A s.heap H locs [wdP cs h r g tf ta pf na ma_80 wa cf_80 ca_80 ef ea xf xa] → lv_has ls 9 [(0, .ref h), (1, .int p0), (2, .int nd), (4, .int x80_4), (5, .int x80_5), (6, .int x80_6)] → W p l e { frames := (6 * d + 30), cells := 0, slots := 0, locals := (260 * d + 1200) } s m [.ref h, .int p0].toArray below meth c H locs 0 0 (MQ below (va_Qv (fun ps => ∃ (ma' : Nat → Nat → Int32) (cf' : Nat → Int32) (ca' : Nat → Nat → Int32), (ps = [wdP cs h r g tf ta pf na ma' wa cf' ca' ef ea xf xa]) ∧ ((cf' 30).toInt = 0 → (cf 30).toInt = 0) ∧ (WrV cf' (tf 6).toInt) ∧ ((cf' 33).toInt = (cf 33).toInt) ∧ ((cf' 37).toInt = (cf 37).toInt) ∧ ((cf' 38).toInt = (cf 38).toInt) ∧ ((cf' 41).toInt = (cf 41).toInt) ∧ ((cf' 44).toInt = (cf 44).toInt) ∧ ((cf' 45).toInt = (cf 45).toInt) ∧ ((cf' 46).toInt = (cf 46).toInt) ∧ ((cf' 47).toInt = (cf 47).toInt) ∧ ((cf' 55).toInt = (cf 55).toInt) ∧ ((cf' 43).toInt = -1) ∧ ((cf 48).toInt ≤ (cf' 48).toInt) ∧ (6 * (cf' 48).toInt ≤ 6 * (cf 48).toInt + w) ∧ (KnT (tf 6).toInt ca' (cf' 33).toInt) ∧ (KnS ca' (cf' 33).toInt (cf' 48).toInt 5000) ∧ (CaF ca ca' (cf 33).toInt (cf 48).toInt p0.toNatClampNeg) ∧ (Ann na ma0 ma') ∧ (FrC lo hi ma ma') ∧ (ZFn cf' ta ca' na ma0 ma' nf (cf' 48).toInt lo hi d p0) ∧ (ZFu cf' ta na ca p0) ∧ (Sy0 ca' (cf 48).toInt (cf' 48).toInt) ∧ (R_mp_checkFunction d tf ta na p0 ma cf ca ma' cf' ca')) (pc_B D (va_A ([wdP cs h r g tf ta pf na ma wa cf ca ef ea xf xa] : List va_W).flatten s.heap.size)) (va_A ([wdP cs h r g tf ta pf na ma wa cf ca ef ea xf xa] : List va_W).flatten s.heap.size)) [.ref h, .int p0].toArray s 0 0 A) (F0 m 80 ls []) := by
    intro  n_80
    induction n_80 with
    | zero =>
      intro ma_80 cf_80 ca_80 mid_80 wr_80 x80_4 x80_5 x80_6 H locs ls k80_0 k80_1 k80_2 k80_3 k80_4 k80_5 k80_6 k80_7 k80_8 k80_9 k80_10 k80_11 k80_12 k80_13 k80_14 k80_15 k80_16 k80_17 k80_18 k80_19 k80_20 k80_21 k80_22 k80_23 k80_24 k80_25 k80_26 k80_27 k80_28 k80_29 k80_30 k80_31 k80_32 k80_33 k80_34 k80_35 hm hw hl
      have lx80_4 := Int32.le_toInt x80_4
      have ux80_4 := Int32.toInt_lt x80_4
      have lx80_5 := Int32.le_toInt x80_5
      have ux80_5 := Int32.toInt_lt x80_5
      have lx80_6 := Int32.le_toInt x80_6
      have ux80_6 := Int32.toInt_lt x80_6
      have hwr := k80_1
      have hw0_k80_1 := hwr.1
      have hkt := k80_26
      have hk11_k80_26 := hkt.1
      have hks := k80_27
      have hcg := k80_28
      have hft := hft0.cg k80_28
      have hfp := hfp0.cg k80_28
      have hsr := k80_29
      have han := k80_30
      have hfc := k80_31
      have hrp := k80_32
      have hprs := k80_33
      have hzfu := k80_34
      exact absurd hm (by omega)
    | succ n_80 ih80 =>
      intro ma_80 cf_80 ca_80 mid_80 wr_80 x80_4 x80_5 x80_6 H locs ls k80_0 k80_1 k80_2 k80_3 k80_4 k80_5 k80_6 k80_7 k80_8 k80_9 k80_10 k80_11 k80_12 k80_13 k80_14 k80_15 k80_16 k80_17 k80_18 k80_19 k80_20 k80_21 k80_22 k80_23 k80_24 k80_25 k80_26 k80_27 k80_28 k80_29 k80_30 k80_31 k80_32 k80_33 k80_34 k80_35 hm hw hl
      have lx80_4 := Int32.le_toInt x80_4
      have ux80_4 := Int32.toInt_lt x80_4
      have lx80_5 := Int32.le_toInt x80_5
      have ux80_5 := Int32.toInt_lt x80_5
      have lx80_6 := Int32.le_toInt x80_6
      have ux80_6 := Int32.toInt_lt x80_6
      have hwr := k80_1
      have hw0_k80_1 := hwr.1
      have hkt := k80_26
      have hk11_k80_26 := hkt.1
      have hks := k80_27
      have hcg := k80_28
      have hft := hft0.cg k80_28
      have hfp := hfp0.cg k80_28
      have hsr := k80_29
      have han := k80_30
      have hfc := k80_31
      have hrp := k80_32
      have hprs := k80_33
      have hzfu := k80_34
      refine lv_iload S.x S.b d_Mpg_checkFunction_80 (lv_at hl 5 rfl) ?_
      refine lv_if_lt (tgt := 232) S.x S.b d_Mpg_checkFunction_82 (by decide) (fun c1 => ?_) (fun c1 => ?_)
      · have nc1 : x80_6.toInt < (0 : Int) := (i_lt (x := x80_6) (y := 0)).mp c1
        refine lv_aload_n S.x S.b d_Mpg_checkFunction_232 rfl (lv_at hl 0 rfl) ?_
        refine lv_aload_n S.x S.b d_Mpg_checkFunction_233 rfl (lv_at hl 0 rfl) ?_
        refine gP_17 S hT hw 0 rfl m10_1 d_Mpg_checkFunction_234 ?_
        refine lv_aload_n S.x S.b d_Mpg_checkFunction_237 rfl (lv_at hl 0 rfl) ?_
        refine gP_18 S hT hw 0 rfl m10_3 d_Mpg_checkFunction_238 ?_
        refine lv_iload_n S.x S.b d_Mpg_checkFunction_241 rfl (lv_at hl 2 rfl) ?_
        refine px_iald S hT hw 0 14 (n := 2100) (f := (ma_80 18)) rfl gp_18 (x := nd) (vp_in_iff.mpr (by constructor <;> omega)) d_Mpg_checkFunction_242 ?_
        refine lv_topi (fun z3 ez3 => ?_)
        have lz3 := Int32.le_toInt z3
        have uz3 := Int32.toInt_lt z3
        have ha_z3 : z3 = ma0 18 nd.toNatClampNeg := ez3.trans (Ann.v18 han (by omega)); have hn_z3 : z3.toInt = (ma0 18 nd.toNatClampNeg).toInt := (by rw [ha_z3])
        refine px_iald S hT hw 0 13 (n := 2100) (f := (na 17)) rfl gp_17 (x := z3) (vp_in_iff.mpr (by constructor <;> omega)) d_Mpg_checkFunction_243 ?_
        refine lv_topi (fun z4 ez4 => ?_)
        have lz4 := Int32.le_toInt z4
        have uz4 := Int32.toInt_lt z4
        have rz4 : z4.toInt = (na 17 z3.toNatClampNeg).toInt := by rw [ez4]
        have ha_z4 : z4 = na 17 (ma0 18 nd.toNatClampNeg).toNatClampNeg := (by rw [ez4, ha_z3]); have hrs_z4 : RvS ta (tf 6).toInt na ma0 d ((ma0 18 nd.toNatClampNeg).toInt + 1) hi wb z4 := (by rw [ha_z4]; exact ScV.s20 hscb (by omega) rfl)
        first | refine px_callv (pr := []) (px_runV (As := [.int z4]) (rest := []) S (c_mp_statements l D cs ma0 ys nf tx d ((ma0 18 nd.toNatClampNeg).toInt + 1) hi wb h r g tf ta pf na wa ef ea xf xa ma_80 cf_80 ca_80 z4  (show 0 ≤ ((ma0 18 nd.toNatClampNeg).toInt + 1) from by omega) (show hi ≤ (pf 13).toInt from g1) (show (pf 13).toInt ≤ 2100 from g2) (show (tf 6).toInt ≤ 2049 from g3) (show 0 ≤ (cf_80 33).toInt from (oz_16d7fa9f32 k80_11 g4)) (show 0 ≤ wb from oz_ed756c8324) (show 6 * (cf_80 33).toInt + wb ≤ 6540 from by omega) (show 0 ≤ (cf_80 48).toInt from (oz_f10fc4399c k80_19 g7 k80_15)) (show 6 * (cf_80 48).toInt + wb ≤ 6540 from by omega) (show (cf_80 38).toInt = nf from (oz_1687f4cc65 g9 k80_2)) (show 0 ≤ nf from g10) (show 0 ≤ (cf_80 37).toInt from (oz_f3ebed1ad0 k80_9 g4)) (show 0 ≤ (cf_80 54).toInt from k80_16) (show (cf_80 54).toInt ≤ 4096 * (cf_80 48).toInt from (oz_a0605c1f11 k80_18 g7)) (show 0 ≤ (cf_80 42).toInt from (oz_1996704690 k80_15)) (show (cf_80 42).toInt ≤ 4 + 4096 * (cf_80 48).toInt from (oz_9f0e46e5a4 k80_19 g7)) (show 0 ≤ (cf_80 44).toInt from (oz_d68b2b83bb k80_3 g12)) (show 0 ≤ (cf_80 45).toInt from (oz_d68b2b83bb k80_4 g13)) (show ys ≤ (cf_80 48).toInt ∨ tx = 1 from by omega) (show 0 ≤ (cf_80 46).toInt from (oz_f3ebed1ad0 k80_5 g14)) (show (cf_80 46).toInt ≤ 1 from (oz_878017becc k80_5 g15)) (show 0 ≤ (cf_80 47).toInt from (oz_f3ebed1ad0 k80_6 g16)) (show (cf_80 47).toInt ≤ 1 from (oz_878017becc k80_6 g17)) (show (cf_80 44).toInt + (d : Int) ≤ 400 from (oz_348f6f8c37 g20 k80_3 g12)) (show (cf_80 45).toInt + (d : Int) ≤ 400 from (oz_348f6f8c37 g20 k80_4 g13)) (show 0 ≤ (cf_80 43).toInt from by omega) (show (cf_80 43).toInt < 2100 from by omega) (show tx = 0 from by omega) (show ((ma0 18 nd.toNatClampNeg).toInt + 1) ≤ hi from by omega) htk (FsI.le (N' := (pf 13).toInt) hfs (by omega)) hwr (KnT.eq hkt (by omega)) (FnT.eq hft (by omega)) (KnS.eq hks (by omega) (by omega)) hfp (SyR.eq hsr (by omega) (by omega)) han (show txo (cf_80 43).toInt = tx from by rw [show (cf_80 43).toInt = nd.toInt by omega]; exact htx) hrs_z4 hLS _) hT (pr := []) (pcs := [wdP cs h r g tf ta pf na ma_80 wa cf_80 ca_80 ef ea xf xa]) hw (oX_call (P := (fun A U H => (oP A g U H))) (pr := []) oG_P hw hA hP) (px_recv hT hw 0 0 rfl rfl rfl) m12_197 m12_194 m12_196 ms_12_2 m1_21 q_Mpg_statements ⟨show (6 * d + 27) + 1 ≤ (6 * d + 30) from (oz_aa500a4d1b), show 8 + (3 + 11) + (260 * d + 940) ≤ (260 * d + 1200) from (oz_8192920269)⟩ hl.1 rfl (Nat.le_of_ble_eq_true rfl) d_Mpg_checkFunction_244 ⟨Nat.le_of_ble_eq_true rfl, Nat.le_of_ble_eq_true rfl⟩) hw hA (fun p11 H locs hp11 hw => ?_) | (refine px_callv (pr := []) (px_runV (As := [.int z4]) (rest := []) S (c_mp_statements l D cs ma0 ys nf tx d ((ma0 18 nd.toNatClampNeg).toInt + 1) hi wb h r g tf ta pf na wa ef ea xf xa ma_80 cf_80 ca_80 z4  (show 0 ≤ ((ma0 18 nd.toNatClampNeg).toInt + 1) from by omega) (show hi ≤ (pf 13).toInt from by first | exact g1 | omega) (show (pf 13).toInt ≤ 2100 from by first | exact g2 | omega) (show (tf 6).toInt ≤ 2049 from by first | exact g3 | omega) (show 0 ≤ (cf_80 33).toInt from by first | exact oz_16d7fa9f32 k80_11 g4 | omega) (show 0 ≤ wb from by first | exact oz_ed756c8324 | omega) (show 6 * (cf_80 33).toInt + wb ≤ 6540 from by omega) (show 0 ≤ (cf_80 48).toInt from by first | exact oz_f10fc4399c k80_19 g7 k80_15 | omega) (show 6 * (cf_80 48).toInt + wb ≤ 6540 from by omega) (show (cf_80 38).toInt = nf from by first | exact oz_1687f4cc65 g9 k80_2 | omega) (show 0 ≤ nf from by first | exact g10 | omega) (show 0 ≤ (cf_80 37).toInt from by first | exact oz_f3ebed1ad0 k80_9 g4 | omega) (show 0 ≤ (cf_80 54).toInt from by first | exact k80_16 | omega) (show (cf_80 54).toInt ≤ 4096 * (cf_80 48).toInt from by first | exact oz_a0605c1f11 k80_18 g7 | omega) (show 0 ≤ (cf_80 42).toInt from by first | exact oz_1996704690 k80_15 | omega) (show (cf_80 42).toInt ≤ 4 + 4096 * (cf_80 48).toInt from by first | exact oz_9f0e46e5a4 k80_19 g7 | omega) (show 0 ≤ (cf_80 44).toInt from by first | exact oz_d68b2b83bb k80_3 g12 | omega) (show 0 ≤ (cf_80 45).toInt from by first | exact oz_d68b2b83bb k80_4 g13 | omega) (show ys ≤ (cf_80 48).toInt ∨ tx = 1 from by omega) (show 0 ≤ (cf_80 46).toInt from by first | exact oz_f3ebed1ad0 k80_5 g14 | omega) (show (cf_80 46).toInt ≤ 1 from by first | exact oz_878017becc k80_5 g15 | omega) (show 0 ≤ (cf_80 47).toInt from by first | exact oz_f3ebed1ad0 k80_6 g16 | omega) (show (cf_80 47).toInt ≤ 1 from by first | exact oz_878017becc k80_6 g17 | omega) (show (cf_80 44).toInt + (d : Int) ≤ 400 from by first | exact oz_348f6f8c37 g20 k80_3 g12 | omega) (show (cf_80 45).toInt + (d : Int) ≤ 400 from by first | exact oz_348f6f8c37 g20 k80_4 g13 | omega) (show 0 ≤ (cf_80 43).toInt from by omega) (show (cf_80 43).toInt < 2100 from by omega) (show tx = 0 from by omega) (show ((ma0 18 nd.toNatClampNeg).toInt + 1) ≤ hi from by omega) htk (FsI.le (N' := (pf 13).toInt) hfs (by omega)) hwr (KnT.eq hkt (by omega)) (FnT.eq hft (by omega)) (KnS.eq hks (by omega) (by omega)) hfp (SyR.eq hsr (by omega) (by omega)) han (show txo (cf_80 43).toInt = tx from by rw [show (cf_80 43).toInt = nd.toInt by omega]; exact htx) hrs_z4 hLS _) hT (pr := []) (pcs := [wdP cs h r g tf ta pf na ma_80 wa cf_80 ca_80 ef ea xf xa]) hw (oX_call (P := (fun A U H => (oP A g U H))) (pr := []) oG_P hw hA hP) (px_recv hT hw 0 0 rfl rfl rfl) m12_197 m12_194 m12_196 ms_12_2 m1_21 q_Mpg_statements ⟨show (6 * d + 27) + 1 ≤ (6 * d + 30) from (by first | exact oz_aa500a4d1b | omega), show 8 + (3 + 11) + (260 * d + 940) ≤ (260 * d + 1200) from (by first | exact oz_8192920269 | omega)⟩ hl.1 rfl (Nat.le_of_ble_eq_true rfl) d_Mpg_checkFunction_244 ⟨Nat.le_of_ble_eq_true rfl, Nat.le_of_ble_eq_true rfl⟩) hw hA (fun p11 H locs hp11 hw => ?_))
        obtain ⟨ma8, cf9, ca10, rfl, e13, e14, e15, e16, e17, e18, e19, e20, e21, e22, e23, e24, e25, e26, e27, e28, e29, e30, e31, e32, e33, e34, e35, e36, e37, e38, e39, e40, e41⟩ := hp11
        have e13 : (cf9 30).toInt = 0 → (cf_80 30).toInt = 0 := e13
        have e14 : WrV cf9 (tf 6).toInt := e14
        have hwr := e14
        have hw0_e14 := hwr.1
        have e15 : (cf9 37).toInt = (cf_80 37).toInt := e15
        have e16 : (cf9 38).toInt = (cf_80 38).toInt := e16
        have e17 : (cf9 43).toInt = (cf_80 43).toInt := e17
        have e18 : (cf9 44).toInt = (cf_80 44).toInt := e18
        have e19 : (cf9 45).toInt = (cf_80 45).toInt := e19
        have e20 : (cf9 46).toInt = (cf_80 46).toInt := e20
        have e21 : (cf9 47).toInt = (cf_80 47).toInt := e21
        have e22 : (cf9 41).toInt = (cf_80 41).toInt := e22
        have e23 : (cf9 55).toInt = (cf_80 55).toInt := e23
        have e24 : (cf9 59).toInt = (cf_80 59).toInt := e24
        have e25 : (cf_80 33).toInt ≤ (cf9 33).toInt := e25
        have e26 : 6 * (cf9 33).toInt ≤ 6 * (cf_80 33).toInt + (wb) := e26
        have e27 : (cf_80 48).toInt ≤ (cf9 48).toInt := e27
        have e28 : 6 * (cf9 48).toInt ≤ 6 * (cf_80 48).toInt + (wb) := e28
        have e29 : (cf_80 54).toInt ≤ (cf9 54).toInt := e29
        have e30 : (cf_80 42).toInt ≤ (cf9 42).toInt := e30
        have e31 : (cf9 54).toInt - (cf_80 54).toInt ≤ 4 * ((cf9 42).toInt - (cf_80 42).toInt) := e31
        have e32 : (cf9 54).toInt - (cf_80 54).toInt ≤ 4096 * ((cf9 48).toInt - (cf_80 48).toInt) := e32
        have e33 : (cf9 42).toInt - (cf_80 42).toInt ≤ 4096 * ((cf9 48).toInt - (cf_80 48).toInt) := e33
        have e34 : KnT (tf 6).toInt ca10 (cf9 33).toInt := e34
        have hkt := e34
        have hk11_e34 := hkt.1
        have e35 : KnS ca10 (cf9 33).toInt (cf9 48).toInt ys := e35
        have hks := e35
        have e36 : CaG ca_80 ca10 (cf_80 33).toInt (cf_80 48).toInt := e36
        have hcg := hcg.tr e36 (by omega) (by omega)
        have hft := hft.cg e36
        have hfp := hfp.cg e36
        have e37 : SyR ca10 ys (cf9 48).toInt (cf9 54).toInt tx := e37
        have hsr := e37
        have e38 : Ann na ma0 ma8 := e38
        have han := e38
        have e39 : FrC ((ma0 18 nd.toNatClampNeg).toInt + 1) hi ma_80 ma8 := e39
        have hfc := hfc.tr e39 (by omega) (by omega)
        have hprs : PrS ca10 (cf9 48).toInt ys na ma8 lo mid_80 (na 17 nd.toNatClampNeg) x80_6 := PrS.tr hprs e39 (by omega) e36 (by omega) (by omega)
        have hzfu : ZFu cf9 ta na ca p0 := (fun q9 => hzfu (by omega))
        have e40 : ZTw cf9 ta ca10 na ma0 (cf9 48).toInt ys nf ma8 ((ma0 18 nd.toNatClampNeg).toInt + 1) hi z4 (tgv (cf_80 44).toInt (cf_80 45).toInt) := e40
        have hzw : ZTw cf9 ta ca10 na ma0 (cf9 48).toInt ys nf ma8 ((ma0 18 nd.toNatClampNeg).toInt + 1) hi z4 2 := ZTw.to e40 (fun q => by omega) (by omega) (Int.le_refl _) (Int.le_refl _) (tgv_0 (by omega) (by omega))
        have e41 : R_mp_statements (RL_mp_checkStatement d) tf ta na z4 ma_80 cf_80 ca_80 ma8 cf9 ca10 := e41
        refine lv_aload_n S.x S.b d_Mpg_checkFunction_247 rfl (lv_at hl 0 rfl) ?_
        refine lv_iconst (v := 0) S.x S.b d_Mpg_checkFunction_248 (by decide) ?_
        refine pP_59 S hT hw 0 rfl m10_56 rfl rfl rfl d_Mpg_checkFunction_249 (ps' := [wdP cs h r g tf ta pf na ma8 wa (upd cf9 59 0) ca10 ef ea xf xa]) rfl (fun H locs hw => ?_)
        refine lv_aload_n S.x S.b d_Mpg_checkFunction_252 rfl (lv_at hl 0 rfl) ?_
        refine gP_30 (v := (cf9 30)) S hT hw 0 rfl rfl m10_18 d_Mpg_checkFunction_253 ?_
        refine lv_if_ne (tgt := 274) S.x S.b d_Mpg_checkFunction_256 (by decide) (fun c42 => ?_) (fun c42 => ?_)
        · have nc42 : ¬ (cf9 30).toInt = (0 : Int) := mt (i_eq (x := (cf9 30)) (y := 0)).mpr c42
          refine lv_aload_n S.x S.b d_Mpg_checkFunction_274 rfl (lv_at hl 0 rfl) ?_
          refine gP_40 S hT hw 0 rfl m10_30 d_Mpg_checkFunction_275 ?_
          refine lv_iload_n S.x S.b d_Mpg_checkFunction_278 rfl (lv_at hl 1 rfl) ?_
          refine lv_aload_n S.x S.b d_Mpg_checkFunction_279 rfl (lv_at hl 0 rfl) ?_
          refine gP_42 (v := (cf9 42)) S hT hw 0 rfl rfl m10_33 d_Mpg_checkFunction_280 ?_
          refine lv_aload_n S.x S.b d_Mpg_checkFunction_283 rfl (lv_at hl 0 rfl) ?_
          refine gP_59 (v := 0) S hT hw 0 rfl rfl m10_56 d_Mpg_checkFunction_284 ?_
          refine lv_iadd S.x S.b d_Mpg_checkFunction_287 ?_
          have lr44 := Int32.le_toInt (cf9 42)
          have ur44 := Int32.toInt_lt (cf9 42)
          refine lv_topi (fun z45 ez45 => ?_)
          have tz45 : z45.toInt = ((cf9 42).toInt + (0 : Int) + 2147483648) % 4294967296 - 2147483648 := by rw [ez45]; exact i_add (cf9 42) 0
          have lz45 := Int32.le_toInt z45
          have uz45 := Int32.toInt_lt z45
          try replace tz45 : z45.toInt = (cf9 42).toInt + (0 : Int) := by omega
          refine px_iast S hT hw 0 27 (n := 260) (f := (ca10 40)) (x := p0) (y := z45) rfl gp_40 (vp_in_iff.mpr (by constructor <;> omega)) d_Mpg_checkFunction_288 (w' := wdP cs h r g tf ta pf na ma8 wa (upd cf9 59 0) (va_up ca10 40 (upd (ca10 40) p0.toNatClampNeg z45)) ef ea xf xa) (ps' := [wdP cs h r g tf ta pf na ma8 wa (upd cf9 59 0) (va_up ca10 40 (upd (ca10 40) p0.toNatClampNeg z45)) ef ea xf xa]) sp_40 rfl (fun H locs hw => ?_)
          obtain ⟨ca46, hu_ca46⟩ : ∃ y : Nat → Nat → Int32, y = va_up ca10 40 (upd (ca10 40) p0.toNatClampNeg z45) := ⟨_, rfl⟩
          have hw : pw D A s.heap _ _ [wdP cs h r g tf ta pf na ma8 wa (upd cf9 59 0) ca46 ef ea xf xa] := (by rw [hu_ca46]; exact hw)
          refine lv_aload_n S.x S.b d_Mpg_checkFunction_289 rfl (lv_at hl 0 rfl) ?_
          refine gP_56 S hT hw 0 rfl m10_52 d_Mpg_checkFunction_290 ?_
          refine lv_iload_n S.x S.b d_Mpg_checkFunction_293 rfl (lv_at hl 1 rfl) ?_
          refine lv_aload_n S.x S.b d_Mpg_checkFunction_294 rfl (lv_at hl 0 rfl) ?_
          refine gP_54 (v := (cf9 54)) S hT hw 0 rfl rfl m10_49 d_Mpg_checkFunction_295 ?_
          refine px_iast S hT hw 0 33 (n := 260) (f := (ca46 56)) (x := p0) (y := (cf9 54)) rfl gp_56 (vp_in_iff.mpr (by constructor <;> omega)) d_Mpg_checkFunction_298 (w' := wdP cs h r g tf ta pf na ma8 wa (upd cf9 59 0) (va_up ca46 56 (upd (ca46 56) p0.toNatClampNeg (cf9 54))) ef ea xf xa) (ps' := [wdP cs h r g tf ta pf na ma8 wa (upd cf9 59 0) (va_up ca46 56 (upd (ca46 56) p0.toNatClampNeg (cf9 54))) ef ea xf xa]) sp_56 rfl (fun H locs hw => ?_)
          obtain ⟨ca47, hu_ca47⟩ : ∃ y : Nat → Nat → Int32, y = va_up ca46 56 (upd (ca46 56) p0.toNatClampNeg (cf9 54)) := ⟨_, rfl⟩
          have hw : pw D A s.heap _ _ [wdP cs h r g tf ta pf na ma8 wa (upd cf9 59 0) ca47 ef ea xf xa] := (by rw [hu_ca47]; exact hw)
          refine lv_aload_n S.x S.b d_Mpg_checkFunction_299 rfl (lv_at hl 0 rfl) ?_
          refine lv_iconst (v := (-1)) S.x S.b d_Mpg_checkFunction_300 (by decide) ?_
          refine pP_43 S hT hw 0 rfl m10_34 rfl rfl rfl d_Mpg_checkFunction_301 (ps' := [wdP cs h r g tf ta pf na ma8 wa (upd (upd cf9 43 (-1)) 59 0) ca47 ef ea xf xa]) rfl (fun H locs hw => ?_)
          refine lv_aload_n S.x S.b d_Mpg_checkFunction_304 rfl (lv_at hl 0 rfl) ?_
          refine lv_iload S.x S.b d_Mpg_checkFunction_305 (lv_at hl 3 rfl) ?_
          refine lv_iload S.x S.b d_Mpg_checkFunction_307 (lv_at hl 4 rfl) ?_
          first | refine px_callv (pr := []) (px_runV (As := [.int x80_4, .int x80_5]) (rest := []) S (c_mp_leave l D cs h r g tf ta pf na ma8 wa ca47 ef ea xf xa (upd (upd cf9 43 (-1)) 59 0) x80_4 x80_5  htk _) hT (pr := []) (pcs := [wdP cs h r g tf ta pf na ma8 wa (upd (upd cf9 43 (-1)) 59 0) ca47 ef ea xf xa]) hw px_X.tt (px_recv hT hw 0 0 rfl rfl rfl) m12_209 m12_206 m12_208 ms_12_5 m1_21 q_Mpg_leave ⟨show 0 + 1 ≤ (6 * d + 30) from (oz_87ccaac56f), show 8 + (3 + 11) + 0 ≤ (260 * d + 1200) from (oz_afd8bf942c)⟩ hl.1 rfl (Nat.le_of_ble_eq_true rfl) d_Mpg_checkFunction_309 ⟨Nat.le_of_ble_eq_true rfl, Nat.le_of_ble_eq_true rfl⟩) hw hA (fun p50 H locs hp50 hw => ?_) | (refine px_callv (pr := []) (px_runV (As := [.int x80_4, .int x80_5]) (rest := []) S (c_mp_leave l D cs h r g tf ta pf na ma8 wa ca47 ef ea xf xa (upd (upd cf9 43 (-1)) 59 0) x80_4 x80_5  htk _) hT (pr := []) (pcs := [wdP cs h r g tf ta pf na ma8 wa (upd (upd cf9 43 (-1)) 59 0) ca47 ef ea xf xa]) hw px_X.tt (px_recv hT hw 0 0 rfl rfl rfl) m12_209 m12_206 m12_208 ms_12_5 m1_21 q_Mpg_leave ⟨show 0 + 1 ≤ (6 * d + 30) from (by first | exact oz_87ccaac56f | omega), show 8 + (3 + 11) + 0 ≤ (260 * d + 1200) from (by first | exact oz_afd8bf942c | omega)⟩ hl.1 rfl (Nat.le_of_ble_eq_true rfl) d_Mpg_checkFunction_309 ⟨Nat.le_of_ble_eq_true rfl, Nat.le_of_ble_eq_true rfl⟩) hw hA (fun p50 H locs hp50 hw => ?_))
          obtain ⟨cf49, rfl, e52, e53, e54, e55, e56, e57, e58, e59, e60, e61, e62, e63, e64, e65, e66, e67, e68, e69, e70⟩ := hp50
          have e52 : (cf49 33).toInt = x80_4.toInt := e52
          have e53 : (cf49 37).toInt = x80_5.toInt := e53
          have e54 : (cf49 30).toInt = (cf9 30).toInt := e54
          have e55 : (cf49 31).toInt = (cf9 31).toInt := e55
          have e56 : (cf49 38).toInt = (cf9 38).toInt := e56
          have e57 : (cf49 41).toInt = (cf9 41).toInt := e57
          have e58 : (cf49 42).toInt = (cf9 42).toInt := e58
          have e59 : (cf49 43).toInt = (-1 : Int) := e59
          have e60 : (cf49 44).toInt = (cf9 44).toInt := e60
          have e61 : (cf49 45).toInt = (cf9 45).toInt := e61
          have e62 : (cf49 46).toInt = (cf9 46).toInt := e62
          have e63 : (cf49 47).toInt = (cf9 47).toInt := e63
          have e64 : (cf49 48).toInt = (cf9 48).toInt := e64
          have e65 : (cf49 54).toInt = (cf9 54).toInt := e65
          have e66 : (cf49 55).toInt = (cf9 55).toInt := e66
          have e67 : (cf49 57).toInt = (cf9 57).toInt := e67
          have e68 : (cf49 58).toInt = (cf9 58).toInt := e68
          have e69 : (cf49 59).toInt = (0 : Int) := e69
          have e70 : R_mp_leave x80_4 x80_5 (upd (upd cf9 43 (-1)) 59 0) cf49 := e70
          have hwr : WrV cf49 (tf 6).toInt := WrV.eq hwr (by omega) (by omega)
          have hkt := KnT.eq (n' := (cf49 33).toInt) (KnT.cg hkt0 hcg (Int.le_refl _)) (by omega)
          have hks := KnS.eq (n' := (cf49 33).toInt) (KnS.cg hks0 hcg (Int.le_refl _) (Int.le_refl _) (n2 := (cf49 48).toInt) (by omega)) (by omega) rfl
          first | exact px_vret S hr hlk hAe hw (Nat.le_of_ble_eq_true rfl) (Nat.le_of_ble_eq_true rfl) (⟨ma8, cf49, ca47, rfl, (show (cf49 30).toInt = 0 → (cf 30).toInt = 0 from by omega), (show WrV cf49 (tf 6).toInt from hwr), (show (cf49 33).toInt = (cf 33).toInt from (oz_1687f4cc65 k80_20 e52)), (show (cf49 37).toInt = (cf 37).toInt from (oz_1687f4cc65 k80_21 e53)), (show (cf49 38).toInt = (cf 38).toInt from (oz_e13fc83238 k80_2 e56 e16)), (show (cf49 41).toInt = (cf 41).toInt from (oz_e13fc83238 k80_7 e57 e22)), (show (cf49 44).toInt = (cf 44).toInt from (oz_e13fc83238 k80_3 e60 e18)), (show (cf49 45).toInt = (cf 45).toInt from (oz_e13fc83238 k80_4 e61 e19)), (show (cf49 46).toInt = (cf 46).toInt from (oz_e13fc83238 k80_5 e62 e20)), (show (cf49 47).toInt = (cf 47).toInt from (oz_e13fc83238 k80_6 e63 e21)), (show (cf49 55).toInt = (cf 55).toInt from (oz_e13fc83238 k80_8 e66 e23)), (show (cf49 43).toInt = -1 from (oz_ae47b2e413 e59)), (show (cf 48).toInt ≤ (cf49 48).toInt from (oz_7d77f9acb2 k80_19 e64 k80_15 e30 e33)), (show 6 * (cf49 48).toInt ≤ 6 * (cf 48).toInt + w from by omega), (show KnT (tf 6).toInt ca47 (cf49 33).toInt from (KnT.eq (KnT.cf hkt0 (caf_w hcg hu_ca46 hu_ca47).1 (Int.le_refl _)) (by omega))), (show KnS ca47 (cf49 33).toInt (cf49 48).toInt 5000 from (KnS.eq (KnS.cf hks9 (caf_w hcg hu_ca46 hu_ca47).1 (Int.le_refl _) (Int.le_refl _) (n2 := (cf49 48).toInt) (by omega)) (by omega) rfl)), (show CaF ca ca47 (cf 33).toInt (cf 48).toInt p0.toNatClampNeg from (caf_w hcg hu_ca46 hu_ca47).1), (show Ann na ma0 ma8 from han), (show FrC lo hi ma ma8 from hfc), (show ZFn cf49 ta ca47 na ma0 ma8 nf (cf49 48).toInt lo hi d p0 from (zr_no (by omega))), (show ZFu cf49 ta na ca p0 from (fun zz => hzfu (by have q9 : (cf49 30).toInt = 0 := zz; omega))), (show Sy0 ca47 (cf 48).toInt (cf49 48).toInt from (sy0_mk hcg hu_ca46 hu_ca47 hsr htx0 (by omega) (by omega))), (show R_mp_checkFunction d tf ta na p0 ma cf ca ma8 cf49 ca47 from (k80_35 _ _ _ 1 (Or.inr (Or.inl ⟨rfl, x80_4, x80_5, x80_6, nd, rfl, rfl, rfl, rfl, rfl, Or.inl ⟨nc1, z3, ez3, z4, ez4, ma8, cf9, ca10, e41, Or.inl ⟨nc42, z45, ez45, ca46, hu_ca46, ca47, hu_ca47, cf49, e70, rfl, rfl, rfl⟩⟩⟩))))⟩) d_Mpg_checkFunction_312 | (exact px_vret S hr hlk hAe hw (Nat.le_of_ble_eq_true rfl) (Nat.le_of_ble_eq_true rfl) (⟨ma8, cf49, ca47, rfl, (show (cf49 30).toInt = 0 → (cf 30).toInt = 0 from by omega), (show WrV cf49 (tf 6).toInt from hwr), (show (cf49 33).toInt = (cf 33).toInt from by first | exact oz_1687f4cc65 k80_20 e52 | omega), (show (cf49 37).toInt = (cf 37).toInt from by first | exact oz_1687f4cc65 k80_21 e53 | omega), (show (cf49 38).toInt = (cf 38).toInt from by first | exact oz_e13fc83238 k80_2 e56 e16 | omega), (show (cf49 41).toInt = (cf 41).toInt from by first | exact oz_e13fc83238 k80_7 e57 e22 | omega), (show (cf49 44).toInt = (cf 44).toInt from by first | exact oz_e13fc83238 k80_3 e60 e18 | omega), (show (cf49 45).toInt = (cf 45).toInt from by first | exact oz_e13fc83238 k80_4 e61 e19 | omega), (show (cf49 46).toInt = (cf 46).toInt from by first | exact oz_e13fc83238 k80_5 e62 e20 | omega), (show (cf49 47).toInt = (cf 47).toInt from by first | exact oz_e13fc83238 k80_6 e63 e21 | omega), (show (cf49 55).toInt = (cf 55).toInt from by first | exact oz_e13fc83238 k80_8 e66 e23 | omega), (show (cf49 43).toInt = -1 from by first | exact oz_ae47b2e413 e59 | omega), (show (cf 48).toInt ≤ (cf49 48).toInt from by first | exact oz_7d77f9acb2 k80_19 e64 k80_15 e30 e33 | omega), (show 6 * (cf49 48).toInt ≤ 6 * (cf 48).toInt + w from by omega), (show KnT (tf 6).toInt ca47 (cf49 33).toInt from (KnT.eq (KnT.cf hkt0 (caf_w hcg hu_ca46 hu_ca47).1 (Int.le_refl _)) (by omega))), (show KnS ca47 (cf49 33).toInt (cf49 48).toInt 5000 from (KnS.eq (KnS.cf hks9 (caf_w hcg hu_ca46 hu_ca47).1 (Int.le_refl _) (Int.le_refl _) (n2 := (cf49 48).toInt) (by omega)) (by omega) rfl)), (show CaF ca ca47 (cf 33).toInt (cf 48).toInt p0.toNatClampNeg from (caf_w hcg hu_ca46 hu_ca47).1), (show Ann na ma0 ma8 from han), (show FrC lo hi ma ma8 from hfc), (show ZFn cf49 ta ca47 na ma0 ma8 nf (cf49 48).toInt lo hi d p0 from (zr_no (by omega))), (show ZFu cf49 ta na ca p0 from (fun zz => hzfu (by have q9 : (cf49 30).toInt = 0 := zz; omega))), (show Sy0 ca47 (cf 48).toInt (cf49 48).toInt from (sy0_mk hcg hu_ca46 hu_ca47 hsr htx0 (by omega) (by omega))), (show R_mp_checkFunction d tf ta na p0 ma cf ca ma8 cf49 ca47 from (k80_35 _ _ _ 1 (Or.inr (Or.inl ⟨rfl, x80_4, x80_5, x80_6, nd, rfl, rfl, rfl, rfl, rfl, Or.inl ⟨nc1, z3, ez3, z4, ez4, ma8, cf9, ca10, e41, Or.inl ⟨nc42, z45, ez45, ca46, hu_ca46, ca47, hu_ca47, cf49, e70, rfl, rfl, rfl⟩⟩⟩))))⟩) d_Mpg_checkFunction_312)
        · have nc42 : (cf9 30).toInt = (0 : Int) := (i_eq (x := (cf9 30)) (y := 0)).mp c42
          refine lv_aload_n S.x S.b d_Mpg_checkFunction_259 rfl (lv_at hl 0 rfl) ?_
          refine lv_aload_n S.x S.b d_Mpg_checkFunction_260 rfl (lv_at hl 0 rfl) ?_
          refine gP_17 S hT hw 0 rfl m10_1 d_Mpg_checkFunction_261 ?_
          refine lv_aload_n S.x S.b d_Mpg_checkFunction_264 rfl (lv_at hl 0 rfl) ?_
          refine gP_18 S hT hw 0 rfl m10_3 d_Mpg_checkFunction_265 ?_
          refine lv_iload_n S.x S.b d_Mpg_checkFunction_268 rfl (lv_at hl 2 rfl) ?_
          refine px_iald S hT hw 0 14 (n := 2100) (f := (ma8 18)) rfl gp_18 (x := nd) (vp_in_iff.mpr (by constructor <;> omega)) d_Mpg_checkFunction_269 ?_
          refine lv_topi (fun z71 ez71 => ?_)
          have lz71 := Int32.le_toInt z71
          have uz71 := Int32.toInt_lt z71
          have ha_z71 : z71 = ma0 18 nd.toNatClampNeg := ez71.trans (Ann.v18 han (by omega)); have hn_z71 : z71.toInt = (ma0 18 nd.toNatClampNeg).toInt := (by rw [ha_z71])
          refine px_iald S hT hw 0 13 (n := 2100) (f := (na 17)) rfl gp_17 (x := z71) (vp_in_iff.mpr (by constructor <;> omega)) d_Mpg_checkFunction_270 ?_
          refine lv_topi (fun z72 ez72 => ?_)
          have lz72 := Int32.le_toInt z72
          have uz72 := Int32.toInt_lt z72
          have rz72 : z72.toInt = (na 17 z71.toNatClampNeg).toInt := by rw [ez72]
          have ha_z72 : z72 = na 17 (ma0 18 nd.toNatClampNeg).toNatClampNeg := (by rw [ez72, ha_z71]); have hrs_z72 : RvS ta (tf 6).toInt na ma0 d ((ma0 18 nd.toNatClampNeg).toInt + 1) hi wb z72 := (by rw [ha_z72]; exact ScV.s20 hscb (by omega) rfl); have hz0 : z4 = z72 := ha_z4.trans ha_z72.symm; obtain ⟨k9, hk9, V9, m9, hts, hsg⟩ := hzw (by omega); have hrw_z72 : RwV0 na V9 2 z72 := (by rw [← hz0]; exact ⟨m9, SgV.row hsg hk9⟩)
          first | refine px_callv (pr := []) (px_runV (As := [.int z72]) (rest := []) S (c_mp_measure l D cs ma0 ys (cf9 48).toInt nf d ((ma0 18 nd.toNatClampNeg).toInt + 1) hi wb 2 V9 ((ma0 18 nd.toNatClampNeg).toInt + 1) hi h r g tf ta pf na ma8 wa ca10 ef ea xf xa (upd cf9 59 0) z72  (show 0 ≤ ((ma0 18 nd.toNatClampNeg).toInt + 1) from by omega) (show hi ≤ (pf 13).toInt from g1) (show (pf 13).toInt ≤ 2100 from g2) (show (tf 6).toInt ≤ 2049 from g3) (show (cf9 38).toInt = nf from (oz_e13fc83238 g9 e16 k80_2)) (show 0 ≤ nf from g10) (show 0 ≤ (0 : Int) from oz_5a341f00aa) (show (0 : Int) ≤ 4200 from oz_abc03e487a) (show ((ma0 18 nd.toNatClampNeg).toInt + 1) ≤ hi from by omega) (show 0 ≤ wb from (oz_0f098ad6c4 e28 e27)) (show 2 ≤ 2 from by omega) (show 2 ≤ 4 from by omega) htk (FnT.eq hft (show _ = (cf9 38).toInt by omega)) hfp han hts hrs_z72 hrw_z72 hLQ _) hT (pr := []) (pcs := [wdP cs h r g tf ta pf na ma8 wa (upd cf9 59 0) ca10 ef ea xf xa]) hw (oX_call (P := (fun A U H => (oP A g U H))) (pr := []) oG_P hw hA hP) (px_recv hT hw 0 0 rfl rfl rfl) m13_53 m13_50 m13_52 ms_13_10 m1_21 q_Mpg_measure ⟨show (5 * d + 15) + 1 ≤ (6 * d + 30) from (oz_cdfb500257), show 8 + (3 + 11) + (220 * d + 500) ≤ (260 * d + 1200) from (oz_c6d7f8e51f)⟩ hl.1 rfl (Nat.le_of_ble_eq_true rfl) d_Mpg_checkFunction_271 ⟨Nat.le_of_ble_eq_true rfl, Nat.le_of_ble_eq_true rfl⟩) hw hA (fun p75 H locs hp75 hw => ?_) | (refine px_callv (pr := []) (px_runV (As := [.int z72]) (rest := []) S (c_mp_measure l D cs ma0 ys (cf9 48).toInt nf d ((ma0 18 nd.toNatClampNeg).toInt + 1) hi wb 2 V9 ((ma0 18 nd.toNatClampNeg).toInt + 1) hi h r g tf ta pf na ma8 wa ca10 ef ea xf xa (upd cf9 59 0) z72  (show 0 ≤ ((ma0 18 nd.toNatClampNeg).toInt + 1) from by omega) (show hi ≤ (pf 13).toInt from by first | exact g1 | omega) (show (pf 13).toInt ≤ 2100 from by first | exact g2 | omega) (show (tf 6).toInt ≤ 2049 from by first | exact g3 | omega) (show (cf9 38).toInt = nf from by first | exact oz_e13fc83238 g9 e16 k80_2 | omega) (show 0 ≤ nf from by first | exact g10 | omega) (show 0 ≤ (0 : Int) from by first | exact oz_5a341f00aa | omega) (show (0 : Int) ≤ 4200 from by first | exact oz_abc03e487a | omega) (show ((ma0 18 nd.toNatClampNeg).toInt + 1) ≤ hi from by omega) (show 0 ≤ wb from by first | exact oz_0f098ad6c4 e28 e27 | omega) (show 2 ≤ 2 from by omega) (show 2 ≤ 4 from by omega) htk (FnT.eq hft (show _ = (cf9 38).toInt by omega)) hfp han hts hrs_z72 hrw_z72 hLQ _) hT (pr := []) (pcs := [wdP cs h r g tf ta pf na ma8 wa (upd cf9 59 0) ca10 ef ea xf xa]) hw (oX_call (P := (fun A U H => (oP A g U H))) (pr := []) oG_P hw hA hP) (px_recv hT hw 0 0 rfl rfl rfl) m13_53 m13_50 m13_52 ms_13_10 m1_21 q_Mpg_measure ⟨show (5 * d + 15) + 1 ≤ (6 * d + 30) from (by first | exact oz_cdfb500257 | omega), show 8 + (3 + 11) + (220 * d + 500) ≤ (260 * d + 1200) from (by first | exact oz_c6d7f8e51f | omega)⟩ hl.1 rfl (Nat.le_of_ble_eq_true rfl) d_Mpg_checkFunction_271 ⟨Nat.le_of_ble_eq_true rfl, Nat.le_of_ble_eq_true rfl⟩) hw hA (fun p75 H locs hp75 hw => ?_))
          obtain ⟨cf74, rfl, e77, e78, e79, e80, e81, e82⟩ := hp75
          have e77 : KpT (upd cf9 59 0) cf74 := e77
          have hkt30_e77 : (cf74 30).toInt = (cf9 30).toInt := (by rw [e77 30 (by decide)] <;> rfl)
          have hkt31_e77 : (cf74 31).toInt = (cf9 31).toInt := (by rw [e77 31 (by decide)] <;> rfl)
          have hkt33_e77 : (cf74 33).toInt = (cf9 33).toInt := (by rw [e77 33 (by decide)] <;> rfl)
          have hkt37_e77 : (cf74 37).toInt = (cf9 37).toInt := (by rw [e77 37 (by decide)] <;> rfl)
          have hkt38_e77 : (cf74 38).toInt = (cf9 38).toInt := (by rw [e77 38 (by decide)] <;> rfl)
          have hkt41_e77 : (cf74 41).toInt = (cf9 41).toInt := (by rw [e77 41 (by decide)] <;> rfl)
          have hkt42_e77 : (cf74 42).toInt = (cf9 42).toInt := (by rw [e77 42 (by decide)] <;> rfl)
          have hkt43_e77 : (cf74 43).toInt = (cf9 43).toInt := (by rw [e77 43 (by decide)] <;> rfl)
          have hkt44_e77 : (cf74 44).toInt = (cf9 44).toInt := (by rw [e77 44 (by decide)] <;> rfl)
          have hkt45_e77 : (cf74 45).toInt = (cf9 45).toInt := (by rw [e77 45 (by decide)] <;> rfl)
          have hkt46_e77 : (cf74 46).toInt = (cf9 46).toInt := (by rw [e77 46 (by decide)] <;> rfl)
          have hkt47_e77 : (cf74 47).toInt = (cf9 47).toInt := (by rw [e77 47 (by decide)] <;> rfl)
          have hkt48_e77 : (cf74 48).toInt = (cf9 48).toInt := (by rw [e77 48 (by decide)] <;> rfl)
          have hkt54_e77 : (cf74 54).toInt = (cf9 54).toInt := (by rw [e77 54 (by decide)] <;> rfl)
          have hkt55_e77 : (cf74 55).toInt = (cf9 55).toInt := (by rw [e77 55 (by decide)] <;> rfl)
          have hkt57_e77 : (cf74 57).toInt = (cf9 57).toInt := (by rw [e77 57 (by decide)] <;> rfl)
          have hkt58_e77 : (cf74 58).toInt = (cf9 58).toInt := (by rw [e77 58 (by decide)] <;> rfl)
          have hwr : WrV cf74 (tf 6).toInt := WrV.eq hwr (by omega) (by omega)
          have hzw : ZTw cf74 ta ca10 na ma0 (cf74 48).toInt ys nf ma8 ((ma0 18 nd.toNatClampNeg).toInt + 1) hi z4 2 := ZTw.to hzw (fun q => by omega) (by omega) (Int.le_refl _) (Int.le_refl _) rfl
          have hprs : PrS ca10 (cf74 48).toInt ys na ma8 lo mid_80 (na 17 nd.toNatClampNeg) x80_6 := PrS.tr hprs (FrC.rf (lo := 0) (hi := 0)) (by omega) (CaG.rf (kn := 0) (ns := 5000)) (by omega) (by omega)
          have hzfu : ZFu cf74 ta na ca p0 := (fun q9 => hzfu (by omega))
          have e78 : (0 : Int) ≤ (cf74 59).toInt := e78
          have e79 : (cf74 59).toInt ≤ 4200 := e79
          have e80 : (cf74 30).toInt = (cf9 30).toInt := e80
          have e81 : HsW na ma0 ma8 (tkl na ma0 ca10) d z72 (cf74 59).toInt := e81
          have e82 : R_mp_measure (RL_mp_measureOne d) na ma8 ca10 z72 (upd cf9 59 0) cf74 := e82
          refine lv_aload_n S.x S.b d_Mpg_checkFunction_274 rfl (lv_at hl 0 rfl) ?_
          refine gP_40 S hT hw 0 rfl m10_30 d_Mpg_checkFunction_275 ?_
          refine lv_iload_n S.x S.b d_Mpg_checkFunction_278 rfl (lv_at hl 1 rfl) ?_
          refine lv_aload_n S.x S.b d_Mpg_checkFunction_279 rfl (lv_at hl 0 rfl) ?_
          refine gP_42 (v := (cf74 42)) S hT hw 0 rfl rfl m10_33 d_Mpg_checkFunction_280 ?_
          refine lv_aload_n S.x S.b d_Mpg_checkFunction_283 rfl (lv_at hl 0 rfl) ?_
          refine gP_59 (v := (cf74 59)) S hT hw 0 rfl rfl m10_56 d_Mpg_checkFunction_284 ?_
          refine lv_iadd S.x S.b d_Mpg_checkFunction_287 ?_
          have lr83 := Int32.le_toInt (cf74 42)
          have ur83 := Int32.toInt_lt (cf74 42)
          have lr84 := Int32.le_toInt (cf74 59)
          have ur84 := Int32.toInt_lt (cf74 59)
          refine lv_topi (fun z85 ez85 => ?_)
          have tz85 : z85.toInt = ((cf74 42).toInt + (cf74 59).toInt + 2147483648) % 4294967296 - 2147483648 := by rw [ez85]; exact i_add (cf74 42) (cf74 59)
          have lz85 := Int32.le_toInt z85
          have uz85 := Int32.toInt_lt z85
          try replace tz85 : z85.toInt = (cf74 42).toInt + (cf74 59).toInt := by omega
          refine px_iast S hT hw 0 27 (n := 260) (f := (ca10 40)) (x := p0) (y := z85) rfl gp_40 (vp_in_iff.mpr (by constructor <;> omega)) d_Mpg_checkFunction_288 (w' := wdP cs h r g tf ta pf na ma8 wa cf74 (va_up ca10 40 (upd (ca10 40) p0.toNatClampNeg z85)) ef ea xf xa) (ps' := [wdP cs h r g tf ta pf na ma8 wa cf74 (va_up ca10 40 (upd (ca10 40) p0.toNatClampNeg z85)) ef ea xf xa]) sp_40 rfl (fun H locs hw => ?_)
          obtain ⟨ca86, hu_ca86⟩ : ∃ y : Nat → Nat → Int32, y = va_up ca10 40 (upd (ca10 40) p0.toNatClampNeg z85) := ⟨_, rfl⟩
          have hw : pw D A s.heap _ _ [wdP cs h r g tf ta pf na ma8 wa cf74 ca86 ef ea xf xa] := (by rw [hu_ca86]; exact hw)
          refine lv_aload_n S.x S.b d_Mpg_checkFunction_289 rfl (lv_at hl 0 rfl) ?_
          refine gP_56 S hT hw 0 rfl m10_52 d_Mpg_checkFunction_290 ?_
          refine lv_iload_n S.x S.b d_Mpg_checkFunction_293 rfl (lv_at hl 1 rfl) ?_
          refine lv_aload_n S.x S.b d_Mpg_checkFunction_294 rfl (lv_at hl 0 rfl) ?_
          refine gP_54 (v := (cf74 54)) S hT hw 0 rfl rfl m10_49 d_Mpg_checkFunction_295 ?_
          refine px_iast S hT hw 0 33 (n := 260) (f := (ca86 56)) (x := p0) (y := (cf74 54)) rfl gp_56 (vp_in_iff.mpr (by constructor <;> omega)) d_Mpg_checkFunction_298 (w' := wdP cs h r g tf ta pf na ma8 wa cf74 (va_up ca86 56 (upd (ca86 56) p0.toNatClampNeg (cf74 54))) ef ea xf xa) (ps' := [wdP cs h r g tf ta pf na ma8 wa cf74 (va_up ca86 56 (upd (ca86 56) p0.toNatClampNeg (cf74 54))) ef ea xf xa]) sp_56 rfl (fun H locs hw => ?_)
          obtain ⟨ca87, hu_ca87⟩ : ∃ y : Nat → Nat → Int32, y = va_up ca86 56 (upd (ca86 56) p0.toNatClampNeg (cf74 54)) := ⟨_, rfl⟩
          have hw : pw D A s.heap _ _ [wdP cs h r g tf ta pf na ma8 wa cf74 ca87 ef ea xf xa] := (by rw [hu_ca87]; exact hw)
          refine lv_aload_n S.x S.b d_Mpg_checkFunction_299 rfl (lv_at hl 0 rfl) ?_
          refine lv_iconst (v := (-1)) S.x S.b d_Mpg_checkFunction_300 (by decide) ?_
          refine pP_43 S hT hw 0 rfl m10_34 rfl rfl rfl d_Mpg_checkFunction_301 (ps' := [wdP cs h r g tf ta pf na ma8 wa (upd cf74 43 (-1)) ca87 ef ea xf xa]) rfl (fun H locs hw => ?_)
          refine lv_aload_n S.x S.b d_Mpg_checkFunction_304 rfl (lv_at hl 0 rfl) ?_
          refine lv_iload S.x S.b d_Mpg_checkFunction_305 (lv_at hl 3 rfl) ?_
          refine lv_iload S.x S.b d_Mpg_checkFunction_307 (lv_at hl 4 rfl) ?_
          first | refine px_callv (pr := []) (px_runV (As := [.int x80_4, .int x80_5]) (rest := []) S (c_mp_leave l D cs h r g tf ta pf na ma8 wa ca87 ef ea xf xa (upd cf74 43 (-1)) x80_4 x80_5  htk _) hT (pr := []) (pcs := [wdP cs h r g tf ta pf na ma8 wa (upd cf74 43 (-1)) ca87 ef ea xf xa]) hw px_X.tt (px_recv hT hw 0 0 rfl rfl rfl) m12_209 m12_206 m12_208 ms_12_5 m1_21 q_Mpg_leave ⟨show 0 + 1 ≤ (6 * d + 30) from (oz_87ccaac56f), show 8 + (3 + 11) + 0 ≤ (260 * d + 1200) from (oz_afd8bf942c)⟩ hl.1 rfl (Nat.le_of_ble_eq_true rfl) d_Mpg_checkFunction_309 ⟨Nat.le_of_ble_eq_true rfl, Nat.le_of_ble_eq_true rfl⟩) hw hA (fun p90 H locs hp90 hw => ?_) | (refine px_callv (pr := []) (px_runV (As := [.int x80_4, .int x80_5]) (rest := []) S (c_mp_leave l D cs h r g tf ta pf na ma8 wa ca87 ef ea xf xa (upd cf74 43 (-1)) x80_4 x80_5  htk _) hT (pr := []) (pcs := [wdP cs h r g tf ta pf na ma8 wa (upd cf74 43 (-1)) ca87 ef ea xf xa]) hw px_X.tt (px_recv hT hw 0 0 rfl rfl rfl) m12_209 m12_206 m12_208 ms_12_5 m1_21 q_Mpg_leave ⟨show 0 + 1 ≤ (6 * d + 30) from (by first | exact oz_87ccaac56f | omega), show 8 + (3 + 11) + 0 ≤ (260 * d + 1200) from (by first | exact oz_afd8bf942c | omega)⟩ hl.1 rfl (Nat.le_of_ble_eq_true rfl) d_Mpg_checkFunction_309 ⟨Nat.le_of_ble_eq_true rfl, Nat.le_of_ble_eq_true rfl⟩) hw hA (fun p90 H locs hp90 hw => ?_))
          obtain ⟨cf89, rfl, e92, e93, e94, e95, e96, e97, e98, e99, e100, e101, e102, e103, e104, e105, e106, e107, e108, e109, e110⟩ := hp90
          have e92 : (cf89 33).toInt = x80_4.toInt := e92
          have e93 : (cf89 37).toInt = x80_5.toInt := e93
          have e94 : (cf89 30).toInt = (cf74 30).toInt := e94
          have e95 : (cf89 31).toInt = (cf74 31).toInt := e95
          have e96 : (cf89 38).toInt = (cf74 38).toInt := e96
          have e97 : (cf89 41).toInt = (cf74 41).toInt := e97
          have e98 : (cf89 42).toInt = (cf74 42).toInt := e98
          have e99 : (cf89 43).toInt = (-1 : Int) := e99
          have e100 : (cf89 44).toInt = (cf74 44).toInt := e100
          have e101 : (cf89 45).toInt = (cf74 45).toInt := e101
          have e102 : (cf89 46).toInt = (cf74 46).toInt := e102
          have e103 : (cf89 47).toInt = (cf74 47).toInt := e103
          have e104 : (cf89 48).toInt = (cf74 48).toInt := e104
          have e105 : (cf89 54).toInt = (cf74 54).toInt := e105
          have e106 : (cf89 55).toInt = (cf74 55).toInt := e106
          have e107 : (cf89 57).toInt = (cf74 57).toInt := e107
          have e108 : (cf89 58).toInt = (cf74 58).toInt := e108
          have e109 : (cf89 59).toInt = (cf74 59).toInt := e109
          have e110 : R_mp_leave x80_4 x80_5 (upd cf74 43 (-1)) cf89 := e110
          have hwr : WrV cf89 (tf 6).toInt := WrV.eq hwr (by omega) (by omega)
          have hkt := KnT.eq (n' := (cf89 33).toInt) (KnT.cg hkt0 hcg (Int.le_refl _)) (by omega)
          have hks := KnS.eq (n' := (cf89 33).toInt) (KnS.cg hks0 hcg (Int.le_refl _) (Int.le_refl _) (n2 := (cf89 48).toInt) (by omega)) (by omega) rfl
          first | exact px_vret S hr hlk hAe hw (Nat.le_of_ble_eq_true rfl) (Nat.le_of_ble_eq_true rfl) (⟨ma8, cf89, ca87, rfl, (show (cf89 30).toInt = 0 → (cf 30).toInt = 0 from by omega), (show WrV cf89 (tf 6).toInt from hwr), (show (cf89 33).toInt = (cf 33).toInt from (oz_1687f4cc65 k80_20 e92)), (show (cf89 37).toInt = (cf 37).toInt from (oz_1687f4cc65 k80_21 e93)), (show (cf89 38).toInt = (cf 38).toInt from (oz_ff3084e3c1 k80_2 e96 e16 hkt38_e77)), (show (cf89 41).toInt = (cf 41).toInt from (oz_ff3084e3c1 k80_7 e97 e22 hkt41_e77)), (show (cf89 44).toInt = (cf 44).toInt from (oz_ff3084e3c1 k80_3 e100 e18 hkt44_e77)), (show (cf89 45).toInt = (cf 45).toInt from (oz_ff3084e3c1 k80_4 e101 e19 hkt45_e77)), (show (cf89 46).toInt = (cf 46).toInt from (oz_ff3084e3c1 k80_5 e102 e20 hkt46_e77)), (show (cf89 47).toInt = (cf 47).toInt from (oz_ff3084e3c1 k80_6 e103 e21 hkt47_e77)), (show (cf89 55).toInt = (cf 55).toInt from (oz_ff3084e3c1 k80_8 e106 e23 hkt55_e77)), (show (cf89 43).toInt = -1 from (oz_ae47b2e413 e99)), (show (cf 48).toInt ≤ (cf89 48).toInt from (oz_569dc2842b k80_19 e104 k80_15 e30 e33 hkt48_e77)), (show 6 * (cf89 48).toInt ≤ 6 * (cf 48).toInt + w from by omega), (show KnT (tf 6).toInt ca87 (cf89 33).toInt from (KnT.eq (KnT.cf hkt0 (caf_w hcg hu_ca86 hu_ca87).1 (Int.le_refl _)) (by omega))), (show KnS ca87 (cf89 33).toInt (cf89 48).toInt 5000 from (KnS.eq (KnS.cf hks9 (caf_w hcg hu_ca86 hu_ca87).1 (Int.le_refl _) (Int.le_refl _) (n2 := (cf89 48).toInt) (by omega)) (by omega) rfl)), (show CaF ca ca87 (cf 33).toInt (cf 48).toInt p0.toNatClampNeg from (caf_w hcg hu_ca86 hu_ca87).1), (show Ann na ma0 ma8 from han), (show FrC lo hi ma ma8 from hfc), (show ZFn cf89 ta ca87 na ma0 ma8 nf (cf89 48).toInt lo hi d p0 from (fun zz => fn_mk (kk := k9) (m1 := m1) hcg hu_ca86 hu_ca87 e_nd ha_z4 (SyR.eq hsr rfl rfl) htx0 (by omega) (show z85.toInt = (cf74 42).toInt + (cf74 59).toInt by omega) (by omega) (by omega) (by omega) (by omega) (by omega) (by omega) (PrS.to hprs (by omega) (Int.le_refl _) (by omega)) (by omega) ((TyR.g (TyR.le (show TyR (Gk ta _ na ma0 _ ys nf) na _ _ _ _ k9 2 from ⟨V9, m9, hts, hsg⟩) (by omega) (by omega)) (gml_ns (by omega)))) hk9 (by rw [hz0]; exact e81))), (show ZFu cf89 ta na ca p0 from (fun zz => hzfu (by have q9 : (cf89 30).toInt = 0 := zz; omega))), (show Sy0 ca87 (cf 48).toInt (cf89 48).toInt from (sy0_mk hcg hu_ca86 hu_ca87 hsr htx0 (by omega) (by omega))), (show R_mp_checkFunction d tf ta na p0 ma cf ca ma8 cf89 ca87 from (k80_35 _ _ _ 1 (Or.inr (Or.inl ⟨rfl, x80_4, x80_5, x80_6, nd, rfl, rfl, rfl, rfl, rfl, Or.inl ⟨nc1, z3, ez3, z4, ez4, ma8, cf9, ca10, e41, Or.inr ⟨nc42, z71, ez71, z72, ez72, cf74, e82, z85, ez85, ca86, hu_ca86, ca87, hu_ca87, cf89, e110, rfl, rfl, rfl⟩⟩⟩))))⟩) d_Mpg_checkFunction_312 | (exact px_vret S hr hlk hAe hw (Nat.le_of_ble_eq_true rfl) (Nat.le_of_ble_eq_true rfl) (⟨ma8, cf89, ca87, rfl, (show (cf89 30).toInt = 0 → (cf 30).toInt = 0 from by omega), (show WrV cf89 (tf 6).toInt from hwr), (show (cf89 33).toInt = (cf 33).toInt from by first | exact oz_1687f4cc65 k80_20 e92 | omega), (show (cf89 37).toInt = (cf 37).toInt from by first | exact oz_1687f4cc65 k80_21 e93 | omega), (show (cf89 38).toInt = (cf 38).toInt from by first | exact oz_ff3084e3c1 k80_2 e96 e16 hkt38_e77 | omega), (show (cf89 41).toInt = (cf 41).toInt from by first | exact oz_ff3084e3c1 k80_7 e97 e22 hkt41_e77 | omega), (show (cf89 44).toInt = (cf 44).toInt from by first | exact oz_ff3084e3c1 k80_3 e100 e18 hkt44_e77 | omega), (show (cf89 45).toInt = (cf 45).toInt from by first | exact oz_ff3084e3c1 k80_4 e101 e19 hkt45_e77 | omega), (show (cf89 46).toInt = (cf 46).toInt from by first | exact oz_ff3084e3c1 k80_5 e102 e20 hkt46_e77 | omega), (show (cf89 47).toInt = (cf 47).toInt from by first | exact oz_ff3084e3c1 k80_6 e103 e21 hkt47_e77 | omega), (show (cf89 55).toInt = (cf 55).toInt from by first | exact oz_ff3084e3c1 k80_8 e106 e23 hkt55_e77 | omega), (show (cf89 43).toInt = -1 from by first | exact oz_ae47b2e413 e99 | omega), (show (cf 48).toInt ≤ (cf89 48).toInt from by first | exact oz_569dc2842b k80_19 e104 k80_15 e30 e33 hkt48_e77 | omega), (show 6 * (cf89 48).toInt ≤ 6 * (cf 48).toInt + w from by omega), (show KnT (tf 6).toInt ca87 (cf89 33).toInt from (KnT.eq (KnT.cf hkt0 (caf_w hcg hu_ca86 hu_ca87).1 (Int.le_refl _)) (by omega))), (show KnS ca87 (cf89 33).toInt (cf89 48).toInt 5000 from (KnS.eq (KnS.cf hks9 (caf_w hcg hu_ca86 hu_ca87).1 (Int.le_refl _) (Int.le_refl _) (n2 := (cf89 48).toInt) (by omega)) (by omega) rfl)), (show CaF ca ca87 (cf 33).toInt (cf 48).toInt p0.toNatClampNeg from (caf_w hcg hu_ca86 hu_ca87).1), (show Ann na ma0 ma8 from han), (show FrC lo hi ma ma8 from hfc), (show ZFn cf89 ta ca87 na ma0 ma8 nf (cf89 48).toInt lo hi d p0 from (fun zz => fn_mk (kk := k9) (m1 := m1) hcg hu_ca86 hu_ca87 e_nd ha_z4 (SyR.eq hsr rfl rfl) htx0 (by omega) (show z85.toInt = (cf74 42).toInt + (cf74 59).toInt by omega) (by omega) (by omega) (by omega) (by omega) (by omega) (by omega) (PrS.to hprs (by omega) (Int.le_refl _) (by omega)) (by omega) ((TyR.g (TyR.le (show TyR (Gk ta _ na ma0 _ ys nf) na _ _ _ _ k9 2 from ⟨V9, m9, hts, hsg⟩) (by omega) (by omega)) (gml_ns (by omega)))) hk9 (by rw [hz0]; exact e81))), (show ZFu cf89 ta na ca p0 from (fun zz => hzfu (by have q9 : (cf89 30).toInt = 0 := zz; omega))), (show Sy0 ca87 (cf 48).toInt (cf89 48).toInt from (sy0_mk hcg hu_ca86 hu_ca87 hsr htx0 (by omega) (by omega))), (show R_mp_checkFunction d tf ta na p0 ma cf ca ma8 cf89 ca87 from (k80_35 _ _ _ 1 (Or.inr (Or.inl ⟨rfl, x80_4, x80_5, x80_6, nd, rfl, rfl, rfl, rfl, rfl, Or.inl ⟨nc1, z3, ez3, z4, ez4, ma8, cf9, ca10, e41, Or.inr ⟨nc42, z71, ez71, z72, ez72, cf74, e82, z85, ez85, ca86, hu_ca86, ca87, hu_ca87, cf89, e110, rfl, rfl, rfl⟩⟩⟩))))⟩) d_Mpg_checkFunction_312)
      · have nc1 : ¬ x80_6.toInt < (0 : Int) := mt (i_lt (x := x80_6) (y := 0)).mpr c1
        refine lv_aload_n S.x S.b d_Mpg_checkFunction_85 rfl (lv_at hl 0 rfl) ?_
        obtain ⟨md111, wv112, hm1_md111, hm2_md111, hm3_md111, hpa_x80_6, hx3_md111, hrp2⟩ := RvE.step hrp (by omega); have hwp2 := RvE.wp hrp2; have hpk_md111 := hpa_x80_6.2.1; have hpo_md111 := hpa_x80_6.2.2.2
        refine lv_aload_n S.x S.b d_Mpg_checkFunction_86 rfl (lv_at hl 0 rfl) ?_
        refine gP_15 S hT hw 0 rfl m9_239 d_Mpg_checkFunction_87 ?_
        refine lv_iload S.x S.b d_Mpg_checkFunction_90 (lv_at hl 5 rfl) ?_
        refine px_iald S hT hw 0 11 (n := 2100) (f := (na 15)) rfl gp_15 (x := x80_6) (vp_in_iff.mpr (by constructor <;> omega)) d_Mpg_checkFunction_92 ?_
        refine lv_topi (fun z113 ez113 => ?_)
        have lz113 := Int32.le_toInt z113
        have uz113 := Int32.toInt_lt z113
        have rz113 := PaV.tok hpa_x80_6 ez113
        first | refine px_callv (pr := []) (px_runV (As := [.int z113]) (rest := []) S (c_mp_checkNew l D cs h r g tf ta pf na ma_80 wa ca_80 ef ea xf xa cf_80 z113  (show 0 ≤ z113.toInt from rz113.1) (show z113.toInt < (tf 6).toInt from by omega) (show (tf 6).toInt ≤ 2049 from g3) (show 0 ≤ (cf_80 33).toInt from (oz_16d7fa9f32 k80_11 g4)) (show 0 ≤ (cf_80 37).toInt from (oz_f3ebed1ad0 k80_9 g4)) (show 0 ≤ (cf_80 38).toInt from (oz_e7154091a6 k80_2 g9 g19 g18)) htk hwr (KnT.eq hkt (by omega)) (FnT.eq hft (by omega)) _) hT (pr := []) (pcs := [wdP cs h r g tf ta pf na ma_80 wa cf_80 ca_80 ef ea xf xa]) hw (oX_call (P := (fun A U H => (oP A g U H))) (pr := []) oG_P hw hA hP) (px_recv hT hw 0 0 rfl rfl rfl) m12_177 m12_174 m12_176 ms_11_13 m1_21 q_Mpg_checkNew ⟨show 8 + 1 ≤ (6 * d + 30) from (oz_22cd23fbfb), show 8 + (3 + 11) + 330 ≤ (260 * d + 1200) from (oz_bfdd52d0e9)⟩ hl.1 rfl (Nat.le_of_ble_eq_true rfl) d_Mpg_checkFunction_93 ⟨Nat.le_of_ble_eq_true rfl, Nat.le_of_ble_eq_true rfl⟩) hw hA (fun p116 H locs hp116 hw => ?_) | (refine px_callv (pr := []) (px_runV (As := [.int z113]) (rest := []) S (c_mp_checkNew l D cs h r g tf ta pf na ma_80 wa ca_80 ef ea xf xa cf_80 z113  (show 0 ≤ z113.toInt from by first | exact rz113.1 | omega) (show z113.toInt < (tf 6).toInt from by omega) (show (tf 6).toInt ≤ 2049 from by first | exact g3 | omega) (show 0 ≤ (cf_80 33).toInt from by first | exact oz_16d7fa9f32 k80_11 g4 | omega) (show 0 ≤ (cf_80 37).toInt from by first | exact oz_f3ebed1ad0 k80_9 g4 | omega) (show 0 ≤ (cf_80 38).toInt from by first | exact oz_e7154091a6 k80_2 g9 g19 g18 | omega) htk hwr (KnT.eq hkt (by omega)) (FnT.eq hft (by omega)) _) hT (pr := []) (pcs := [wdP cs h r g tf ta pf na ma_80 wa cf_80 ca_80 ef ea xf xa]) hw (oX_call (P := (fun A U H => (oP A g U H))) (pr := []) oG_P hw hA hP) (px_recv hT hw 0 0 rfl rfl rfl) m12_177 m12_174 m12_176 ms_11_13 m1_21 q_Mpg_checkNew ⟨show 8 + 1 ≤ (6 * d + 30) from (by first | exact oz_22cd23fbfb | omega), show 8 + (3 + 11) + 330 ≤ (260 * d + 1200) from (by first | exact oz_bfdd52d0e9 | omega)⟩ hl.1 rfl (Nat.le_of_ble_eq_true rfl) d_Mpg_checkFunction_93 ⟨Nat.le_of_ble_eq_true rfl, Nat.le_of_ble_eq_true rfl⟩) hw hA (fun p116 H locs hp116 hw => ?_))
        obtain ⟨cf115, rfl, e118, e119, e120, e121, e122, e123, e124, e125, e126, e127, e128, e129, e130, e131, e132, e133, e134, e135, e136⟩ := hp116
        have e118 : KpE cf_80 cf115 := e118
        have hkz_e118 := e118.2
        have e119 : WrV cf115 (tf 6).toInt := e119
        have hwr := e119
        have hw0_e119 := hwr.1
        have e120 : (cf115 33).toInt = (cf_80 33).toInt := e120
        have e121 : (cf115 38).toInt = (cf_80 38).toInt := e121
        have e122 : (cf115 48).toInt = (cf_80 48).toInt := e122
        have e123 : (cf115 46).toInt = (cf_80 46).toInt := e123
        have e124 : (cf115 47).toInt = (cf_80 47).toInt := e124
        have e125 : (cf115 57).toInt = (cf_80 57).toInt := e125
        have e126 : (cf115 37).toInt = (cf_80 37).toInt := e126
        have e127 : (cf115 42).toInt = (cf_80 42).toInt := e127
        have e128 : (cf115 43).toInt = (cf_80 43).toInt := e128
        have e129 : (cf115 44).toInt = (cf_80 44).toInt := e129
        have e130 : (cf115 45).toInt = (cf_80 45).toInt := e130
        have e131 : (cf115 54).toInt = (cf_80 54).toInt := e131
        have e132 : (cf115 55).toInt = (cf_80 55).toInt := e132
        have e133 : (cf115 58).toInt = (cf_80 58).toInt := e133
        have e134 : (cf115 59).toInt = (cf_80 59).toInt := e134
        have e135 : (cf115 41).toInt = (cf_80 41).toInt := e135
        have e136 : R_mp_checkNew tf ta na ca_80 z113 cf_80 cf115 := e136
        have hprs : PrS ca_80 (cf115 48).toInt ys na ma_80 lo mid_80 (na 17 nd.toNatClampNeg) x80_6 := PrS.tr hprs (FrC.rf (lo := 0) (hi := 0)) (by omega) (CaG.rf (kn := 0) (ns := 5000)) (by omega) (by omega)
        have hzfu : ZFu cf115 ta na ca p0 := (fun q9 => hzfu (by omega))
        refine lv_aload_n S.x S.b d_Mpg_checkFunction_96 rfl (lv_at hl 0 rfl) ?_
        refine gP_17 S hT hw 0 rfl m10_1 d_Mpg_checkFunction_97 ?_
        refine lv_iload S.x S.b d_Mpg_checkFunction_100 (lv_at hl 5 rfl) ?_
        refine px_iald S hT hw 0 13 (n := 2100) (f := (na 17)) rfl gp_17 (x := x80_6) (vp_in_iff.mpr (by constructor <;> omega)) d_Mpg_checkFunction_102 ?_
        refine lv_topi (fun z137 ez137 => ?_)
        have lz137 := Int32.le_toInt z137
        have uz137 := Int32.toInt_lt z137
        have rz137 : z137.toInt = (na 17 x80_6.toNatClampNeg).toInt := by rw [ez137]
        refine lv_if_lt (tgt := 110) S.x S.b d_Mpg_checkFunction_103 (by decide) (fun c138 => ?_) (fun c138 => ?_)
        · have nc138 : z137.toInt < (0 : Int) := (i_lt (x := z137) (y := 0)).mp c138
          refine lv_iconst (v := 0) S.x S.b d_Mpg_checkFunction_110 (by decide) ?_
          refine lv_istore (lv' := [(7, .int 0), (0, .ref h), (1, .int p0), (2, .int nd), (4, .int x80_4), (5, .int x80_5), (6, .int x80_6)]) S.x S.b d_Mpg_checkFunction_111 hl (by decide) rfl (fun ls hl => ?_)
          refine lv_aload_n S.x S.b d_Mpg_checkFunction_113 rfl (lv_at hl 1 rfl) ?_
          refine lv_aload_n S.x S.b d_Mpg_checkFunction_114 rfl (lv_at hl 1 rfl) ?_
          refine gP_42 (v := (cf115 42)) S hT hw 0 rfl rfl m10_33 d_Mpg_checkFunction_115 ?_
          refine lv_iload S.x S.b d_Mpg_checkFunction_118 (lv_at hl 0 rfl) ?_
          refine lv_if_eq (tgt := 127) S.x S.b d_Mpg_checkFunction_120 (by decide) (fun c140 => ?_) (fun c140 => ?_)
          ·
            refine lv_iconst (v := 1) S.x S.b d_Mpg_checkFunction_127 (by decide) ?_
            refine lv_iadd S.x S.b d_Mpg_checkFunction_128 ?_
            have lr141 := Int32.le_toInt (cf115 42)
            have ur141 := Int32.toInt_lt (cf115 42)
            refine lv_topi (fun z142 ez142 => ?_)
            have tz142 : z142.toInt = ((cf115 42).toInt + (1 : Int) + 2147483648) % 4294967296 - 2147483648 := by rw [ez142]; exact i_add (cf115 42) 1
            have lz142 := Int32.le_toInt z142
            have uz142 := Int32.toInt_lt z142
            try replace tz142 : z142.toInt = (cf115 42).toInt + (1 : Int) := by omega
            refine pP_42 S hT hw 0 rfl m10_33 rfl rfl rfl d_Mpg_checkFunction_129 (ps' := [wdP cs h r g tf ta pf na ma_80 wa (upd cf115 42 z142) ca_80 ef ea xf xa]) rfl (fun H locs hw => ?_)
            refine lv_aload_n S.x S.b d_Mpg_checkFunction_132 rfl (lv_at hl 1 rfl) ?_
            refine gP_22 S hT hw 0 rfl m10_9 d_Mpg_checkFunction_133 ?_
            refine lv_iload S.x S.b d_Mpg_checkFunction_136 (lv_at hl 6 rfl) ?_
            refine px_iald S hT hw 0 18 (n := 2100) (f := (ma_80 22)) rfl gp_22 (x := x80_6) (vp_in_iff.mpr (by constructor <;> omega)) d_Mpg_checkFunction_138 ?_
            refine lv_topi (fun z143 ez143 => ?_)
            have lz143 := Int32.le_toInt z143
            have uz143 := Int32.toInt_lt z143
            have rz143 : z143.toInt = (ma0 22 x80_6.toNatClampNeg).toInt := (by rw [ez143, Ann.v22 han (by omega)])
            refine lv_iconst (v := 1) S.x S.b d_Mpg_checkFunction_139 (by decide) ?_
            refine lv_icmp_ne (tgt := 147) S.x S.b d_Mpg_checkFunction_140 (by decide) (fun c144 => ?_) (fun c144 => ?_)
            · have nc144 : ¬ z143.toInt = (1 : Int) := mt (i_eq (x := z143) (y := 1)).mpr c144
              refine lv_iconst (v := 0) S.x S.b d_Mpg_checkFunction_147 (by decide) ?_
              refine lv_istore (lv' := [(8, .int 0), (7, .int 0), (0, .ref h), (1, .int p0), (2, .int nd), (4, .int x80_4), (5, .int x80_5), (6, .int x80_6)]) S.x S.b d_Mpg_checkFunction_148 hl (by decide) rfl (fun ls hl => ?_)
              refine lv_aload_n S.x S.b d_Mpg_checkFunction_150 rfl (lv_at hl 2 rfl) ?_
              refine gP_18 S hT hw 0 rfl m10_3 d_Mpg_checkFunction_151 ?_
              refine lv_iload S.x S.b d_Mpg_checkFunction_154 (lv_at hl 7 rfl) ?_
              refine lv_aload_n S.x S.b d_Mpg_checkFunction_156 rfl (lv_at hl 2 rfl) ?_
              refine lv_iload S.x S.b d_Mpg_checkFunction_157 (lv_at hl 1 rfl) ?_
              refine lv_if_eq (tgt := 169) S.x S.b d_Mpg_checkFunction_159 (by decide) (fun c146 => ?_) (fun c146 => ?_)
              ·
                refine lv_iload S.x S.b d_Mpg_checkFunction_169 (lv_at hl 0 rfl) ?_
                refine lv_iconst (v := 1) S.x S.b d_Mpg_checkFunction_171 (by decide) ?_
                first | refine px_calli (pr := []) (px_runV (As := [.int 0, .int 1]) (rest := [.int x80_6, .ref (r 18)]) S (c_mp_lay l D cs h r g tf ta pf na ma_80 wa ef ea xf xa (upd cf115 42 z142) ca_80 0 1  (show 0 ≤ (cf115 48).toInt from (oz_c0af2c5e34 e122 k80_19 g7 k80_15)) (show (cf115 48).toInt < 1100 from by omega) (show 0 ≤ (0 : Int) from oz_5a341f00aa) (show (0 : Int) ≤ 5 from oz_01b865b26c) (show 0 ≤ (1 : Int) from oz_19c3a41681) (show (1 : Int) ≤ 4096 from oz_79b5d9fede) (show 0 ≤ (cf115 54).toInt from (oz_f3ebed1ad0 e131 k80_16)) (show (cf115 54).toInt ≤ 40000000 from by omega) htk _) hT (pr := []) (pcs := [wdP cs h r g tf ta pf na ma_80 wa (upd cf115 42 z142) ca_80 ef ea xf xa]) hw px_X.tt (px_recv hT hw 0 0 rfl rfl rfl) m12_189 m12_186 m12_188 ms_12_0 m1_21 q_Mpg_lay ⟨show 0 + 1 ≤ (6 * d + 30) from (oz_87ccaac56f), show 8 + (3 + 11) + 0 ≤ (260 * d + 1200) from (oz_afd8bf942c)⟩ hl.1 rfl (Nat.le_of_ble_eq_true rfl) d_Mpg_checkFunction_172 ⟨Nat.le_of_ble_eq_true rfl, Nat.le_of_ble_eq_true rfl⟩) hw hA (fun v152 p151 H locs hp151 hw => ?_) | (refine px_calli (pr := []) (px_runV (As := [.int 0, .int 1]) (rest := [.int x80_6, .ref (r 18)]) S (c_mp_lay l D cs h r g tf ta pf na ma_80 wa ef ea xf xa (upd cf115 42 z142) ca_80 0 1  (show 0 ≤ (cf115 48).toInt from by first | exact oz_c0af2c5e34 e122 k80_19 g7 k80_15 | omega) (show (cf115 48).toInt < 1100 from by omega) (show 0 ≤ (0 : Int) from by first | exact oz_5a341f00aa | omega) (show (0 : Int) ≤ 5 from by first | exact oz_01b865b26c | omega) (show 0 ≤ (1 : Int) from by first | exact oz_19c3a41681 | omega) (show (1 : Int) ≤ 4096 from by first | exact oz_79b5d9fede | omega) (show 0 ≤ (cf115 54).toInt from by first | exact oz_f3ebed1ad0 e131 k80_16 | omega) (show (cf115 54).toInt ≤ 40000000 from by omega) htk _) hT (pr := []) (pcs := [wdP cs h r g tf ta pf na ma_80 wa (upd cf115 42 z142) ca_80 ef ea xf xa]) hw px_X.tt (px_recv hT hw 0 0 rfl rfl rfl) m12_189 m12_186 m12_188 ms_12_0 m1_21 q_Mpg_lay ⟨show 0 + 1 ≤ (6 * d + 30) from (by first | exact oz_87ccaac56f | omega), show 8 + (3 + 11) + 0 ≤ (260 * d + 1200) from (by first | exact oz_afd8bf942c | omega)⟩ hl.1 rfl (Nat.le_of_ble_eq_true rfl) d_Mpg_checkFunction_172 ⟨Nat.le_of_ble_eq_true rfl, Nat.le_of_ble_eq_true rfl⟩) hw hA (fun v152 p151 H locs hp151 hw => ?_))
                obtain ⟨cf149, ca150, rfl, e153, e154, e155, e156, e157, e158, e159, e160, e161, e162, e163, e164, e165, e166, e167, e168, e169, e170, e171, e172, e173, e174, e175, e176⟩ := hp151
                have e153 : v152.toInt = (cf115 48).toInt := e153
                have e154 : (cf149 48).toInt = (cf115 48).toInt + 1 := e154
                have e155 : (cf115 54).toInt ≤ (cf149 54).toInt := e155
                have e156 : (cf149 54).toInt ≤ (cf115 54).toInt + 4096 := e156
                have e157 : (0 : Int) ≤ 3 → (cf149 54).toInt = (cf115 54).toInt + (1 : Int) := e157
                have e158 : 4 ≤ (0 : Int) → (cf149 54).toInt = (cf115 54).toInt + 2 := e158
                have e159 : (cf149 30).toInt = (cf115 30).toInt := e159
                have e160 : (cf149 31).toInt = (cf115 31).toInt := e160
                have e161 : (cf149 33).toInt = (cf115 33).toInt := e161
                have e162 : (cf149 37).toInt = (cf115 37).toInt := e162
                have e163 : (cf149 38).toInt = (cf115 38).toInt := e163
                have e164 : (cf149 41).toInt = (cf115 41).toInt := e164
                have e165 : (cf149 42).toInt = z142.toInt := e165
                have e166 : (cf149 43).toInt = (cf115 43).toInt := e166
                have e167 : (cf149 44).toInt = (cf115 44).toInt := e167
                have e168 : (cf149 45).toInt = (cf115 45).toInt := e168
                have e169 : (cf149 46).toInt = (cf115 46).toInt := e169
                have e170 : (cf149 47).toInt = (cf115 47).toInt := e170
                have e171 : (cf149 55).toInt = (cf115 55).toInt := e171
                have e172 : (cf149 57).toInt = (cf115 57).toInt := e172
                have e173 : (cf149 58).toInt = (cf115 58).toInt := e173
                have e174 : (cf149 59).toInt = (cf115 59).toInt := e174
                have e175 : LyU ca_80 ca150 (cf115 48) (0 : Int32) (cf115 54) (1 : Int32) (txo (cf115 43).toInt) := e175
                have hlu : LyU ca_80 ca150 (cf115 48) (0 : Int32) (cf115 54) (1 : Int32) tx := (by rw [← htx]; exact (by rw [show nd.toInt = (cf115 43).toInt by omega]; exact e175))
                have hcl_e175 : CaG ca_80 ca150 (cf149 33).toInt (cf115 48).toInt := cag_ly hlu (by omega) (by omega)
                have hsr : SyR ca150 ys (cf149 48).toInt (cf149 54).toInt tx := SyR.eq (SyR.ly (cells' := (cf149 54).toInt) (SyR.eq hsr (ns' := (cf115 48).toInt) (by omega) rfl) hlu rfl (by omega) (by omega) (by omega) ⟨by omega, by omega⟩ ⟨by omega, by omega⟩ (fun q => by omega) (fun q => by omega) (fun q => by omega)) (by omega) rfl
                have hkt := hkt.cg hcl_e175 (by omega)
                have hks := hks.cg hcl_e175 (by omega) (by omega) (n2 := (cf149 48).toInt) (by omega)
                have hcg := hcg.tr hcl_e175 (by omega) (by omega)
                have hft := hft.cg hcl_e175
                have hfp := hfp.cg hcl_e175
                have hprs : PrS ca150 (cf149 48).toInt ys na ma_80 lo mid_80 (na 17 nd.toNatClampNeg) x80_6 := PrS.tr hprs (FrC.rf (lo := 0) (hi := 0)) (by omega) hcl_e175 (by omega) (by omega)
                have hzfu : ZFu cf149 ta na ca p0 := (fun q9 => hzfu (by omega))
                have hs49 : (ca150 49 (cf115 48).toNatClampNeg).toInt = (0 : Int) := (by rw [hlu.2.1 (by omega) (by omega)]; rfl)
                have hs52 : (ca150 52 (cf115 48).toNatClampNeg).toInt = (1 : Int) := (by rw [hlu.2.2.2.1]; rfl)
                have hsy : SyV ca150 (cf149 48).toInt ys (cf115 48) := hlu.sv (by omega) (by omega) ⟨by omega, by omega⟩ (by omega)
                have e176 : R_mp_lay (0 : Int32) (1 : Int32) (upd cf115 42 z142) ca_80 cf149 ca150 v152 := e176
                have hwr : WrV cf149 (tf 6).toInt := WrV.eq hwr (by omega) (by omega)
                have lv152 := Int32.le_toInt v152
                have uv152 := Int32.toInt_lt v152
                have hyv : (cf115 48) = v152 := i_eq.mpr (by omega); rw [hyv] at hsy hs49 hs52
                refine px_iast S hT hw 0 14 (n := 2100) (f := (ma_80 18)) (x := x80_6) (y := v152) rfl gp_18 (vp_in_iff.mpr (by constructor <;> omega)) d_Mpg_checkFunction_175 (w' := wdP cs h r g tf ta pf na (va_up ma_80 18 (upd (ma_80 18) x80_6.toNatClampNeg v152)) wa cf149 ca150 ef ea xf xa) (ps' := [wdP cs h r g tf ta pf na (va_up ma_80 18 (upd (ma_80 18) x80_6.toNatClampNeg v152)) wa cf149 ca150 ef ea xf xa]) sp_18 rfl (fun H locs hw => ?_)
                obtain ⟨ma177, hu_ma177⟩ : ∃ y : Nat → Nat → Int32, y = va_up ma_80 18 (upd (ma_80 18) x80_6.toNatClampNeg v152) := ⟨_, rfl⟩
                have hw : pw D A s.heap _ _ [wdP cs h r g tf ta pf na ma177 wa cf149 ca150 ef ea xf xa] := (by rw [hu_ma177]; exact hw)
                have hf1_ma177 : FrC x80_6.toInt (x80_6.toInt + 1) ma_80 ma177 := (by rw [hu_ma177]; exact FrC.w FrC.rf (by omega) (by omega) (by omega))
                have han : Ann na ma0 ma177 := (by rw [hu_ma177]; exact Ann.w18 han (by omega))
                have hfc := hfc.tr hf1_ma177 (by omega) (by omega)
                have hprs : PrS ca150 (cf149 48).toInt ys na ma177 lo mid_80 (na 17 nd.toNatClampNeg) x80_6 := PrS.tr hprs hf1_ma177 (by omega) (CaG.rf (kn := 0) (ns := 5000)) (by omega) (by omega)
                have hzfu : ZFu cf149 ta na ca p0 := (fun q9 => hzfu (by omega))
                have hv_18_x80_6 : ma177 18 x80_6.toNatClampNeg = v152 := (by rw [hu_ma177, va_up_s, pk_us])
                have hnhv_18_x80_6 : (ma177 18 x80_6.toNatClampNeg).toInt = v152.toInt := (by rw [hv_18_x80_6])
                refine lv_aload_n S.x S.b d_Mpg_checkFunction_176 rfl (lv_at hl 2 rfl) ?_
                refine lv_aload_n S.x S.b d_Mpg_checkFunction_177 rfl (lv_at hl 2 rfl) ?_
                refine gP_15 S hT hw 0 rfl m9_239 d_Mpg_checkFunction_178 ?_
                refine lv_iload S.x S.b d_Mpg_checkFunction_181 (lv_at hl 7 rfl) ?_
                refine px_iald S hT hw 0 11 (n := 2100) (f := (na 15)) rfl gp_15 (x := x80_6) (vp_in_iff.mpr (by constructor <;> omega)) d_Mpg_checkFunction_183 ?_
                refine lv_topi (fun z178 ez178 => ?_)
                have lz178 := Int32.le_toInt z178
                have uz178 := Int32.toInt_lt z178
                have rz178 := PaV.tok hpa_x80_6 ez178
                refine lv_iload S.x S.b d_Mpg_checkFunction_184 (lv_at hl 1 rfl) ?_
                refine lv_if_ne (tgt := 193) S.x S.b d_Mpg_checkFunction_186 (by decide) (fun c179 => ?_) (fun c179 => ?_)
                · exact absurd c179 (by decide)
                ·
                  refine lv_iconst (v := 1) S.x S.b d_Mpg_checkFunction_189 (by decide) ?_
                  refine lv_goto (tgt := 209) S.x S.b d_Mpg_checkFunction_190 (by decide) ?_
                  refine lv_iconst (v := 0) S.x S.b d_Mpg_checkFunction_209 (by decide) ?_
                  refine lv_aload_n S.x S.b d_Mpg_checkFunction_210 rfl (lv_at hl 2 rfl) ?_
                  refine gP_18 S hT hw 0 rfl m10_3 d_Mpg_checkFunction_211 ?_
                  refine lv_iload S.x S.b d_Mpg_checkFunction_214 (lv_at hl 7 rfl) ?_
                  refine px_iald S hT hw 0 14 (n := 2100) (f := (ma177 18)) rfl gp_18 (x := x80_6) (vp_in_iff.mpr (by constructor <;> omega)) d_Mpg_checkFunction_216 ?_
                  refine lv_topi (fun z180 ez180 => ?_)
                  have lz180 := Int32.le_toInt z180
                  have uz180 := Int32.toInt_lt z180
                  have hsz180 : v152 = z180 := (ez180.trans hv_18_x80_6).symm; subst hsz180
                  first | refine px_callv (pr := []) (px_runV (As := [.int z178, .int 1, .int 0, .int v152]) (rest := []) S (c_mp_know l D cs h r g tf ta pf na ma177 wa ef ea xf xa cf149 ca150 z178 1 0 v152  (show 0 ≤ (cf149 33).toInt from (oz_9bcc310e9c e161 e120 k80_11 g4)) (show (cf149 33).toInt < 1100 from by omega) htk _) hT (pr := []) (pcs := [wdP cs h r g tf ta pf na ma177 wa cf149 ca150 ef ea xf xa]) hw px_X.tt (px_recv hT hw 0 0 rfl rfl rfl) m12_193 m12_190 m12_192 ms_12_1 m1_21 q_Mpg_know ⟨show 0 + 1 ≤ (6 * d + 30) from (oz_87ccaac56f), show 8 + (5 + 11) + 0 ≤ (260 * d + 1200) from (oz_2ffb131b77)⟩ hl.1 rfl (Nat.le_of_ble_eq_true rfl) d_Mpg_checkFunction_217 ⟨Nat.le_of_ble_eq_true rfl, Nat.le_of_ble_eq_true rfl⟩) hw hA (fun p185 H locs hp185 hw => ?_) | (refine px_callv (pr := []) (px_runV (As := [.int z178, .int 1, .int 0, .int v152]) (rest := []) S (c_mp_know l D cs h r g tf ta pf na ma177 wa ef ea xf xa cf149 ca150 z178 1 0 v152  (show 0 ≤ (cf149 33).toInt from by first | exact oz_9bcc310e9c e161 e120 k80_11 g4 | omega) (show (cf149 33).toInt < 1100 from by omega) htk _) hT (pr := []) (pcs := [wdP cs h r g tf ta pf na ma177 wa cf149 ca150 ef ea xf xa]) hw px_X.tt (px_recv hT hw 0 0 rfl rfl rfl) m12_193 m12_190 m12_192 ms_12_1 m1_21 q_Mpg_know ⟨show 0 + 1 ≤ (6 * d + 30) from (by first | exact oz_87ccaac56f | omega), show 8 + (5 + 11) + 0 ≤ (260 * d + 1200) from (by first | exact oz_2ffb131b77 | omega)⟩ hl.1 rfl (Nat.le_of_ble_eq_true rfl) d_Mpg_checkFunction_217 ⟨Nat.le_of_ble_eq_true rfl, Nat.le_of_ble_eq_true rfl⟩) hw hA (fun p185 H locs hp185 hw => ?_))
                  obtain ⟨cf183, ca184, rfl, e187, e188, e189, e190, e191, e192, e193, e194, e195, e196, e197, e198, e199, e200, e201, e202, e203, e204, e205, e206⟩ := hp185
                  have e187 : (cf183 33).toInt = (cf149 33).toInt + 1 := e187
                  have e188 : (cf183 30).toInt = (cf149 30).toInt := e188
                  have e189 : (cf183 31).toInt = (cf149 31).toInt := e189
                  have e190 : (cf183 37).toInt = (cf149 37).toInt := e190
                  have e191 : (cf183 38).toInt = (cf149 38).toInt := e191
                  have e192 : (cf183 41).toInt = (cf149 41).toInt := e192
                  have e193 : (cf183 42).toInt = (cf149 42).toInt := e193
                  have e194 : (cf183 43).toInt = (cf149 43).toInt := e194
                  have e195 : (cf183 44).toInt = (cf149 44).toInt := e195
                  have e196 : (cf183 45).toInt = (cf149 45).toInt := e196
                  have e197 : (cf183 46).toInt = (cf149 46).toInt := e197
                  have e198 : (cf183 47).toInt = (cf149 47).toInt := e198
                  have e199 : (cf183 48).toInt = (cf149 48).toInt := e199
                  have e200 : (cf183 54).toInt = (cf149 54).toInt := e200
                  have e201 : (cf183 55).toInt = (cf149 55).toInt := e201
                  have e202 : (cf183 57).toInt = (cf149 57).toInt := e202
                  have e203 : (cf183 58).toInt = (cf149 58).toInt := e203
                  have e204 : (cf183 59).toInt = (cf149 59).toInt := e204
                  have e205 : KwU ca150 ca184 (cf149 33) z178 (1 : Int32) (0 : Int32) v152 := e205
                  have hcw_e205 : CaG ca150 ca184 (cf149 33).toInt (cf183 48).toInt := cag_kw e205 (by omega) (by omega)
                  have hkt : KnT (tf 6).toInt ca184 (cf183 33).toInt := KnT.eq (KnT.kw (KnT.eq hkt (n' := (cf149 33).toInt) (by omega)) e205 rfl (by omega) (by omega) ⟨by omega, by omega⟩) (by omega)
                  have hks : KnS ca184 (cf183 33).toInt (cf183 48).toInt ys := KnS.eq (KnS.kw (KnS.eq hks (n' := (cf149 33).toInt) (by omega) rfl) e205 rfl (by omega) (Or.inl ⟨by omega, hsy⟩)) (by omega) (by omega)
                  have hcg := hcg.tr hcw_e205 (by omega) (by omega)
                  have hft := hft.cg hcw_e205
                  have hfp := hfp.cg hcw_e205
                  have hsr := hsr.cg hcw_e205 (by omega)
                  have hprs : PrS ca184 (cf183 48).toInt ys na ma177 lo mid_80 (na 17 nd.toNatClampNeg) x80_6 := PrS.tr hprs (FrC.rf (lo := 0) (hi := 0)) (by omega) hcw_e205 (by omega) (by omega)
                  have hzfu : ZFu cf183 ta na ca p0 := (fun q9 => hzfu (by omega))
                  have hsb_e205 := hsy.1.1
                  first | have hcy_e205 := cl_nat (x := v152) ((oz_f3ebed1ad0 e153 hsb_e205.1)) | (have hcy_e205 := cl_nat (x := v152) (by first | exact oz_f3ebed1ad0 e153 hsb_e205.1 | omega))
                  have hs49 : (ca184 49 v152.toNatClampNeg).toInt = _ := (congrArg Int32.toInt (hcw_e205.2.2 _ (by omega)).1).trans hs49
                  have hs52 : (ca184 52 v152.toNatClampNeg).toInt = _ := (congrArg Int32.toInt (hcw_e205.2.2 _ (by omega)).2.2.2).trans hs52
                  have hsy : SyV ca184 (cf183 48).toInt ys v152 := hsy.cg hcw_e205 (by omega) (by omega)
                  have e206 : R_mp_know z178 (1 : Int32) (0 : Int32) v152 cf149 ca150 cf183 ca184 := e206
                  have hwr : WrV cf183 (tf 6).toInt := WrV.eq hwr (by omega) (by omega)
                  refine lv_aload_n S.x S.b d_Mpg_checkFunction_220 rfl (lv_at hl 2 rfl) ?_
                  refine gP_21 S hT hw 0 rfl m10_7 d_Mpg_checkFunction_221 ?_
                  refine lv_iload S.x S.b d_Mpg_checkFunction_224 (lv_at hl 7 rfl) ?_
                  refine px_iald S hT hw 0 17 (n := 2100) (f := (na 21)) rfl gp_21 (x := x80_6) (vp_in_iff.mpr (by constructor <;> omega)) d_Mpg_checkFunction_226 ?_
                  refine lv_topi (fun z207 ez207 => ?_)
                  have lz207 := Int32.le_toInt z207
                  have uz207 := Int32.toInt_lt z207
                  refine lv_istore (lv' := [(6, .int z207), (8, .int 0), (7, .int 0), (0, .ref h), (1, .int p0), (2, .int nd), (4, .int x80_4), (5, .int x80_5)]) S.x S.b d_Mpg_checkFunction_227 hl (by decide) rfl (fun ls hl => ?_)
                  refine lv_goto (tgt := 80) S.x S.b d_Mpg_checkFunction_229 (by decide) ?_
                  first | exact ih80 ma177 cf183 ca184 md111 (wr_80 - wv112) x80_4 x80_5 z207 _ _ ls (show (cf183 30).toInt = 0 → (cf 30).toInt = 0 from by omega) (show WrV cf183 (tf 6).toInt from hwr) (show (cf183 38).toInt = (cf 38).toInt from (oz_ff3084e3c1 k80_2 e191 e121 e163)) (show (cf183 44).toInt = (cf 44).toInt from (oz_ff3084e3c1 k80_3 e195 e129 e167)) (show (cf183 45).toInt = (cf 45).toInt from (oz_ff3084e3c1 k80_4 e196 e130 e168)) (show (cf183 46).toInt = (cf 46).toInt from (oz_ff3084e3c1 k80_5 e197 e123 e169)) (show (cf183 47).toInt = (cf 47).toInt from (oz_ff3084e3c1 k80_6 e198 e124 e170)) (show (cf183 41).toInt = (cf 41).toInt from (oz_ff3084e3c1 k80_7 e192 e135 e164)) (show (cf183 55).toInt = (cf 55).toInt from (oz_ff3084e3c1 k80_8 e201 e132 e171)) (show (cf183 37).toInt = (cf 33).toInt from (oz_ff3084e3c1 k80_9 e190 e126 e162)) (show (cf183 43).toInt = nd.toInt from (oz_ff3084e3c1 k80_10 e194 e128 e166)) (show (cf 33).toInt ≤ (cf183 33).toInt from (oz_6e66b3a32a k80_11 e187 e120 e161)) (show 6 * (cf183 33).toInt ≤ 6 * (cf 33).toInt + (wp - (wr_80 - wv112)) from by omega) (show (cf 48).toInt ≤ (cf183 48).toInt from (oz_2da8b60292 k80_19 e199 k80_15 e122 hsb_e205.2)) (show 6 * (cf183 48).toInt ≤ 6 * (cf 48).toInt + (wp - (wr_80 - wv112)) from by omega) (show 4 ≤ (cf183 42).toInt from (oz_6ca5c2d626 e193 e165 tz142 e127 k80_15)) (show 0 ≤ (cf183 54).toInt from (oz_ecc8fd4544 e200 e155 e131 k80_16)) (show (cf183 54).toInt ≤ 4 * ((cf183 42).toInt - 4) from (oz_534035a21a e193 e200 e165 e157 e131 tz142 k80_17 e127)) (show (cf183 54).toInt ≤ 4096 * ((cf183 48).toInt - (cf 48).toInt) from (oz_8173734d0d k80_18 e199 e200 e122 e131 e156 hsb_e205.2)) (show (cf183 42).toInt - 4 ≤ 4096 * ((cf183 48).toInt - (cf 48).toInt) from (oz_dffa147a41 k80_19 e193 e199 e122 e127 e165 hsb_e205.2 tz142)) (show x80_4.toInt = (cf 33).toInt from k80_20) (show x80_5.toInt = (cf 37).toInt from k80_21) (show nd.toInt + 1 ≤ md111 from by omega) (show md111 ≤ m1 from by omega) (show 0 ≤ (wr_80 - wv112) from by omega) (show (wr_80 - wv112) ≤ wp from by omega) (show KnT (tf 6).toInt ca184 (cf183 33).toInt from (KnT.eq hkt (by omega))) (show KnS ca184 (cf183 33).toInt (cf183 48).toInt ys from (KnS.eq hks (by omega) (by omega))) (show CaG ca ca184 (cf 33).toInt (cf 48).toInt from (hcg.le (by omega) (by omega))) (show SyR ca184 ys (cf183 48).toInt (cf183 54).toInt tx from (SyR.eq hsr (by omega) (by omega))) (show Ann na ma0 ma177 from han) (show FrC lo hi ma ma177 from hfc) (show RvP ta (tf 6).toInt na ma0 md111 m1 (wr_80 - wv112) z207 from (by rw [ez207]; exact hrp2)) (show PrS ca184 (cf183 48).toInt ys na ma177 lo md111 (na 17 nd.toNatClampNeg) z207 from (PrS.nx (PrS.to hprs (by omega) (Int.le_refl _) (by omega)) (by omega) hv_18_x80_6 (by omega) (by omega) (Or.inl ⟨by omega, hsy⟩) ez207)) (show ZFu cf183 ta na ca p0 from (fun zz => hzfu (by have q9 : (cf183 30).toInt = 0 := zz; omega))) (show K_mp_checkFunction_80 d tf ta na p0 ma cf ca ma177 cf183 ca184 x80_4 x80_5 z207 nd from (fun y_f0 y_f1 y_f2 k hE => k80_35 y_f0 y_f1 y_f2 (k + 1) (Or.inr (Or.inl ⟨rfl, x80_4, x80_5, x80_6, nd, rfl, rfl, rfl, rfl, rfl, Or.inr ⟨nc1, z113, ez113, cf115, e136, z137, ez137, Or.inl ⟨nc138, z142, ez142, z143, ez143, Or.inl ⟨nc144, cf149, ca150, v152, e176, ma177, hu_ma177, z178, ez178, v152, ez180, cf183, ca184, e206, z207, ez207, hE⟩⟩⟩⟩)))) (show m1 - md111 < (n_80 : Int) from by omega) hw (lv_sub hl [3, 4, 5, 6, 7, 0] rfl) | (exact ih80 ma177 cf183 ca184 md111 (wr_80 - wv112) x80_4 x80_5 z207 _ _ ls (show (cf183 30).toInt = 0 → (cf 30).toInt = 0 from by omega) (show WrV cf183 (tf 6).toInt from hwr) (show (cf183 38).toInt = (cf 38).toInt from by first | exact oz_ff3084e3c1 k80_2 e191 e121 e163 | omega) (show (cf183 44).toInt = (cf 44).toInt from by first | exact oz_ff3084e3c1 k80_3 e195 e129 e167 | omega) (show (cf183 45).toInt = (cf 45).toInt from by first | exact oz_ff3084e3c1 k80_4 e196 e130 e168 | omega) (show (cf183 46).toInt = (cf 46).toInt from by first | exact oz_ff3084e3c1 k80_5 e197 e123 e169 | omega) (show (cf183 47).toInt = (cf 47).toInt from by first | exact oz_ff3084e3c1 k80_6 e198 e124 e170 | omega) (show (cf183 41).toInt = (cf 41).toInt from by first | exact oz_ff3084e3c1 k80_7 e192 e135 e164 | omega) (show (cf183 55).toInt = (cf 55).toInt from by first | exact oz_ff3084e3c1 k80_8 e201 e132 e171 | omega) (show (cf183 37).toInt = (cf 33).toInt from by first | exact oz_ff3084e3c1 k80_9 e190 e126 e162 | omega) (show (cf183 43).toInt = nd.toInt from by first | exact oz_ff3084e3c1 k80_10 e194 e128 e166 | omega) (show (cf 33).toInt ≤ (cf183 33).toInt from by first | exact oz_6e66b3a32a k80_11 e187 e120 e161 | omega) (show 6 * (cf183 33).toInt ≤ 6 * (cf 33).toInt + (wp - (wr_80 - wv112)) from by omega) (show (cf 48).toInt ≤ (cf183 48).toInt from by first | exact oz_2da8b60292 k80_19 e199 k80_15 e122 hsb_e205.2 | omega) (show 6 * (cf183 48).toInt ≤ 6 * (cf 48).toInt + (wp - (wr_80 - wv112)) from by omega) (show 4 ≤ (cf183 42).toInt from by first | exact oz_6ca5c2d626 e193 e165 tz142 e127 k80_15 | omega) (show 0 ≤ (cf183 54).toInt from by first | exact oz_ecc8fd4544 e200 e155 e131 k80_16 | omega) (show (cf183 54).toInt ≤ 4 * ((cf183 42).toInt - 4) from by first | exact oz_534035a21a e193 e200 e165 e157 e131 tz142 k80_17 e127 | omega) (show (cf183 54).toInt ≤ 4096 * ((cf183 48).toInt - (cf 48).toInt) from by first | exact oz_8173734d0d k80_18 e199 e200 e122 e131 e156 hsb_e205.2 | omega) (show (cf183 42).toInt - 4 ≤ 4096 * ((cf183 48).toInt - (cf 48).toInt) from by first | exact oz_dffa147a41 k80_19 e193 e199 e122 e127 e165 hsb_e205.2 tz142 | omega) (show x80_4.toInt = (cf 33).toInt from by first | exact k80_20 | omega) (show x80_5.toInt = (cf 37).toInt from by first | exact k80_21 | omega) (show nd.toInt + 1 ≤ md111 from by omega) (show md111 ≤ m1 from by omega) (show 0 ≤ (wr_80 - wv112) from by omega) (show (wr_80 - wv112) ≤ wp from by omega) (show KnT (tf 6).toInt ca184 (cf183 33).toInt from (KnT.eq hkt (by omega))) (show KnS ca184 (cf183 33).toInt (cf183 48).toInt ys from (KnS.eq hks (by omega) (by omega))) (show CaG ca ca184 (cf 33).toInt (cf 48).toInt from (hcg.le (by omega) (by omega))) (show SyR ca184 ys (cf183 48).toInt (cf183 54).toInt tx from (SyR.eq hsr (by omega) (by omega))) (show Ann na ma0 ma177 from han) (show FrC lo hi ma ma177 from hfc) (show RvP ta (tf 6).toInt na ma0 md111 m1 (wr_80 - wv112) z207 from (by rw [ez207]; exact hrp2)) (show PrS ca184 (cf183 48).toInt ys na ma177 lo md111 (na 17 nd.toNatClampNeg) z207 from (PrS.nx (PrS.to hprs (by omega) (Int.le_refl _) (by omega)) (by omega) hv_18_x80_6 (by omega) (by omega) (Or.inl ⟨by omega, hsy⟩) ez207)) (show ZFu cf183 ta na ca p0 from (fun zz => hzfu (by have q9 : (cf183 30).toInt = 0 := zz; omega))) (show K_mp_checkFunction_80 d tf ta na p0 ma cf ca ma177 cf183 ca184 x80_4 x80_5 z207 nd from (fun y_f0 y_f1 y_f2 k hE => k80_35 y_f0 y_f1 y_f2 (k + 1) (Or.inr (Or.inl ⟨rfl, x80_4, x80_5, x80_6, nd, rfl, rfl, rfl, rfl, rfl, Or.inr ⟨nc1, z113, ez113, cf115, e136, z137, ez137, Or.inl ⟨nc138, z142, ez142, z143, ez143, Or.inl ⟨nc144, cf149, ca150, v152, e176, ma177, hu_ma177, z178, ez178, v152, ez180, cf183, ca184, e206, z207, ez207, hE⟩⟩⟩⟩)))) (show m1 - md111 < (n_80 : Int) from by omega) hw (lv_sub hl [3, 4, 5, 6, 7, 0] rfl))
              · exact absurd c146 (by decide)
            · have nc144 : z143.toInt = (1 : Int) := (i_eq (x := z143) (y := 1)).mp c144
              refine lv_iconst (v := 1) S.x S.b d_Mpg_checkFunction_143 (by decide) ?_
              refine lv_goto (tgt := 148) S.x S.b d_Mpg_checkFunction_144 (by decide) ?_
              refine lv_istore (lv' := [(8, .int 1), (7, .int 0), (0, .ref h), (1, .int p0), (2, .int nd), (4, .int x80_4), (5, .int x80_5), (6, .int x80_6)]) S.x S.b d_Mpg_checkFunction_148 hl (by decide) rfl (fun ls hl => ?_)
              refine lv_aload_n S.x S.b d_Mpg_checkFunction_150 rfl (lv_at hl 2 rfl) ?_
              refine gP_18 S hT hw 0 rfl m10_3 d_Mpg_checkFunction_151 ?_
              refine lv_iload S.x S.b d_Mpg_checkFunction_154 (lv_at hl 7 rfl) ?_
              refine lv_aload_n S.x S.b d_Mpg_checkFunction_156 rfl (lv_at hl 2 rfl) ?_
              refine lv_iload S.x S.b d_Mpg_checkFunction_157 (lv_at hl 1 rfl) ?_
              refine lv_if_eq (tgt := 169) S.x S.b d_Mpg_checkFunction_159 (by decide) (fun c208 => ?_) (fun c208 => ?_)
              ·
                refine lv_iload S.x S.b d_Mpg_checkFunction_169 (lv_at hl 0 rfl) ?_
                refine lv_iconst (v := 1) S.x S.b d_Mpg_checkFunction_171 (by decide) ?_
                first | refine px_calli (pr := []) (px_runV (As := [.int 1, .int 1]) (rest := [.int x80_6, .ref (r 18)]) S (c_mp_lay l D cs h r g tf ta pf na ma_80 wa ef ea xf xa (upd cf115 42 z142) ca_80 1 1  (show 0 ≤ (cf115 48).toInt from (oz_c0af2c5e34 e122 k80_19 g7 k80_15)) (show (cf115 48).toInt < 1100 from by omega) (show 0 ≤ (1 : Int) from oz_19c3a41681) (show (1 : Int) ≤ 5 from oz_abfa5d2d35) (show 0 ≤ (1 : Int) from oz_19c3a41681) (show (1 : Int) ≤ 4096 from oz_79b5d9fede) (show 0 ≤ (cf115 54).toInt from (oz_f3ebed1ad0 e131 k80_16)) (show (cf115 54).toInt ≤ 40000000 from by omega) htk _) hT (pr := []) (pcs := [wdP cs h r g tf ta pf na ma_80 wa (upd cf115 42 z142) ca_80 ef ea xf xa]) hw px_X.tt (px_recv hT hw 0 0 rfl rfl rfl) m12_189 m12_186 m12_188 ms_12_0 m1_21 q_Mpg_lay ⟨show 0 + 1 ≤ (6 * d + 30) from (oz_87ccaac56f), show 8 + (3 + 11) + 0 ≤ (260 * d + 1200) from (oz_afd8bf942c)⟩ hl.1 rfl (Nat.le_of_ble_eq_true rfl) d_Mpg_checkFunction_172 ⟨Nat.le_of_ble_eq_true rfl, Nat.le_of_ble_eq_true rfl⟩) hw hA (fun v214 p213 H locs hp213 hw => ?_) | (refine px_calli (pr := []) (px_runV (As := [.int 1, .int 1]) (rest := [.int x80_6, .ref (r 18)]) S (c_mp_lay l D cs h r g tf ta pf na ma_80 wa ef ea xf xa (upd cf115 42 z142) ca_80 1 1  (show 0 ≤ (cf115 48).toInt from by first | exact oz_c0af2c5e34 e122 k80_19 g7 k80_15 | omega) (show (cf115 48).toInt < 1100 from by omega) (show 0 ≤ (1 : Int) from by first | exact oz_19c3a41681 | omega) (show (1 : Int) ≤ 5 from by first | exact oz_abfa5d2d35 | omega) (show 0 ≤ (1 : Int) from by first | exact oz_19c3a41681 | omega) (show (1 : Int) ≤ 4096 from by first | exact oz_79b5d9fede | omega) (show 0 ≤ (cf115 54).toInt from by first | exact oz_f3ebed1ad0 e131 k80_16 | omega) (show (cf115 54).toInt ≤ 40000000 from by omega) htk _) hT (pr := []) (pcs := [wdP cs h r g tf ta pf na ma_80 wa (upd cf115 42 z142) ca_80 ef ea xf xa]) hw px_X.tt (px_recv hT hw 0 0 rfl rfl rfl) m12_189 m12_186 m12_188 ms_12_0 m1_21 q_Mpg_lay ⟨show 0 + 1 ≤ (6 * d + 30) from (by first | exact oz_87ccaac56f | omega), show 8 + (3 + 11) + 0 ≤ (260 * d + 1200) from (by first | exact oz_afd8bf942c | omega)⟩ hl.1 rfl (Nat.le_of_ble_eq_true rfl) d_Mpg_checkFunction_172 ⟨Nat.le_of_ble_eq_true rfl, Nat.le_of_ble_eq_true rfl⟩) hw hA (fun v214 p213 H locs hp213 hw => ?_))
                obtain ⟨cf211, ca212, rfl, e215, e216, e217, e218, e219, e220, e221, e222, e223, e224, e225, e226, e227, e228, e229, e230, e231, e232, e233, e234, e235, e236, e237, e238⟩ := hp213
                have e215 : v214.toInt = (cf115 48).toInt := e215
                have e216 : (cf211 48).toInt = (cf115 48).toInt + 1 := e216
                have e217 : (cf115 54).toInt ≤ (cf211 54).toInt := e217
                have e218 : (cf211 54).toInt ≤ (cf115 54).toInt + 4096 := e218
                have e219 : (1 : Int) ≤ 3 → (cf211 54).toInt = (cf115 54).toInt + (1 : Int) := e219
                have e220 : 4 ≤ (1 : Int) → (cf211 54).toInt = (cf115 54).toInt + 2 := e220
                have e221 : (cf211 30).toInt = (cf115 30).toInt := e221
                have e222 : (cf211 31).toInt = (cf115 31).toInt := e222
                have e223 : (cf211 33).toInt = (cf115 33).toInt := e223
                have e224 : (cf211 37).toInt = (cf115 37).toInt := e224
                have e225 : (cf211 38).toInt = (cf115 38).toInt := e225
                have e226 : (cf211 41).toInt = (cf115 41).toInt := e226
                have e227 : (cf211 42).toInt = z142.toInt := e227
                have e228 : (cf211 43).toInt = (cf115 43).toInt := e228
                have e229 : (cf211 44).toInt = (cf115 44).toInt := e229
                have e230 : (cf211 45).toInt = (cf115 45).toInt := e230
                have e231 : (cf211 46).toInt = (cf115 46).toInt := e231
                have e232 : (cf211 47).toInt = (cf115 47).toInt := e232
                have e233 : (cf211 55).toInt = (cf115 55).toInt := e233
                have e234 : (cf211 57).toInt = (cf115 57).toInt := e234
                have e235 : (cf211 58).toInt = (cf115 58).toInt := e235
                have e236 : (cf211 59).toInt = (cf115 59).toInt := e236
                have e237 : LyU ca_80 ca212 (cf115 48) (1 : Int32) (cf115 54) (1 : Int32) (txo (cf115 43).toInt) := e237
                have hlu : LyU ca_80 ca212 (cf115 48) (1 : Int32) (cf115 54) (1 : Int32) tx := (by rw [← htx]; exact (by rw [show nd.toInt = (cf115 43).toInt by omega]; exact e237))
                have hcl_e237 : CaG ca_80 ca212 (cf211 33).toInt (cf115 48).toInt := cag_ly hlu (by omega) (by omega)
                have hsr : SyR ca212 ys (cf211 48).toInt (cf211 54).toInt tx := SyR.eq (SyR.ly (cells' := (cf211 54).toInt) (SyR.eq hsr (ns' := (cf115 48).toInt) (by omega) rfl) hlu rfl (by omega) (by omega) (by omega) ⟨by omega, by omega⟩ ⟨by omega, by omega⟩ (fun q => by omega) (fun q => by omega) (fun q => by omega)) (by omega) rfl
                have hkt := hkt.cg hcl_e237 (by omega)
                have hks := hks.cg hcl_e237 (by omega) (by omega) (n2 := (cf211 48).toInt) (by omega)
                have hcg := hcg.tr hcl_e237 (by omega) (by omega)
                have hft := hft.cg hcl_e237
                have hfp := hfp.cg hcl_e237
                have hprs : PrS ca212 (cf211 48).toInt ys na ma_80 lo mid_80 (na 17 nd.toNatClampNeg) x80_6 := PrS.tr hprs (FrC.rf (lo := 0) (hi := 0)) (by omega) hcl_e237 (by omega) (by omega)
                have hzfu : ZFu cf211 ta na ca p0 := (fun q9 => hzfu (by omega))
                have hs49 : (ca212 49 (cf115 48).toNatClampNeg).toInt = (1 : Int) := (by rw [hlu.2.1 (by omega) (by omega)]; rfl)
                have hs52 : (ca212 52 (cf115 48).toNatClampNeg).toInt = (1 : Int) := (by rw [hlu.2.2.2.1]; rfl)
                have hsy : SyV ca212 (cf211 48).toInt ys (cf115 48) := hlu.sv (by omega) (by omega) ⟨by omega, by omega⟩ (by omega)
                have e238 : R_mp_lay (1 : Int32) (1 : Int32) (upd cf115 42 z142) ca_80 cf211 ca212 v214 := e238
                have hwr : WrV cf211 (tf 6).toInt := WrV.eq hwr (by omega) (by omega)
                have lv214 := Int32.le_toInt v214
                have uv214 := Int32.toInt_lt v214
                have hyv : (cf115 48) = v214 := i_eq.mpr (by omega); rw [hyv] at hsy hs49 hs52
                refine px_iast S hT hw 0 14 (n := 2100) (f := (ma_80 18)) (x := x80_6) (y := v214) rfl gp_18 (vp_in_iff.mpr (by constructor <;> omega)) d_Mpg_checkFunction_175 (w' := wdP cs h r g tf ta pf na (va_up ma_80 18 (upd (ma_80 18) x80_6.toNatClampNeg v214)) wa cf211 ca212 ef ea xf xa) (ps' := [wdP cs h r g tf ta pf na (va_up ma_80 18 (upd (ma_80 18) x80_6.toNatClampNeg v214)) wa cf211 ca212 ef ea xf xa]) sp_18 rfl (fun H locs hw => ?_)
                obtain ⟨ma239, hu_ma239⟩ : ∃ y : Nat → Nat → Int32, y = va_up ma_80 18 (upd (ma_80 18) x80_6.toNatClampNeg v214) := ⟨_, rfl⟩
                have hw : pw D A s.heap _ _ [wdP cs h r g tf ta pf na ma239 wa cf211 ca212 ef ea xf xa] := (by rw [hu_ma239]; exact hw)
                have hf1_ma239 : FrC x80_6.toInt (x80_6.toInt + 1) ma_80 ma239 := (by rw [hu_ma239]; exact FrC.w FrC.rf (by omega) (by omega) (by omega))
                have han : Ann na ma0 ma239 := (by rw [hu_ma239]; exact Ann.w18 han (by omega))
                have hfc := hfc.tr hf1_ma239 (by omega) (by omega)
                have hprs : PrS ca212 (cf211 48).toInt ys na ma239 lo mid_80 (na 17 nd.toNatClampNeg) x80_6 := PrS.tr hprs hf1_ma239 (by omega) (CaG.rf (kn := 0) (ns := 5000)) (by omega) (by omega)
                have hzfu : ZFu cf211 ta na ca p0 := (fun q9 => hzfu (by omega))
                have hv_18_x80_6 : ma239 18 x80_6.toNatClampNeg = v214 := (by rw [hu_ma239, va_up_s, pk_us])
                have hnhv_18_x80_6 : (ma239 18 x80_6.toNatClampNeg).toInt = v214.toInt := (by rw [hv_18_x80_6])
                refine lv_aload_n S.x S.b d_Mpg_checkFunction_176 rfl (lv_at hl 2 rfl) ?_
                refine lv_aload_n S.x S.b d_Mpg_checkFunction_177 rfl (lv_at hl 2 rfl) ?_
                refine gP_15 S hT hw 0 rfl m9_239 d_Mpg_checkFunction_178 ?_
                refine lv_iload S.x S.b d_Mpg_checkFunction_181 (lv_at hl 7 rfl) ?_
                refine px_iald S hT hw 0 11 (n := 2100) (f := (na 15)) rfl gp_15 (x := x80_6) (vp_in_iff.mpr (by constructor <;> omega)) d_Mpg_checkFunction_183 ?_
                refine lv_topi (fun z240 ez240 => ?_)
                have lz240 := Int32.le_toInt z240
                have uz240 := Int32.toInt_lt z240
                have rz240 := PaV.tok hpa_x80_6 ez240
                refine lv_iload S.x S.b d_Mpg_checkFunction_184 (lv_at hl 1 rfl) ?_
                refine lv_if_ne (tgt := 193) S.x S.b d_Mpg_checkFunction_186 (by decide) (fun c241 => ?_) (fun c241 => ?_)
                · exact absurd c241 (by decide)
                ·
                  refine lv_iconst (v := 1) S.x S.b d_Mpg_checkFunction_189 (by decide) ?_
                  refine lv_goto (tgt := 209) S.x S.b d_Mpg_checkFunction_190 (by decide) ?_
                  refine lv_iconst (v := 0) S.x S.b d_Mpg_checkFunction_209 (by decide) ?_
                  refine lv_aload_n S.x S.b d_Mpg_checkFunction_210 rfl (lv_at hl 2 rfl) ?_
                  refine gP_18 S hT hw 0 rfl m10_3 d_Mpg_checkFunction_211 ?_
                  refine lv_iload S.x S.b d_Mpg_checkFunction_214 (lv_at hl 7 rfl) ?_
                  refine px_iald S hT hw 0 14 (n := 2100) (f := (ma239 18)) rfl gp_18 (x := x80_6) (vp_in_iff.mpr (by constructor <;> omega)) d_Mpg_checkFunction_216 ?_
                  refine lv_topi (fun z242 ez242 => ?_)
                  have lz242 := Int32.le_toInt z242
                  have uz242 := Int32.toInt_lt z242
                  have hsz242 : v214 = z242 := (ez242.trans hv_18_x80_6).symm; subst hsz242
                  first | refine px_callv (pr := []) (px_runV (As := [.int z240, .int 1, .int 0, .int v214]) (rest := []) S (c_mp_know l D cs h r g tf ta pf na ma239 wa ef ea xf xa cf211 ca212 z240 1 0 v214  (show 0 ≤ (cf211 33).toInt from (oz_9bcc310e9c e223 e120 k80_11 g4)) (show (cf211 33).toInt < 1100 from by omega) htk _) hT (pr := []) (pcs := [wdP cs h r g tf ta pf na ma239 wa cf211 ca212 ef ea xf xa]) hw px_X.tt (px_recv hT hw 0 0 rfl rfl rfl) m12_193 m12_190 m12_192 ms_12_1 m1_21 q_Mpg_know ⟨show 0 + 1 ≤ (6 * d + 30) from (oz_87ccaac56f), show 8 + (5 + 11) + 0 ≤ (260 * d + 1200) from (oz_2ffb131b77)⟩ hl.1 rfl (Nat.le_of_ble_eq_true rfl) d_Mpg_checkFunction_217 ⟨Nat.le_of_ble_eq_true rfl, Nat.le_of_ble_eq_true rfl⟩) hw hA (fun p247 H locs hp247 hw => ?_) | (refine px_callv (pr := []) (px_runV (As := [.int z240, .int 1, .int 0, .int v214]) (rest := []) S (c_mp_know l D cs h r g tf ta pf na ma239 wa ef ea xf xa cf211 ca212 z240 1 0 v214  (show 0 ≤ (cf211 33).toInt from by first | exact oz_9bcc310e9c e223 e120 k80_11 g4 | omega) (show (cf211 33).toInt < 1100 from by omega) htk _) hT (pr := []) (pcs := [wdP cs h r g tf ta pf na ma239 wa cf211 ca212 ef ea xf xa]) hw px_X.tt (px_recv hT hw 0 0 rfl rfl rfl) m12_193 m12_190 m12_192 ms_12_1 m1_21 q_Mpg_know ⟨show 0 + 1 ≤ (6 * d + 30) from (by first | exact oz_87ccaac56f | omega), show 8 + (5 + 11) + 0 ≤ (260 * d + 1200) from (by first | exact oz_2ffb131b77 | omega)⟩ hl.1 rfl (Nat.le_of_ble_eq_true rfl) d_Mpg_checkFunction_217 ⟨Nat.le_of_ble_eq_true rfl, Nat.le_of_ble_eq_true rfl⟩) hw hA (fun p247 H locs hp247 hw => ?_))
                  obtain ⟨cf245, ca246, rfl, e249, e250, e251, e252, e253, e254, e255, e256, e257, e258, e259, e260, e261, e262, e263, e264, e265, e266, e267, e268⟩ := hp247
                  have e249 : (cf245 33).toInt = (cf211 33).toInt + 1 := e249
                  have e250 : (cf245 30).toInt = (cf211 30).toInt := e250
                  have e251 : (cf245 31).toInt = (cf211 31).toInt := e251
                  have e252 : (cf245 37).toInt = (cf211 37).toInt := e252
                  have e253 : (cf245 38).toInt = (cf211 38).toInt := e253
                  have e254 : (cf245 41).toInt = (cf211 41).toInt := e254
                  have e255 : (cf245 42).toInt = (cf211 42).toInt := e255
                  have e256 : (cf245 43).toInt = (cf211 43).toInt := e256
                  have e257 : (cf245 44).toInt = (cf211 44).toInt := e257
                  have e258 : (cf245 45).toInt = (cf211 45).toInt := e258
                  have e259 : (cf245 46).toInt = (cf211 46).toInt := e259
                  have e260 : (cf245 47).toInt = (cf211 47).toInt := e260
                  have e261 : (cf245 48).toInt = (cf211 48).toInt := e261
                  have e262 : (cf245 54).toInt = (cf211 54).toInt := e262
                  have e263 : (cf245 55).toInt = (cf211 55).toInt := e263
                  have e264 : (cf245 57).toInt = (cf211 57).toInt := e264
                  have e265 : (cf245 58).toInt = (cf211 58).toInt := e265
                  have e266 : (cf245 59).toInt = (cf211 59).toInt := e266
                  have e267 : KwU ca212 ca246 (cf211 33) z240 (1 : Int32) (0 : Int32) v214 := e267
                  have hcw_e267 : CaG ca212 ca246 (cf211 33).toInt (cf245 48).toInt := cag_kw e267 (by omega) (by omega)
                  have hkt : KnT (tf 6).toInt ca246 (cf245 33).toInt := KnT.eq (KnT.kw (KnT.eq hkt (n' := (cf211 33).toInt) (by omega)) e267 rfl (by omega) (by omega) ⟨by omega, by omega⟩) (by omega)
                  have hks : KnS ca246 (cf245 33).toInt (cf245 48).toInt ys := KnS.eq (KnS.kw (KnS.eq hks (n' := (cf211 33).toInt) (by omega) rfl) e267 rfl (by omega) (Or.inl ⟨by omega, hsy⟩)) (by omega) (by omega)
                  have hcg := hcg.tr hcw_e267 (by omega) (by omega)
                  have hft := hft.cg hcw_e267
                  have hfp := hfp.cg hcw_e267
                  have hsr := hsr.cg hcw_e267 (by omega)
                  have hprs : PrS ca246 (cf245 48).toInt ys na ma239 lo mid_80 (na 17 nd.toNatClampNeg) x80_6 := PrS.tr hprs (FrC.rf (lo := 0) (hi := 0)) (by omega) hcw_e267 (by omega) (by omega)
                  have hzfu : ZFu cf245 ta na ca p0 := (fun q9 => hzfu (by omega))
                  have hsb_e267 := hsy.1.1
                  first | have hcy_e267 := cl_nat (x := v214) ((oz_f3ebed1ad0 e215 hsb_e267.1)) | (have hcy_e267 := cl_nat (x := v214) (by first | exact oz_f3ebed1ad0 e215 hsb_e267.1 | omega))
                  have hs49 : (ca246 49 v214.toNatClampNeg).toInt = _ := (congrArg Int32.toInt (hcw_e267.2.2 _ (by omega)).1).trans hs49
                  have hs52 : (ca246 52 v214.toNatClampNeg).toInt = _ := (congrArg Int32.toInt (hcw_e267.2.2 _ (by omega)).2.2.2).trans hs52
                  have hsy : SyV ca246 (cf245 48).toInt ys v214 := hsy.cg hcw_e267 (by omega) (by omega)
                  have e268 : R_mp_know z240 (1 : Int32) (0 : Int32) v214 cf211 ca212 cf245 ca246 := e268
                  have hwr : WrV cf245 (tf 6).toInt := WrV.eq hwr (by omega) (by omega)
                  refine lv_aload_n S.x S.b d_Mpg_checkFunction_220 rfl (lv_at hl 2 rfl) ?_
                  refine gP_21 S hT hw 0 rfl m10_7 d_Mpg_checkFunction_221 ?_
                  refine lv_iload S.x S.b d_Mpg_checkFunction_224 (lv_at hl 7 rfl) ?_
                  refine px_iald S hT hw 0 17 (n := 2100) (f := (na 21)) rfl gp_21 (x := x80_6) (vp_in_iff.mpr (by constructor <;> omega)) d_Mpg_checkFunction_226 ?_
                  refine lv_topi (fun z269 ez269 => ?_)
                  have lz269 := Int32.le_toInt z269
                  have uz269 := Int32.toInt_lt z269
                  refine lv_istore (lv' := [(6, .int z269), (8, .int 1), (7, .int 0), (0, .ref h), (1, .int p0), (2, .int nd), (4, .int x80_4), (5, .int x80_5)]) S.x S.b d_Mpg_checkFunction_227 hl (by decide) rfl (fun ls hl => ?_)
                  refine lv_goto (tgt := 80) S.x S.b d_Mpg_checkFunction_229 (by decide) ?_
                  first | exact ih80 ma239 cf245 ca246 md111 (wr_80 - wv112) x80_4 x80_5 z269 _ _ ls (show (cf245 30).toInt = 0 → (cf 30).toInt = 0 from by omega) (show WrV cf245 (tf 6).toInt from hwr) (show (cf245 38).toInt = (cf 38).toInt from (oz_ff3084e3c1 k80_2 e253 e121 e225)) (show (cf245 44).toInt = (cf 44).toInt from (oz_ff3084e3c1 k80_3 e257 e129 e229)) (show (cf245 45).toInt = (cf 45).toInt from (oz_ff3084e3c1 k80_4 e258 e130 e230)) (show (cf245 46).toInt = (cf 46).toInt from (oz_ff3084e3c1 k80_5 e259 e123 e231)) (show (cf245 47).toInt = (cf 47).toInt from (oz_ff3084e3c1 k80_6 e260 e124 e232)) (show (cf245 41).toInt = (cf 41).toInt from (oz_ff3084e3c1 k80_7 e254 e135 e226)) (show (cf245 55).toInt = (cf 55).toInt from (oz_ff3084e3c1 k80_8 e263 e132 e233)) (show (cf245 37).toInt = (cf 33).toInt from (oz_ff3084e3c1 k80_9 e252 e126 e224)) (show (cf245 43).toInt = nd.toInt from (oz_ff3084e3c1 k80_10 e256 e128 e228)) (show (cf 33).toInt ≤ (cf245 33).toInt from (oz_6e66b3a32a k80_11 e249 e120 e223)) (show 6 * (cf245 33).toInt ≤ 6 * (cf 33).toInt + (wp - (wr_80 - wv112)) from by omega) (show (cf 48).toInt ≤ (cf245 48).toInt from (oz_2da8b60292 k80_19 e261 k80_15 e122 hsb_e267.2)) (show 6 * (cf245 48).toInt ≤ 6 * (cf 48).toInt + (wp - (wr_80 - wv112)) from by omega) (show 4 ≤ (cf245 42).toInt from (oz_6ca5c2d626 e255 e227 tz142 e127 k80_15)) (show 0 ≤ (cf245 54).toInt from (oz_ecc8fd4544 e262 e217 e131 k80_16)) (show (cf245 54).toInt ≤ 4 * ((cf245 42).toInt - 4) from (oz_2184f957c1 e255 e262 e227 e219 e131 tz142 k80_17 e127)) (show (cf245 54).toInt ≤ 4096 * ((cf245 48).toInt - (cf 48).toInt) from (oz_8173734d0d k80_18 e261 e262 e122 e131 e218 hsb_e267.2)) (show (cf245 42).toInt - 4 ≤ 4096 * ((cf245 48).toInt - (cf 48).toInt) from (oz_dffa147a41 k80_19 e255 e261 e122 e127 e227 hsb_e267.2 tz142)) (show x80_4.toInt = (cf 33).toInt from k80_20) (show x80_5.toInt = (cf 37).toInt from k80_21) (show nd.toInt + 1 ≤ md111 from by omega) (show md111 ≤ m1 from by omega) (show 0 ≤ (wr_80 - wv112) from by omega) (show (wr_80 - wv112) ≤ wp from by omega) (show KnT (tf 6).toInt ca246 (cf245 33).toInt from (KnT.eq hkt (by omega))) (show KnS ca246 (cf245 33).toInt (cf245 48).toInt ys from (KnS.eq hks (by omega) (by omega))) (show CaG ca ca246 (cf 33).toInt (cf 48).toInt from (hcg.le (by omega) (by omega))) (show SyR ca246 ys (cf245 48).toInt (cf245 54).toInt tx from (SyR.eq hsr (by omega) (by omega))) (show Ann na ma0 ma239 from han) (show FrC lo hi ma ma239 from hfc) (show RvP ta (tf 6).toInt na ma0 md111 m1 (wr_80 - wv112) z269 from (by rw [ez269]; exact hrp2)) (show PrS ca246 (cf245 48).toInt ys na ma239 lo md111 (na 17 nd.toNatClampNeg) z269 from (PrS.nx (PrS.to hprs (by omega) (Int.le_refl _) (by omega)) (by omega) hv_18_x80_6 (by omega) (by omega) (Or.inl ⟨by omega, hsy⟩) ez269)) (show ZFu cf245 ta na ca p0 from (fun zz => hzfu (by have q9 : (cf245 30).toInt = 0 := zz; omega))) (show K_mp_checkFunction_80 d tf ta na p0 ma cf ca ma239 cf245 ca246 x80_4 x80_5 z269 nd from (fun y_f0 y_f1 y_f2 k hE => k80_35 y_f0 y_f1 y_f2 (k + 1) (Or.inr (Or.inl ⟨rfl, x80_4, x80_5, x80_6, nd, rfl, rfl, rfl, rfl, rfl, Or.inr ⟨nc1, z113, ez113, cf115, e136, z137, ez137, Or.inl ⟨nc138, z142, ez142, z143, ez143, Or.inr ⟨nc144, cf211, ca212, v214, e238, ma239, hu_ma239, z240, ez240, v214, ez242, cf245, ca246, e268, z269, ez269, hE⟩⟩⟩⟩)))) (show m1 - md111 < (n_80 : Int) from by omega) hw (lv_sub hl [3, 4, 5, 6, 7, 0] rfl) | (exact ih80 ma239 cf245 ca246 md111 (wr_80 - wv112) x80_4 x80_5 z269 _ _ ls (show (cf245 30).toInt = 0 → (cf 30).toInt = 0 from by omega) (show WrV cf245 (tf 6).toInt from hwr) (show (cf245 38).toInt = (cf 38).toInt from by first | exact oz_ff3084e3c1 k80_2 e253 e121 e225 | omega) (show (cf245 44).toInt = (cf 44).toInt from by first | exact oz_ff3084e3c1 k80_3 e257 e129 e229 | omega) (show (cf245 45).toInt = (cf 45).toInt from by first | exact oz_ff3084e3c1 k80_4 e258 e130 e230 | omega) (show (cf245 46).toInt = (cf 46).toInt from by first | exact oz_ff3084e3c1 k80_5 e259 e123 e231 | omega) (show (cf245 47).toInt = (cf 47).toInt from by first | exact oz_ff3084e3c1 k80_6 e260 e124 e232 | omega) (show (cf245 41).toInt = (cf 41).toInt from by first | exact oz_ff3084e3c1 k80_7 e254 e135 e226 | omega) (show (cf245 55).toInt = (cf 55).toInt from by first | exact oz_ff3084e3c1 k80_8 e263 e132 e233 | omega) (show (cf245 37).toInt = (cf 33).toInt from by first | exact oz_ff3084e3c1 k80_9 e252 e126 e224 | omega) (show (cf245 43).toInt = nd.toInt from by first | exact oz_ff3084e3c1 k80_10 e256 e128 e228 | omega) (show (cf 33).toInt ≤ (cf245 33).toInt from by first | exact oz_6e66b3a32a k80_11 e249 e120 e223 | omega) (show 6 * (cf245 33).toInt ≤ 6 * (cf 33).toInt + (wp - (wr_80 - wv112)) from by omega) (show (cf 48).toInt ≤ (cf245 48).toInt from by first | exact oz_2da8b60292 k80_19 e261 k80_15 e122 hsb_e267.2 | omega) (show 6 * (cf245 48).toInt ≤ 6 * (cf 48).toInt + (wp - (wr_80 - wv112)) from by omega) (show 4 ≤ (cf245 42).toInt from by first | exact oz_6ca5c2d626 e255 e227 tz142 e127 k80_15 | omega) (show 0 ≤ (cf245 54).toInt from by first | exact oz_ecc8fd4544 e262 e217 e131 k80_16 | omega) (show (cf245 54).toInt ≤ 4 * ((cf245 42).toInt - 4) from by first | exact oz_2184f957c1 e255 e262 e227 e219 e131 tz142 k80_17 e127 | omega) (show (cf245 54).toInt ≤ 4096 * ((cf245 48).toInt - (cf 48).toInt) from by first | exact oz_8173734d0d k80_18 e261 e262 e122 e131 e218 hsb_e267.2 | omega) (show (cf245 42).toInt - 4 ≤ 4096 * ((cf245 48).toInt - (cf 48).toInt) from by first | exact oz_dffa147a41 k80_19 e255 e261 e122 e127 e227 hsb_e267.2 tz142 | omega) (show x80_4.toInt = (cf 33).toInt from by first | exact k80_20 | omega) (show x80_5.toInt = (cf 37).toInt from by first | exact k80_21 | omega) (show nd.toInt + 1 ≤ md111 from by omega) (show md111 ≤ m1 from by omega) (show 0 ≤ (wr_80 - wv112) from by omega) (show (wr_80 - wv112) ≤ wp from by omega) (show KnT (tf 6).toInt ca246 (cf245 33).toInt from (KnT.eq hkt (by omega))) (show KnS ca246 (cf245 33).toInt (cf245 48).toInt ys from (KnS.eq hks (by omega) (by omega))) (show CaG ca ca246 (cf 33).toInt (cf 48).toInt from (hcg.le (by omega) (by omega))) (show SyR ca246 ys (cf245 48).toInt (cf245 54).toInt tx from (SyR.eq hsr (by omega) (by omega))) (show Ann na ma0 ma239 from han) (show FrC lo hi ma ma239 from hfc) (show RvP ta (tf 6).toInt na ma0 md111 m1 (wr_80 - wv112) z269 from (by rw [ez269]; exact hrp2)) (show PrS ca246 (cf245 48).toInt ys na ma239 lo md111 (na 17 nd.toNatClampNeg) z269 from (PrS.nx (PrS.to hprs (by omega) (Int.le_refl _) (by omega)) (by omega) hv_18_x80_6 (by omega) (by omega) (Or.inl ⟨by omega, hsy⟩) ez269)) (show ZFu cf245 ta na ca p0 from (fun zz => hzfu (by have q9 : (cf245 30).toInt = 0 := zz; omega))) (show K_mp_checkFunction_80 d tf ta na p0 ma cf ca ma239 cf245 ca246 x80_4 x80_5 z269 nd from (fun y_f0 y_f1 y_f2 k hE => k80_35 y_f0 y_f1 y_f2 (k + 1) (Or.inr (Or.inl ⟨rfl, x80_4, x80_5, x80_6, nd, rfl, rfl, rfl, rfl, rfl, Or.inr ⟨nc1, z113, ez113, cf115, e136, z137, ez137, Or.inl ⟨nc138, z142, ez142, z143, ez143, Or.inr ⟨nc144, cf211, ca212, v214, e238, ma239, hu_ma239, z240, ez240, v214, ez242, cf245, ca246, e268, z269, ez269, hE⟩⟩⟩⟩)))) (show m1 - md111 < (n_80 : Int) from by omega) hw (lv_sub hl [3, 4, 5, 6, 7, 0] rfl))
              · exact absurd c208 (by decide)
          · exact absurd c140 (by decide)
        · have nc138 : ¬ z137.toInt < (0 : Int) := mt (i_lt (x := z137) (y := 0)).mpr c138
          refine lv_iconst (v := 1) S.x S.b d_Mpg_checkFunction_106 (by decide) ?_
          refine lv_goto (tgt := 111) S.x S.b d_Mpg_checkFunction_107 (by decide) ?_
          refine lv_istore (lv' := [(7, .int 1), (0, .ref h), (1, .int p0), (2, .int nd), (4, .int x80_4), (5, .int x80_5), (6, .int x80_6)]) S.x S.b d_Mpg_checkFunction_111 hl (by decide) rfl (fun ls hl => ?_)
          refine lv_aload_n S.x S.b d_Mpg_checkFunction_113 rfl (lv_at hl 1 rfl) ?_
          refine lv_aload_n S.x S.b d_Mpg_checkFunction_114 rfl (lv_at hl 1 rfl) ?_
          refine gP_42 (v := (cf115 42)) S hT hw 0 rfl rfl m10_33 d_Mpg_checkFunction_115 ?_
          refine lv_iload S.x S.b d_Mpg_checkFunction_118 (lv_at hl 0 rfl) ?_
          refine lv_if_eq (tgt := 127) S.x S.b d_Mpg_checkFunction_120 (by decide) (fun c270 => ?_) (fun c270 => ?_)
          · exact absurd c270 (by decide)
          ·
            refine lv_iconst (v := 2) S.x S.b d_Mpg_checkFunction_123 (by decide) ?_
            refine lv_goto (tgt := 128) S.x S.b d_Mpg_checkFunction_124 (by decide) ?_
            refine lv_iadd S.x S.b d_Mpg_checkFunction_128 ?_
            have lr271 := Int32.le_toInt (cf115 42)
            have ur271 := Int32.toInt_lt (cf115 42)
            refine lv_topi (fun z272 ez272 => ?_)
            have tz272 : z272.toInt = ((cf115 42).toInt + (2 : Int) + 2147483648) % 4294967296 - 2147483648 := by rw [ez272]; exact i_add (cf115 42) 2
            have lz272 := Int32.le_toInt z272
            have uz272 := Int32.toInt_lt z272
            try replace tz272 : z272.toInt = (cf115 42).toInt + (2 : Int) := by omega
            refine pP_42 S hT hw 0 rfl m10_33 rfl rfl rfl d_Mpg_checkFunction_129 (ps' := [wdP cs h r g tf ta pf na ma_80 wa (upd cf115 42 z272) ca_80 ef ea xf xa]) rfl (fun H locs hw => ?_)
            refine lv_aload_n S.x S.b d_Mpg_checkFunction_132 rfl (lv_at hl 1 rfl) ?_
            refine gP_22 S hT hw 0 rfl m10_9 d_Mpg_checkFunction_133 ?_
            refine lv_iload S.x S.b d_Mpg_checkFunction_136 (lv_at hl 6 rfl) ?_
            refine px_iald S hT hw 0 18 (n := 2100) (f := (ma_80 22)) rfl gp_22 (x := x80_6) (vp_in_iff.mpr (by constructor <;> omega)) d_Mpg_checkFunction_138 ?_
            refine lv_topi (fun z273 ez273 => ?_)
            have lz273 := Int32.le_toInt z273
            have uz273 := Int32.toInt_lt z273
            have rz273 : z273.toInt = (ma0 22 x80_6.toNatClampNeg).toInt := (by rw [ez273, Ann.v22 han (by omega)])
            refine lv_iconst (v := 1) S.x S.b d_Mpg_checkFunction_139 (by decide) ?_
            refine lv_icmp_ne (tgt := 147) S.x S.b d_Mpg_checkFunction_140 (by decide) (fun c274 => ?_) (fun c274 => ?_)
            · have nc274 : ¬ z273.toInt = (1 : Int) := mt (i_eq (x := z273) (y := 1)).mpr c274
              refine lv_iconst (v := 0) S.x S.b d_Mpg_checkFunction_147 (by decide) ?_
              refine lv_istore (lv' := [(8, .int 0), (7, .int 1), (0, .ref h), (1, .int p0), (2, .int nd), (4, .int x80_4), (5, .int x80_5), (6, .int x80_6)]) S.x S.b d_Mpg_checkFunction_148 hl (by decide) rfl (fun ls hl => ?_)
              refine lv_aload_n S.x S.b d_Mpg_checkFunction_150 rfl (lv_at hl 2 rfl) ?_
              refine gP_18 S hT hw 0 rfl m10_3 d_Mpg_checkFunction_151 ?_
              refine lv_iload S.x S.b d_Mpg_checkFunction_154 (lv_at hl 7 rfl) ?_
              refine lv_aload_n S.x S.b d_Mpg_checkFunction_156 rfl (lv_at hl 2 rfl) ?_
              refine lv_iload S.x S.b d_Mpg_checkFunction_157 (lv_at hl 1 rfl) ?_
              refine lv_if_eq (tgt := 169) S.x S.b d_Mpg_checkFunction_159 (by decide) (fun c276 => ?_) (fun c276 => ?_)
              · exact absurd c276 (by decide)
              ·
                refine lv_iconst (v := 4) S.x S.b d_Mpg_checkFunction_162 (by decide) ?_
                refine lv_iload S.x S.b d_Mpg_checkFunction_163 (lv_at hl 0 rfl) ?_
                refine lv_iadd S.x S.b d_Mpg_checkFunction_165 ?_
                refine lv_topi (fun z277 ez277 => ?_)
                have tz277 : z277.toInt = ((4 : Int) + (0 : Int) + 2147483648) % 4294967296 - 2147483648 := by rw [ez277]; exact i_add 4 0
                have lz277 := Int32.le_toInt z277
                have uz277 := Int32.toInt_lt z277
                try replace tz277 : z277.toInt = (4 : Int) + (0 : Int) := by omega
                refine lv_goto (tgt := 171) S.x S.b d_Mpg_checkFunction_166 (by decide) ?_
                refine lv_iconst (v := 1) S.x S.b d_Mpg_checkFunction_171 (by decide) ?_
                first | refine px_calli (pr := []) (px_runV (As := [.int z277, .int 1]) (rest := [.int x80_6, .ref (r 18)]) S (c_mp_lay l D cs h r g tf ta pf na ma_80 wa ef ea xf xa (upd cf115 42 z272) ca_80 z277 1  (show 0 ≤ (cf115 48).toInt from (oz_c0af2c5e34 e122 k80_19 g7 k80_15)) (show (cf115 48).toInt < 1100 from by omega) (show 0 ≤ z277.toInt from (oz_49140f3e75 tz277)) (show z277.toInt ≤ 5 from (oz_c5999268bd tz277)) (show 0 ≤ (1 : Int) from oz_19c3a41681) (show (1 : Int) ≤ 4096 from oz_79b5d9fede) (show 0 ≤ (cf115 54).toInt from (oz_f3ebed1ad0 e131 k80_16)) (show (cf115 54).toInt ≤ 40000000 from by omega) htk _) hT (pr := []) (pcs := [wdP cs h r g tf ta pf na ma_80 wa (upd cf115 42 z272) ca_80 ef ea xf xa]) hw px_X.tt (px_recv hT hw 0 0 rfl rfl rfl) m12_189 m12_186 m12_188 ms_12_0 m1_21 q_Mpg_lay ⟨show 0 + 1 ≤ (6 * d + 30) from (oz_87ccaac56f), show 8 + (3 + 11) + 0 ≤ (260 * d + 1200) from (oz_afd8bf942c)⟩ hl.1 rfl (Nat.le_of_ble_eq_true rfl) d_Mpg_checkFunction_172 ⟨Nat.le_of_ble_eq_true rfl, Nat.le_of_ble_eq_true rfl⟩) hw hA (fun v283 p282 H locs hp282 hw => ?_) | (refine px_calli (pr := []) (px_runV (As := [.int z277, .int 1]) (rest := [.int x80_6, .ref (r 18)]) S (c_mp_lay l D cs h r g tf ta pf na ma_80 wa ef ea xf xa (upd cf115 42 z272) ca_80 z277 1  (show 0 ≤ (cf115 48).toInt from by first | exact oz_c0af2c5e34 e122 k80_19 g7 k80_15 | omega) (show (cf115 48).toInt < 1100 from by omega) (show 0 ≤ z277.toInt from by first | exact oz_49140f3e75 tz277 | omega) (show z277.toInt ≤ 5 from by first | exact oz_c5999268bd tz277 | omega) (show 0 ≤ (1 : Int) from by first | exact oz_19c3a41681 | omega) (show (1 : Int) ≤ 4096 from by first | exact oz_79b5d9fede | omega) (show 0 ≤ (cf115 54).toInt from by first | exact oz_f3ebed1ad0 e131 k80_16 | omega) (show (cf115 54).toInt ≤ 40000000 from by omega) htk _) hT (pr := []) (pcs := [wdP cs h r g tf ta pf na ma_80 wa (upd cf115 42 z272) ca_80 ef ea xf xa]) hw px_X.tt (px_recv hT hw 0 0 rfl rfl rfl) m12_189 m12_186 m12_188 ms_12_0 m1_21 q_Mpg_lay ⟨show 0 + 1 ≤ (6 * d + 30) from (by first | exact oz_87ccaac56f | omega), show 8 + (3 + 11) + 0 ≤ (260 * d + 1200) from (by first | exact oz_afd8bf942c | omega)⟩ hl.1 rfl (Nat.le_of_ble_eq_true rfl) d_Mpg_checkFunction_172 ⟨Nat.le_of_ble_eq_true rfl, Nat.le_of_ble_eq_true rfl⟩) hw hA (fun v283 p282 H locs hp282 hw => ?_))
                obtain ⟨cf280, ca281, rfl, e284, e285, e286, e287, e288, e289, e290, e291, e292, e293, e294, e295, e296, e297, e298, e299, e300, e301, e302, e303, e304, e305, e306, e307⟩ := hp282
                have e284 : v283.toInt = (cf115 48).toInt := e284
                have e285 : (cf280 48).toInt = (cf115 48).toInt + 1 := e285
                have e286 : (cf115 54).toInt ≤ (cf280 54).toInt := e286
                have e287 : (cf280 54).toInt ≤ (cf115 54).toInt + 4096 := e287
                have e288 : z277.toInt ≤ 3 → (cf280 54).toInt = (cf115 54).toInt + (1 : Int) := e288
                have e289 : 4 ≤ z277.toInt → (cf280 54).toInt = (cf115 54).toInt + 2 := e289
                have e290 : (cf280 30).toInt = (cf115 30).toInt := e290
                have e291 : (cf280 31).toInt = (cf115 31).toInt := e291
                have e292 : (cf280 33).toInt = (cf115 33).toInt := e292
                have e293 : (cf280 37).toInt = (cf115 37).toInt := e293
                have e294 : (cf280 38).toInt = (cf115 38).toInt := e294
                have e295 : (cf280 41).toInt = (cf115 41).toInt := e295
                have e296 : (cf280 42).toInt = z272.toInt := e296
                have e297 : (cf280 43).toInt = (cf115 43).toInt := e297
                have e298 : (cf280 44).toInt = (cf115 44).toInt := e298
                have e299 : (cf280 45).toInt = (cf115 45).toInt := e299
                have e300 : (cf280 46).toInt = (cf115 46).toInt := e300
                have e301 : (cf280 47).toInt = (cf115 47).toInt := e301
                have e302 : (cf280 55).toInt = (cf115 55).toInt := e302
                have e303 : (cf280 57).toInt = (cf115 57).toInt := e303
                have e304 : (cf280 58).toInt = (cf115 58).toInt := e304
                have e305 : (cf280 59).toInt = (cf115 59).toInt := e305
                have e306 : LyU ca_80 ca281 (cf115 48) z277 (cf115 54) (1 : Int32) (txo (cf115 43).toInt) := e306
                have hlu : LyU ca_80 ca281 (cf115 48) z277 (cf115 54) (1 : Int32) tx := (by rw [← htx]; exact (by rw [show nd.toInt = (cf115 43).toInt by omega]; exact e306))
                have hcl_e306 : CaG ca_80 ca281 (cf280 33).toInt (cf115 48).toInt := cag_ly hlu (by omega) (by omega)
                have hsr : SyR ca281 ys (cf280 48).toInt (cf280 54).toInt tx := SyR.eq (SyR.ly (cells' := (cf280 54).toInt) (SyR.eq hsr (ns' := (cf115 48).toInt) (by omega) rfl) hlu rfl (by omega) (by omega) (by omega) ⟨by omega, by omega⟩ ⟨by omega, by omega⟩ (fun q => by omega) (fun q => by omega) (fun q => by omega)) (by omega) rfl
                have hkt := hkt.cg hcl_e306 (by omega)
                have hks := hks.cg hcl_e306 (by omega) (by omega) (n2 := (cf280 48).toInt) (by omega)
                have hcg := hcg.tr hcl_e306 (by omega) (by omega)
                have hft := hft.cg hcl_e306
                have hfp := hfp.cg hcl_e306
                have hprs : PrS ca281 (cf280 48).toInt ys na ma_80 lo mid_80 (na 17 nd.toNatClampNeg) x80_6 := PrS.tr hprs (FrC.rf (lo := 0) (hi := 0)) (by omega) hcl_e306 (by omega) (by omega)
                have hzfu : ZFu cf280 ta na ca p0 := (fun q9 => hzfu (by omega))
                have hs49 : (ca281 49 (cf115 48).toNatClampNeg).toInt = z277.toInt := (by rw [hlu.2.1 (by omega) (by omega)])
                have hs52 : (ca281 52 (cf115 48).toNatClampNeg).toInt = (1 : Int) := (by rw [hlu.2.2.2.1]; rfl)
                have hsy : SyA ca281 (cf280 48).toInt ys (cf115 48) := hlu.sa (by omega) (by omega) ⟨by omega, by omega⟩ (by omega)
                have e307 : R_mp_lay z277 (1 : Int32) (upd cf115 42 z272) ca_80 cf280 ca281 v283 := e307
                have hwr : WrV cf280 (tf 6).toInt := WrV.eq hwr (by omega) (by omega)
                have lv283 := Int32.le_toInt v283
                have uv283 := Int32.toInt_lt v283
                have hyv : (cf115 48) = v283 := i_eq.mpr (by omega); rw [hyv] at hsy hs49 hs52
                refine px_iast S hT hw 0 14 (n := 2100) (f := (ma_80 18)) (x := x80_6) (y := v283) rfl gp_18 (vp_in_iff.mpr (by constructor <;> omega)) d_Mpg_checkFunction_175 (w' := wdP cs h r g tf ta pf na (va_up ma_80 18 (upd (ma_80 18) x80_6.toNatClampNeg v283)) wa cf280 ca281 ef ea xf xa) (ps' := [wdP cs h r g tf ta pf na (va_up ma_80 18 (upd (ma_80 18) x80_6.toNatClampNeg v283)) wa cf280 ca281 ef ea xf xa]) sp_18 rfl (fun H locs hw => ?_)
                obtain ⟨ma308, hu_ma308⟩ : ∃ y : Nat → Nat → Int32, y = va_up ma_80 18 (upd (ma_80 18) x80_6.toNatClampNeg v283) := ⟨_, rfl⟩
                have hw : pw D A s.heap _ _ [wdP cs h r g tf ta pf na ma308 wa cf280 ca281 ef ea xf xa] := (by rw [hu_ma308]; exact hw)
                have hf1_ma308 : FrC x80_6.toInt (x80_6.toInt + 1) ma_80 ma308 := (by rw [hu_ma308]; exact FrC.w FrC.rf (by omega) (by omega) (by omega))
                have han : Ann na ma0 ma308 := (by rw [hu_ma308]; exact Ann.w18 han (by omega))
                have hfc := hfc.tr hf1_ma308 (by omega) (by omega)
                have hprs : PrS ca281 (cf280 48).toInt ys na ma308 lo mid_80 (na 17 nd.toNatClampNeg) x80_6 := PrS.tr hprs hf1_ma308 (by omega) (CaG.rf (kn := 0) (ns := 5000)) (by omega) (by omega)
                have hzfu : ZFu cf280 ta na ca p0 := (fun q9 => hzfu (by omega))
                have hv_18_x80_6 : ma308 18 x80_6.toNatClampNeg = v283 := (by rw [hu_ma308, va_up_s, pk_us])
                have hnhv_18_x80_6 : (ma308 18 x80_6.toNatClampNeg).toInt = v283.toInt := (by rw [hv_18_x80_6])
                refine lv_aload_n S.x S.b d_Mpg_checkFunction_176 rfl (lv_at hl 2 rfl) ?_
                refine lv_aload_n S.x S.b d_Mpg_checkFunction_177 rfl (lv_at hl 2 rfl) ?_
                refine gP_15 S hT hw 0 rfl m9_239 d_Mpg_checkFunction_178 ?_
                refine lv_iload S.x S.b d_Mpg_checkFunction_181 (lv_at hl 7 rfl) ?_
                refine px_iald S hT hw 0 11 (n := 2100) (f := (na 15)) rfl gp_15 (x := x80_6) (vp_in_iff.mpr (by constructor <;> omega)) d_Mpg_checkFunction_183 ?_
                refine lv_topi (fun z309 ez309 => ?_)
                have lz309 := Int32.le_toInt z309
                have uz309 := Int32.toInt_lt z309
                have rz309 := PaV.tok hpa_x80_6 ez309
                refine lv_iload S.x S.b d_Mpg_checkFunction_184 (lv_at hl 1 rfl) ?_
                refine lv_if_ne (tgt := 193) S.x S.b d_Mpg_checkFunction_186 (by decide) (fun c310 => ?_) (fun c310 => ?_)
                ·
                  refine lv_aload_n S.x S.b d_Mpg_checkFunction_193 rfl (lv_at hl 2 rfl) ?_
                  refine gP_22 S hT hw 0 rfl m10_9 d_Mpg_checkFunction_194 ?_
                  refine lv_iload S.x S.b d_Mpg_checkFunction_197 (lv_at hl 7 rfl) ?_
                  refine px_iald S hT hw 0 18 (n := 2100) (f := (ma308 22)) rfl gp_22 (x := x80_6) (vp_in_iff.mpr (by constructor <;> omega)) d_Mpg_checkFunction_199 ?_
                  refine lv_topi (fun z311 ez311 => ?_)
                  have lz311 := Int32.le_toInt z311
                  have uz311 := Int32.toInt_lt z311
                  have rz311 : z311.toInt = (ma0 22 x80_6.toNatClampNeg).toInt := (by rw [ez311, Ann.v22 han (by omega)])
                  refine lv_iconst (v := 1) S.x S.b d_Mpg_checkFunction_200 (by decide) ?_
                  refine lv_icmp_ne (tgt := 208) S.x S.b d_Mpg_checkFunction_201 (by decide) (fun c312 => ?_) (fun c312 => ?_)
                  · have nc312 : ¬ z311.toInt = (1 : Int) := mt (i_eq (x := z311) (y := 1)).mpr c312
                    refine lv_iconst (v := 2) S.x S.b d_Mpg_checkFunction_208 (by decide) ?_
                    refine lv_iconst (v := 0) S.x S.b d_Mpg_checkFunction_209 (by decide) ?_
                    refine lv_aload_n S.x S.b d_Mpg_checkFunction_210 rfl (lv_at hl 2 rfl) ?_
                    refine gP_18 S hT hw 0 rfl m10_3 d_Mpg_checkFunction_211 ?_
                    refine lv_iload S.x S.b d_Mpg_checkFunction_214 (lv_at hl 7 rfl) ?_
                    refine px_iald S hT hw 0 14 (n := 2100) (f := (ma308 18)) rfl gp_18 (x := x80_6) (vp_in_iff.mpr (by constructor <;> omega)) d_Mpg_checkFunction_216 ?_
                    refine lv_topi (fun z314 ez314 => ?_)
                    have lz314 := Int32.le_toInt z314
                    have uz314 := Int32.toInt_lt z314
                    have hsz314 : v283 = z314 := (ez314.trans hv_18_x80_6).symm; subst hsz314
                    first | refine px_callv (pr := []) (px_runV (As := [.int z309, .int 2, .int 0, .int v283]) (rest := []) S (c_mp_know l D cs h r g tf ta pf na ma308 wa ef ea xf xa cf280 ca281 z309 2 0 v283  (show 0 ≤ (cf280 33).toInt from (oz_9bcc310e9c e292 e120 k80_11 g4)) (show (cf280 33).toInt < 1100 from by omega) htk _) hT (pr := []) (pcs := [wdP cs h r g tf ta pf na ma308 wa cf280 ca281 ef ea xf xa]) hw px_X.tt (px_recv hT hw 0 0 rfl rfl rfl) m12_193 m12_190 m12_192 ms_12_1 m1_21 q_Mpg_know ⟨show 0 + 1 ≤ (6 * d + 30) from (oz_87ccaac56f), show 8 + (5 + 11) + 0 ≤ (260 * d + 1200) from (oz_2ffb131b77)⟩ hl.1 rfl (Nat.le_of_ble_eq_true rfl) d_Mpg_checkFunction_217 ⟨Nat.le_of_ble_eq_true rfl, Nat.le_of_ble_eq_true rfl⟩) hw hA (fun p319 H locs hp319 hw => ?_) | (refine px_callv (pr := []) (px_runV (As := [.int z309, .int 2, .int 0, .int v283]) (rest := []) S (c_mp_know l D cs h r g tf ta pf na ma308 wa ef ea xf xa cf280 ca281 z309 2 0 v283  (show 0 ≤ (cf280 33).toInt from by first | exact oz_9bcc310e9c e292 e120 k80_11 g4 | omega) (show (cf280 33).toInt < 1100 from by omega) htk _) hT (pr := []) (pcs := [wdP cs h r g tf ta pf na ma308 wa cf280 ca281 ef ea xf xa]) hw px_X.tt (px_recv hT hw 0 0 rfl rfl rfl) m12_193 m12_190 m12_192 ms_12_1 m1_21 q_Mpg_know ⟨show 0 + 1 ≤ (6 * d + 30) from (by first | exact oz_87ccaac56f | omega), show 8 + (5 + 11) + 0 ≤ (260 * d + 1200) from (by first | exact oz_2ffb131b77 | omega)⟩ hl.1 rfl (Nat.le_of_ble_eq_true rfl) d_Mpg_checkFunction_217 ⟨Nat.le_of_ble_eq_true rfl, Nat.le_of_ble_eq_true rfl⟩) hw hA (fun p319 H locs hp319 hw => ?_))
                    obtain ⟨cf317, ca318, rfl, e321, e322, e323, e324, e325, e326, e327, e328, e329, e330, e331, e332, e333, e334, e335, e336, e337, e338, e339, e340⟩ := hp319
                    have e321 : (cf317 33).toInt = (cf280 33).toInt + 1 := e321
                    have e322 : (cf317 30).toInt = (cf280 30).toInt := e322
                    have e323 : (cf317 31).toInt = (cf280 31).toInt := e323
                    have e324 : (cf317 37).toInt = (cf280 37).toInt := e324
                    have e325 : (cf317 38).toInt = (cf280 38).toInt := e325
                    have e326 : (cf317 41).toInt = (cf280 41).toInt := e326
                    have e327 : (cf317 42).toInt = (cf280 42).toInt := e327
                    have e328 : (cf317 43).toInt = (cf280 43).toInt := e328
                    have e329 : (cf317 44).toInt = (cf280 44).toInt := e329
                    have e330 : (cf317 45).toInt = (cf280 45).toInt := e330
                    have e331 : (cf317 46).toInt = (cf280 46).toInt := e331
                    have e332 : (cf317 47).toInt = (cf280 47).toInt := e332
                    have e333 : (cf317 48).toInt = (cf280 48).toInt := e333
                    have e334 : (cf317 54).toInt = (cf280 54).toInt := e334
                    have e335 : (cf317 55).toInt = (cf280 55).toInt := e335
                    have e336 : (cf317 57).toInt = (cf280 57).toInt := e336
                    have e337 : (cf317 58).toInt = (cf280 58).toInt := e337
                    have e338 : (cf317 59).toInt = (cf280 59).toInt := e338
                    have e339 : KwU ca281 ca318 (cf280 33) z309 (2 : Int32) (0 : Int32) v283 := e339
                    have hcw_e339 : CaG ca281 ca318 (cf280 33).toInt (cf317 48).toInt := cag_kw e339 (by omega) (by omega)
                    have hkt : KnT (tf 6).toInt ca318 (cf317 33).toInt := KnT.eq (KnT.kw (KnT.eq hkt (n' := (cf280 33).toInt) (by omega)) e339 rfl (by omega) (by omega) ⟨by omega, by omega⟩) (by omega)
                    have hks : KnS ca318 (cf317 33).toInt (cf317 48).toInt ys := KnS.eq (KnS.kw (KnS.eq hks (n' := (cf280 33).toInt) (by omega) rfl) e339 rfl (by omega) (Or.inr (Or.inl ⟨by omega, hsy⟩))) (by omega) (by omega)
                    have hcg := hcg.tr hcw_e339 (by omega) (by omega)
                    have hft := hft.cg hcw_e339
                    have hfp := hfp.cg hcw_e339
                    have hsr := hsr.cg hcw_e339 (by omega)
                    have hprs : PrS ca318 (cf317 48).toInt ys na ma308 lo mid_80 (na 17 nd.toNatClampNeg) x80_6 := PrS.tr hprs (FrC.rf (lo := 0) (hi := 0)) (by omega) hcw_e339 (by omega) (by omega)
                    have hzfu : ZFu cf317 ta na ca p0 := (fun q9 => hzfu (by omega))
                    have hsb_e339 := hsy.1.1
                    first | have hcy_e339 := cl_nat (x := v283) ((oz_f3ebed1ad0 e284 hsb_e339.1)) | (have hcy_e339 := cl_nat (x := v283) (by first | exact oz_f3ebed1ad0 e284 hsb_e339.1 | omega))
                    have hs49 : (ca318 49 v283.toNatClampNeg).toInt = _ := (congrArg Int32.toInt (hcw_e339.2.2 _ (by omega)).1).trans hs49
                    have hs52 : (ca318 52 v283.toNatClampNeg).toInt = _ := (congrArg Int32.toInt (hcw_e339.2.2 _ (by omega)).2.2.2).trans hs52
                    have hsy : SyA ca318 (cf317 48).toInt ys v283 := hsy.cg hcw_e339 (by omega) (by omega)
                    have e340 : R_mp_know z309 (2 : Int32) (0 : Int32) v283 cf280 ca281 cf317 ca318 := e340
                    have hwr : WrV cf317 (tf 6).toInt := WrV.eq hwr (by omega) (by omega)
                    refine lv_aload_n S.x S.b d_Mpg_checkFunction_220 rfl (lv_at hl 2 rfl) ?_
                    refine gP_21 S hT hw 0 rfl m10_7 d_Mpg_checkFunction_221 ?_
                    refine lv_iload S.x S.b d_Mpg_checkFunction_224 (lv_at hl 7 rfl) ?_
                    refine px_iald S hT hw 0 17 (n := 2100) (f := (na 21)) rfl gp_21 (x := x80_6) (vp_in_iff.mpr (by constructor <;> omega)) d_Mpg_checkFunction_226 ?_
                    refine lv_topi (fun z341 ez341 => ?_)
                    have lz341 := Int32.le_toInt z341
                    have uz341 := Int32.toInt_lt z341
                    refine lv_istore (lv' := [(6, .int z341), (8, .int 0), (7, .int 1), (0, .ref h), (1, .int p0), (2, .int nd), (4, .int x80_4), (5, .int x80_5)]) S.x S.b d_Mpg_checkFunction_227 hl (by decide) rfl (fun ls hl => ?_)
                    refine lv_goto (tgt := 80) S.x S.b d_Mpg_checkFunction_229 (by decide) ?_
                    first | exact ih80 ma308 cf317 ca318 md111 (wr_80 - wv112) x80_4 x80_5 z341 _ _ ls (show (cf317 30).toInt = 0 → (cf 30).toInt = 0 from by omega) (show WrV cf317 (tf 6).toInt from hwr) (show (cf317 38).toInt = (cf 38).toInt from (oz_ff3084e3c1 k80_2 e325 e121 e294)) (show (cf317 44).toInt = (cf 44).toInt from (oz_ff3084e3c1 k80_3 e329 e129 e298)) (show (cf317 45).toInt = (cf 45).toInt from (oz_ff3084e3c1 k80_4 e330 e130 e299)) (show (cf317 46).toInt = (cf 46).toInt from (oz_ff3084e3c1 k80_5 e331 e123 e300)) (show (cf317 47).toInt = (cf 47).toInt from (oz_ff3084e3c1 k80_6 e332 e124 e301)) (show (cf317 41).toInt = (cf 41).toInt from (oz_ff3084e3c1 k80_7 e326 e135 e295)) (show (cf317 55).toInt = (cf 55).toInt from (oz_ff3084e3c1 k80_8 e335 e132 e302)) (show (cf317 37).toInt = (cf 33).toInt from (oz_ff3084e3c1 k80_9 e324 e126 e293)) (show (cf317 43).toInt = nd.toInt from (oz_ff3084e3c1 k80_10 e328 e128 e297)) (show (cf 33).toInt ≤ (cf317 33).toInt from (oz_6e66b3a32a k80_11 e321 e120 e292)) (show 6 * (cf317 33).toInt ≤ 6 * (cf 33).toInt + (wp - (wr_80 - wv112)) from by omega) (show (cf 48).toInt ≤ (cf317 48).toInt from (oz_2da8b60292 k80_19 e333 k80_15 e122 hsb_e339.2)) (show 6 * (cf317 48).toInt ≤ 6 * (cf 48).toInt + (wp - (wr_80 - wv112)) from by omega) (show 4 ≤ (cf317 42).toInt from (oz_c55b6a1f99 e327 e296 tz272 e127 k80_15)) (show 0 ≤ (cf317 54).toInt from (oz_ecc8fd4544 e334 e286 e131 k80_16)) (show (cf317 54).toInt ≤ 4 * ((cf317 42).toInt - 4) from (oz_dcdcbe9638 e327 e334 e296 tz277 e289 e131 tz272 k80_17 e127)) (show (cf317 54).toInt ≤ 4096 * ((cf317 48).toInt - (cf 48).toInt) from (oz_8173734d0d k80_18 e333 e334 e122 e131 e287 hsb_e339.2)) (show (cf317 42).toInt - 4 ≤ 4096 * ((cf317 48).toInt - (cf 48).toInt) from (oz_22c2709563 k80_19 e327 e333 e122 e127 e296 hsb_e339.2 tz272)) (show x80_4.toInt = (cf 33).toInt from k80_20) (show x80_5.toInt = (cf 37).toInt from k80_21) (show nd.toInt + 1 ≤ md111 from by omega) (show md111 ≤ m1 from by omega) (show 0 ≤ (wr_80 - wv112) from by omega) (show (wr_80 - wv112) ≤ wp from by omega) (show KnT (tf 6).toInt ca318 (cf317 33).toInt from (KnT.eq hkt (by omega))) (show KnS ca318 (cf317 33).toInt (cf317 48).toInt ys from (KnS.eq hks (by omega) (by omega))) (show CaG ca ca318 (cf 33).toInt (cf 48).toInt from (hcg.le (by omega) (by omega))) (show SyR ca318 ys (cf317 48).toInt (cf317 54).toInt tx from (SyR.eq hsr (by omega) (by omega))) (show Ann na ma0 ma308 from han) (show FrC lo hi ma ma308 from hfc) (show RvP ta (tf 6).toInt na ma0 md111 m1 (wr_80 - wv112) z341 from (by rw [ez341]; exact hrp2)) (show PrS ca318 (cf317 48).toInt ys na ma308 lo md111 (na 17 nd.toNatClampNeg) z341 from (PrS.nx (PrS.to hprs (by omega) (Int.le_refl _) (by omega)) (by omega) hv_18_x80_6 (by omega) (by omega) (Or.inr ⟨by omega, hsy, by omega⟩) ez341)) (show ZFu cf317 ta na ca p0 from (fun zz => hzfu (by have q9 : (cf317 30).toInt = 0 := zz; omega))) (show K_mp_checkFunction_80 d tf ta na p0 ma cf ca ma308 cf317 ca318 x80_4 x80_5 z341 nd from (fun y_f0 y_f1 y_f2 k hE => k80_35 y_f0 y_f1 y_f2 (k + 1) (Or.inr (Or.inl ⟨rfl, x80_4, x80_5, x80_6, nd, rfl, rfl, rfl, rfl, rfl, Or.inr ⟨nc1, z113, ez113, cf115, e136, z137, ez137, Or.inr ⟨nc138, z272, ez272, z273, ez273, Or.inl ⟨nc274, z277, ez277, cf280, ca281, v283, e307, ma308, hu_ma308, z309, ez309, z311, ez311, Or.inl ⟨nc312, v283, ez314, cf317, ca318, e340, z341, ez341, hE⟩⟩⟩⟩⟩)))) (show m1 - md111 < (n_80 : Int) from by omega) hw (lv_sub hl [3, 4, 5, 6, 7, 0] rfl) | (exact ih80 ma308 cf317 ca318 md111 (wr_80 - wv112) x80_4 x80_5 z341 _ _ ls (show (cf317 30).toInt = 0 → (cf 30).toInt = 0 from by omega) (show WrV cf317 (tf 6).toInt from hwr) (show (cf317 38).toInt = (cf 38).toInt from by first | exact oz_ff3084e3c1 k80_2 e325 e121 e294 | omega) (show (cf317 44).toInt = (cf 44).toInt from by first | exact oz_ff3084e3c1 k80_3 e329 e129 e298 | omega) (show (cf317 45).toInt = (cf 45).toInt from by first | exact oz_ff3084e3c1 k80_4 e330 e130 e299 | omega) (show (cf317 46).toInt = (cf 46).toInt from by first | exact oz_ff3084e3c1 k80_5 e331 e123 e300 | omega) (show (cf317 47).toInt = (cf 47).toInt from by first | exact oz_ff3084e3c1 k80_6 e332 e124 e301 | omega) (show (cf317 41).toInt = (cf 41).toInt from by first | exact oz_ff3084e3c1 k80_7 e326 e135 e295 | omega) (show (cf317 55).toInt = (cf 55).toInt from by first | exact oz_ff3084e3c1 k80_8 e335 e132 e302 | omega) (show (cf317 37).toInt = (cf 33).toInt from by first | exact oz_ff3084e3c1 k80_9 e324 e126 e293 | omega) (show (cf317 43).toInt = nd.toInt from by first | exact oz_ff3084e3c1 k80_10 e328 e128 e297 | omega) (show (cf 33).toInt ≤ (cf317 33).toInt from by first | exact oz_6e66b3a32a k80_11 e321 e120 e292 | omega) (show 6 * (cf317 33).toInt ≤ 6 * (cf 33).toInt + (wp - (wr_80 - wv112)) from by omega) (show (cf 48).toInt ≤ (cf317 48).toInt from by first | exact oz_2da8b60292 k80_19 e333 k80_15 e122 hsb_e339.2 | omega) (show 6 * (cf317 48).toInt ≤ 6 * (cf 48).toInt + (wp - (wr_80 - wv112)) from by omega) (show 4 ≤ (cf317 42).toInt from by first | exact oz_c55b6a1f99 e327 e296 tz272 e127 k80_15 | omega) (show 0 ≤ (cf317 54).toInt from by first | exact oz_ecc8fd4544 e334 e286 e131 k80_16 | omega) (show (cf317 54).toInt ≤ 4 * ((cf317 42).toInt - 4) from by first | exact oz_dcdcbe9638 e327 e334 e296 tz277 e289 e131 tz272 k80_17 e127 | omega) (show (cf317 54).toInt ≤ 4096 * ((cf317 48).toInt - (cf 48).toInt) from by first | exact oz_8173734d0d k80_18 e333 e334 e122 e131 e287 hsb_e339.2 | omega) (show (cf317 42).toInt - 4 ≤ 4096 * ((cf317 48).toInt - (cf 48).toInt) from by first | exact oz_22c2709563 k80_19 e327 e333 e122 e127 e296 hsb_e339.2 tz272 | omega) (show x80_4.toInt = (cf 33).toInt from by first | exact k80_20 | omega) (show x80_5.toInt = (cf 37).toInt from by first | exact k80_21 | omega) (show nd.toInt + 1 ≤ md111 from by omega) (show md111 ≤ m1 from by omega) (show 0 ≤ (wr_80 - wv112) from by omega) (show (wr_80 - wv112) ≤ wp from by omega) (show KnT (tf 6).toInt ca318 (cf317 33).toInt from (KnT.eq hkt (by omega))) (show KnS ca318 (cf317 33).toInt (cf317 48).toInt ys from (KnS.eq hks (by omega) (by omega))) (show CaG ca ca318 (cf 33).toInt (cf 48).toInt from (hcg.le (by omega) (by omega))) (show SyR ca318 ys (cf317 48).toInt (cf317 54).toInt tx from (SyR.eq hsr (by omega) (by omega))) (show Ann na ma0 ma308 from han) (show FrC lo hi ma ma308 from hfc) (show RvP ta (tf 6).toInt na ma0 md111 m1 (wr_80 - wv112) z341 from (by rw [ez341]; exact hrp2)) (show PrS ca318 (cf317 48).toInt ys na ma308 lo md111 (na 17 nd.toNatClampNeg) z341 from (PrS.nx (PrS.to hprs (by omega) (Int.le_refl _) (by omega)) (by omega) hv_18_x80_6 (by omega) (by omega) (Or.inr ⟨by omega, hsy, by omega⟩) ez341)) (show ZFu cf317 ta na ca p0 from (fun zz => hzfu (by have q9 : (cf317 30).toInt = 0 := zz; omega))) (show K_mp_checkFunction_80 d tf ta na p0 ma cf ca ma308 cf317 ca318 x80_4 x80_5 z341 nd from (fun y_f0 y_f1 y_f2 k hE => k80_35 y_f0 y_f1 y_f2 (k + 1) (Or.inr (Or.inl ⟨rfl, x80_4, x80_5, x80_6, nd, rfl, rfl, rfl, rfl, rfl, Or.inr ⟨nc1, z113, ez113, cf115, e136, z137, ez137, Or.inr ⟨nc138, z272, ez272, z273, ez273, Or.inl ⟨nc274, z277, ez277, cf280, ca281, v283, e307, ma308, hu_ma308, z309, ez309, z311, ez311, Or.inl ⟨nc312, v283, ez314, cf317, ca318, e340, z341, ez341, hE⟩⟩⟩⟩⟩)))) (show m1 - md111 < (n_80 : Int) from by omega) hw (lv_sub hl [3, 4, 5, 6, 7, 0] rfl))
                  · have nc312 : z311.toInt = (1 : Int) := (i_eq (x := z311) (y := 1)).mp c312
                    refine lv_iconst (v := 3) S.x S.b d_Mpg_checkFunction_204 (by decide) ?_
                    refine lv_goto (tgt := 209) S.x S.b d_Mpg_checkFunction_205 (by decide) ?_
                    refine lv_iconst (v := 0) S.x S.b d_Mpg_checkFunction_209 (by decide) ?_
                    refine lv_aload_n S.x S.b d_Mpg_checkFunction_210 rfl (lv_at hl 2 rfl) ?_
                    refine gP_18 S hT hw 0 rfl m10_3 d_Mpg_checkFunction_211 ?_
                    refine lv_iload S.x S.b d_Mpg_checkFunction_214 (lv_at hl 7 rfl) ?_
                    refine px_iald S hT hw 0 14 (n := 2100) (f := (ma308 18)) rfl gp_18 (x := x80_6) (vp_in_iff.mpr (by constructor <;> omega)) d_Mpg_checkFunction_216 ?_
                    refine lv_topi (fun z342 ez342 => ?_)
                    have lz342 := Int32.le_toInt z342
                    have uz342 := Int32.toInt_lt z342
                    have hsz342 : v283 = z342 := (ez342.trans hv_18_x80_6).symm; subst hsz342
                    first | refine px_callv (pr := []) (px_runV (As := [.int z309, .int 3, .int 0, .int v283]) (rest := []) S (c_mp_know l D cs h r g tf ta pf na ma308 wa ef ea xf xa cf280 ca281 z309 3 0 v283  (show 0 ≤ (cf280 33).toInt from (oz_9bcc310e9c e292 e120 k80_11 g4)) (show (cf280 33).toInt < 1100 from by omega) htk _) hT (pr := []) (pcs := [wdP cs h r g tf ta pf na ma308 wa cf280 ca281 ef ea xf xa]) hw px_X.tt (px_recv hT hw 0 0 rfl rfl rfl) m12_193 m12_190 m12_192 ms_12_1 m1_21 q_Mpg_know ⟨show 0 + 1 ≤ (6 * d + 30) from (oz_87ccaac56f), show 8 + (5 + 11) + 0 ≤ (260 * d + 1200) from (oz_2ffb131b77)⟩ hl.1 rfl (Nat.le_of_ble_eq_true rfl) d_Mpg_checkFunction_217 ⟨Nat.le_of_ble_eq_true rfl, Nat.le_of_ble_eq_true rfl⟩) hw hA (fun p347 H locs hp347 hw => ?_) | (refine px_callv (pr := []) (px_runV (As := [.int z309, .int 3, .int 0, .int v283]) (rest := []) S (c_mp_know l D cs h r g tf ta pf na ma308 wa ef ea xf xa cf280 ca281 z309 3 0 v283  (show 0 ≤ (cf280 33).toInt from by first | exact oz_9bcc310e9c e292 e120 k80_11 g4 | omega) (show (cf280 33).toInt < 1100 from by omega) htk _) hT (pr := []) (pcs := [wdP cs h r g tf ta pf na ma308 wa cf280 ca281 ef ea xf xa]) hw px_X.tt (px_recv hT hw 0 0 rfl rfl rfl) m12_193 m12_190 m12_192 ms_12_1 m1_21 q_Mpg_know ⟨show 0 + 1 ≤ (6 * d + 30) from (by first | exact oz_87ccaac56f | omega), show 8 + (5 + 11) + 0 ≤ (260 * d + 1200) from (by first | exact oz_2ffb131b77 | omega)⟩ hl.1 rfl (Nat.le_of_ble_eq_true rfl) d_Mpg_checkFunction_217 ⟨Nat.le_of_ble_eq_true rfl, Nat.le_of_ble_eq_true rfl⟩) hw hA (fun p347 H locs hp347 hw => ?_))
                    obtain ⟨cf345, ca346, rfl, e349, e350, e351, e352, e353, e354, e355, e356, e357, e358, e359, e360, e361, e362, e363, e364, e365, e366, e367, e368⟩ := hp347
                    have e349 : (cf345 33).toInt = (cf280 33).toInt + 1 := e349
                    have e350 : (cf345 30).toInt = (cf280 30).toInt := e350
                    have e351 : (cf345 31).toInt = (cf280 31).toInt := e351
                    have e352 : (cf345 37).toInt = (cf280 37).toInt := e352
                    have e353 : (cf345 38).toInt = (cf280 38).toInt := e353
                    have e354 : (cf345 41).toInt = (cf280 41).toInt := e354
                    have e355 : (cf345 42).toInt = (cf280 42).toInt := e355
                    have e356 : (cf345 43).toInt = (cf280 43).toInt := e356
                    have e357 : (cf345 44).toInt = (cf280 44).toInt := e357
                    have e358 : (cf345 45).toInt = (cf280 45).toInt := e358
                    have e359 : (cf345 46).toInt = (cf280 46).toInt := e359
                    have e360 : (cf345 47).toInt = (cf280 47).toInt := e360
                    have e361 : (cf345 48).toInt = (cf280 48).toInt := e361
                    have e362 : (cf345 54).toInt = (cf280 54).toInt := e362
                    have e363 : (cf345 55).toInt = (cf280 55).toInt := e363
                    have e364 : (cf345 57).toInt = (cf280 57).toInt := e364
                    have e365 : (cf345 58).toInt = (cf280 58).toInt := e365
                    have e366 : (cf345 59).toInt = (cf280 59).toInt := e366
                    have e367 : KwU ca281 ca346 (cf280 33) z309 (3 : Int32) (0 : Int32) v283 := e367
                    have hcw_e367 : CaG ca281 ca346 (cf280 33).toInt (cf345 48).toInt := cag_kw e367 (by omega) (by omega)
                    have hkt : KnT (tf 6).toInt ca346 (cf345 33).toInt := KnT.eq (KnT.kw (KnT.eq hkt (n' := (cf280 33).toInt) (by omega)) e367 rfl (by omega) (by omega) ⟨by omega, by omega⟩) (by omega)
                    have hks : KnS ca346 (cf345 33).toInt (cf345 48).toInt ys := KnS.eq (KnS.kw (KnS.eq hks (n' := (cf280 33).toInt) (by omega) rfl) e367 rfl (by omega) (Or.inr (Or.inl ⟨by omega, hsy⟩))) (by omega) (by omega)
                    have hcg := hcg.tr hcw_e367 (by omega) (by omega)
                    have hft := hft.cg hcw_e367
                    have hfp := hfp.cg hcw_e367
                    have hsr := hsr.cg hcw_e367 (by omega)
                    have hprs : PrS ca346 (cf345 48).toInt ys na ma308 lo mid_80 (na 17 nd.toNatClampNeg) x80_6 := PrS.tr hprs (FrC.rf (lo := 0) (hi := 0)) (by omega) hcw_e367 (by omega) (by omega)
                    have hzfu : ZFu cf345 ta na ca p0 := (fun q9 => hzfu (by omega))
                    have hsb_e367 := hsy.1.1
                    first | have hcy_e367 := cl_nat (x := v283) ((oz_f3ebed1ad0 e284 hsb_e367.1)) | (have hcy_e367 := cl_nat (x := v283) (by first | exact oz_f3ebed1ad0 e284 hsb_e367.1 | omega))
                    have hs49 : (ca346 49 v283.toNatClampNeg).toInt = _ := (congrArg Int32.toInt (hcw_e367.2.2 _ (by omega)).1).trans hs49
                    have hs52 : (ca346 52 v283.toNatClampNeg).toInt = _ := (congrArg Int32.toInt (hcw_e367.2.2 _ (by omega)).2.2.2).trans hs52
                    have hsy : SyA ca346 (cf345 48).toInt ys v283 := hsy.cg hcw_e367 (by omega) (by omega)
                    have e368 : R_mp_know z309 (3 : Int32) (0 : Int32) v283 cf280 ca281 cf345 ca346 := e368
                    have hwr : WrV cf345 (tf 6).toInt := WrV.eq hwr (by omega) (by omega)
                    refine lv_aload_n S.x S.b d_Mpg_checkFunction_220 rfl (lv_at hl 2 rfl) ?_
                    refine gP_21 S hT hw 0 rfl m10_7 d_Mpg_checkFunction_221 ?_
                    refine lv_iload S.x S.b d_Mpg_checkFunction_224 (lv_at hl 7 rfl) ?_
                    refine px_iald S hT hw 0 17 (n := 2100) (f := (na 21)) rfl gp_21 (x := x80_6) (vp_in_iff.mpr (by constructor <;> omega)) d_Mpg_checkFunction_226 ?_
                    refine lv_topi (fun z369 ez369 => ?_)
                    have lz369 := Int32.le_toInt z369
                    have uz369 := Int32.toInt_lt z369
                    refine lv_istore (lv' := [(6, .int z369), (8, .int 0), (7, .int 1), (0, .ref h), (1, .int p0), (2, .int nd), (4, .int x80_4), (5, .int x80_5)]) S.x S.b d_Mpg_checkFunction_227 hl (by decide) rfl (fun ls hl => ?_)
                    refine lv_goto (tgt := 80) S.x S.b d_Mpg_checkFunction_229 (by decide) ?_
                    first | exact ih80 ma308 cf345 ca346 md111 (wr_80 - wv112) x80_4 x80_5 z369 _ _ ls (show (cf345 30).toInt = 0 → (cf 30).toInt = 0 from by omega) (show WrV cf345 (tf 6).toInt from hwr) (show (cf345 38).toInt = (cf 38).toInt from (oz_ff3084e3c1 k80_2 e353 e121 e294)) (show (cf345 44).toInt = (cf 44).toInt from (oz_ff3084e3c1 k80_3 e357 e129 e298)) (show (cf345 45).toInt = (cf 45).toInt from (oz_ff3084e3c1 k80_4 e358 e130 e299)) (show (cf345 46).toInt = (cf 46).toInt from (oz_ff3084e3c1 k80_5 e359 e123 e300)) (show (cf345 47).toInt = (cf 47).toInt from (oz_ff3084e3c1 k80_6 e360 e124 e301)) (show (cf345 41).toInt = (cf 41).toInt from (oz_ff3084e3c1 k80_7 e354 e135 e295)) (show (cf345 55).toInt = (cf 55).toInt from (oz_ff3084e3c1 k80_8 e363 e132 e302)) (show (cf345 37).toInt = (cf 33).toInt from (oz_ff3084e3c1 k80_9 e352 e126 e293)) (show (cf345 43).toInt = nd.toInt from (oz_ff3084e3c1 k80_10 e356 e128 e297)) (show (cf 33).toInt ≤ (cf345 33).toInt from (oz_6e66b3a32a k80_11 e349 e120 e292)) (show 6 * (cf345 33).toInt ≤ 6 * (cf 33).toInt + (wp - (wr_80 - wv112)) from by omega) (show (cf 48).toInt ≤ (cf345 48).toInt from (oz_2da8b60292 k80_19 e361 k80_15 e122 hsb_e367.2)) (show 6 * (cf345 48).toInt ≤ 6 * (cf 48).toInt + (wp - (wr_80 - wv112)) from by omega) (show 4 ≤ (cf345 42).toInt from (oz_c55b6a1f99 e355 e296 tz272 e127 k80_15)) (show 0 ≤ (cf345 54).toInt from (oz_ecc8fd4544 e362 e286 e131 k80_16)) (show (cf345 54).toInt ≤ 4 * ((cf345 42).toInt - 4) from (oz_dcdcbe9638 e355 e362 e296 tz277 e289 e131 tz272 k80_17 e127)) (show (cf345 54).toInt ≤ 4096 * ((cf345 48).toInt - (cf 48).toInt) from (oz_8173734d0d k80_18 e361 e362 e122 e131 e287 hsb_e367.2)) (show (cf345 42).toInt - 4 ≤ 4096 * ((cf345 48).toInt - (cf 48).toInt) from (oz_22c2709563 k80_19 e355 e361 e122 e127 e296 hsb_e367.2 tz272)) (show x80_4.toInt = (cf 33).toInt from k80_20) (show x80_5.toInt = (cf 37).toInt from k80_21) (show nd.toInt + 1 ≤ md111 from by omega) (show md111 ≤ m1 from by omega) (show 0 ≤ (wr_80 - wv112) from by omega) (show (wr_80 - wv112) ≤ wp from by omega) (show KnT (tf 6).toInt ca346 (cf345 33).toInt from (KnT.eq hkt (by omega))) (show KnS ca346 (cf345 33).toInt (cf345 48).toInt ys from (KnS.eq hks (by omega) (by omega))) (show CaG ca ca346 (cf 33).toInt (cf 48).toInt from (hcg.le (by omega) (by omega))) (show SyR ca346 ys (cf345 48).toInt (cf345 54).toInt tx from (SyR.eq hsr (by omega) (by omega))) (show Ann na ma0 ma308 from han) (show FrC lo hi ma ma308 from hfc) (show RvP ta (tf 6).toInt na ma0 md111 m1 (wr_80 - wv112) z369 from (by rw [ez369]; exact hrp2)) (show PrS ca346 (cf345 48).toInt ys na ma308 lo md111 (na 17 nd.toNatClampNeg) z369 from (PrS.nx (PrS.to hprs (by omega) (Int.le_refl _) (by omega)) (by omega) hv_18_x80_6 (by omega) (by omega) (Or.inr ⟨by omega, hsy, by omega⟩) ez369)) (show ZFu cf345 ta na ca p0 from (fun zz => hzfu (by have q9 : (cf345 30).toInt = 0 := zz; omega))) (show K_mp_checkFunction_80 d tf ta na p0 ma cf ca ma308 cf345 ca346 x80_4 x80_5 z369 nd from (fun y_f0 y_f1 y_f2 k hE => k80_35 y_f0 y_f1 y_f2 (k + 1) (Or.inr (Or.inl ⟨rfl, x80_4, x80_5, x80_6, nd, rfl, rfl, rfl, rfl, rfl, Or.inr ⟨nc1, z113, ez113, cf115, e136, z137, ez137, Or.inr ⟨nc138, z272, ez272, z273, ez273, Or.inl ⟨nc274, z277, ez277, cf280, ca281, v283, e307, ma308, hu_ma308, z309, ez309, z311, ez311, Or.inr ⟨nc312, v283, ez342, cf345, ca346, e368, z369, ez369, hE⟩⟩⟩⟩⟩)))) (show m1 - md111 < (n_80 : Int) from by omega) hw (lv_sub hl [3, 4, 5, 6, 7, 0] rfl) | (exact ih80 ma308 cf345 ca346 md111 (wr_80 - wv112) x80_4 x80_5 z369 _ _ ls (show (cf345 30).toInt = 0 → (cf 30).toInt = 0 from by omega) (show WrV cf345 (tf 6).toInt from hwr) (show (cf345 38).toInt = (cf 38).toInt from by first | exact oz_ff3084e3c1 k80_2 e353 e121 e294 | omega) (show (cf345 44).toInt = (cf 44).toInt from by first | exact oz_ff3084e3c1 k80_3 e357 e129 e298 | omega) (show (cf345 45).toInt = (cf 45).toInt from by first | exact oz_ff3084e3c1 k80_4 e358 e130 e299 | omega) (show (cf345 46).toInt = (cf 46).toInt from by first | exact oz_ff3084e3c1 k80_5 e359 e123 e300 | omega) (show (cf345 47).toInt = (cf 47).toInt from by first | exact oz_ff3084e3c1 k80_6 e360 e124 e301 | omega) (show (cf345 41).toInt = (cf 41).toInt from by first | exact oz_ff3084e3c1 k80_7 e354 e135 e295 | omega) (show (cf345 55).toInt = (cf 55).toInt from by first | exact oz_ff3084e3c1 k80_8 e363 e132 e302 | omega) (show (cf345 37).toInt = (cf 33).toInt from by first | exact oz_ff3084e3c1 k80_9 e352 e126 e293 | omega) (show (cf345 43).toInt = nd.toInt from by first | exact oz_ff3084e3c1 k80_10 e356 e128 e297 | omega) (show (cf 33).toInt ≤ (cf345 33).toInt from by first | exact oz_6e66b3a32a k80_11 e349 e120 e292 | omega) (show 6 * (cf345 33).toInt ≤ 6 * (cf 33).toInt + (wp - (wr_80 - wv112)) from by omega) (show (cf 48).toInt ≤ (cf345 48).toInt from by first | exact oz_2da8b60292 k80_19 e361 k80_15 e122 hsb_e367.2 | omega) (show 6 * (cf345 48).toInt ≤ 6 * (cf 48).toInt + (wp - (wr_80 - wv112)) from by omega) (show 4 ≤ (cf345 42).toInt from by first | exact oz_c55b6a1f99 e355 e296 tz272 e127 k80_15 | omega) (show 0 ≤ (cf345 54).toInt from by first | exact oz_ecc8fd4544 e362 e286 e131 k80_16 | omega) (show (cf345 54).toInt ≤ 4 * ((cf345 42).toInt - 4) from by first | exact oz_dcdcbe9638 e355 e362 e296 tz277 e289 e131 tz272 k80_17 e127 | omega) (show (cf345 54).toInt ≤ 4096 * ((cf345 48).toInt - (cf 48).toInt) from by first | exact oz_8173734d0d k80_18 e361 e362 e122 e131 e287 hsb_e367.2 | omega) (show (cf345 42).toInt - 4 ≤ 4096 * ((cf345 48).toInt - (cf 48).toInt) from by first | exact oz_22c2709563 k80_19 e355 e361 e122 e127 e296 hsb_e367.2 tz272 | omega) (show x80_4.toInt = (cf 33).toInt from by first | exact k80_20 | omega) (show x80_5.toInt = (cf 37).toInt from by first | exact k80_21 | omega) (show nd.toInt + 1 ≤ md111 from by omega) (show md111 ≤ m1 from by omega) (show 0 ≤ (wr_80 - wv112) from by omega) (show (wr_80 - wv112) ≤ wp from by omega) (show KnT (tf 6).toInt ca346 (cf345 33).toInt from (KnT.eq hkt (by omega))) (show KnS ca346 (cf345 33).toInt (cf345 48).toInt ys from (KnS.eq hks (by omega) (by omega))) (show CaG ca ca346 (cf 33).toInt (cf 48).toInt from (hcg.le (by omega) (by omega))) (show SyR ca346 ys (cf345 48).toInt (cf345 54).toInt tx from (SyR.eq hsr (by omega) (by omega))) (show Ann na ma0 ma308 from han) (show FrC lo hi ma ma308 from hfc) (show RvP ta (tf 6).toInt na ma0 md111 m1 (wr_80 - wv112) z369 from (by rw [ez369]; exact hrp2)) (show PrS ca346 (cf345 48).toInt ys na ma308 lo md111 (na 17 nd.toNatClampNeg) z369 from (PrS.nx (PrS.to hprs (by omega) (Int.le_refl _) (by omega)) (by omega) hv_18_x80_6 (by omega) (by omega) (Or.inr ⟨by omega, hsy, by omega⟩) ez369)) (show ZFu cf345 ta na ca p0 from (fun zz => hzfu (by have q9 : (cf345 30).toInt = 0 := zz; omega))) (show K_mp_checkFunction_80 d tf ta na p0 ma cf ca ma308 cf345 ca346 x80_4 x80_5 z369 nd from (fun y_f0 y_f1 y_f2 k hE => k80_35 y_f0 y_f1 y_f2 (k + 1) (Or.inr (Or.inl ⟨rfl, x80_4, x80_5, x80_6, nd, rfl, rfl, rfl, rfl, rfl, Or.inr ⟨nc1, z113, ez113, cf115, e136, z137, ez137, Or.inr ⟨nc138, z272, ez272, z273, ez273, Or.inl ⟨nc274, z277, ez277, cf280, ca281, v283, e307, ma308, hu_ma308, z309, ez309, z311, ez311, Or.inr ⟨nc312, v283, ez342, cf345, ca346, e368, z369, ez369, hE⟩⟩⟩⟩⟩)))) (show m1 - md111 < (n_80 : Int) from by omega) hw (lv_sub hl [3, 4, 5, 6, 7, 0] rfl))
                · exact absurd c310 (by decide)
            · have nc274 : z273.toInt = (1 : Int) := (i_eq (x := z273) (y := 1)).mp c274
              refine lv_iconst (v := 1) S.x S.b d_Mpg_checkFunction_143 (by decide) ?_
              refine lv_goto (tgt := 148) S.x S.b d_Mpg_checkFunction_144 (by decide) ?_
              refine lv_istore (lv' := [(8, .int 1), (7, .int 1), (0, .ref h), (1, .int p0), (2, .int nd), (4, .int x80_4), (5, .int x80_5), (6, .int x80_6)]) S.x S.b d_Mpg_checkFunction_148 hl (by decide) rfl (fun ls hl => ?_)
              refine lv_aload_n S.x S.b d_Mpg_checkFunction_150 rfl (lv_at hl 2 rfl) ?_
              refine gP_18 S hT hw 0 rfl m10_3 d_Mpg_checkFunction_151 ?_
              refine lv_iload S.x S.b d_Mpg_checkFunction_154 (lv_at hl 7 rfl) ?_
              refine lv_aload_n S.x S.b d_Mpg_checkFunction_156 rfl (lv_at hl 2 rfl) ?_
              refine lv_iload S.x S.b d_Mpg_checkFunction_157 (lv_at hl 1 rfl) ?_
              refine lv_if_eq (tgt := 169) S.x S.b d_Mpg_checkFunction_159 (by decide) (fun c370 => ?_) (fun c370 => ?_)
              · exact absurd c370 (by decide)
              ·
                refine lv_iconst (v := 4) S.x S.b d_Mpg_checkFunction_162 (by decide) ?_
                refine lv_iload S.x S.b d_Mpg_checkFunction_163 (lv_at hl 0 rfl) ?_
                refine lv_iadd S.x S.b d_Mpg_checkFunction_165 ?_
                refine lv_topi (fun z371 ez371 => ?_)
                have tz371 : z371.toInt = ((4 : Int) + (1 : Int) + 2147483648) % 4294967296 - 2147483648 := by rw [ez371]; exact i_add 4 1
                have lz371 := Int32.le_toInt z371
                have uz371 := Int32.toInt_lt z371
                try replace tz371 : z371.toInt = (4 : Int) + (1 : Int) := by omega
                refine lv_goto (tgt := 171) S.x S.b d_Mpg_checkFunction_166 (by decide) ?_
                refine lv_iconst (v := 1) S.x S.b d_Mpg_checkFunction_171 (by decide) ?_
                first | refine px_calli (pr := []) (px_runV (As := [.int z371, .int 1]) (rest := [.int x80_6, .ref (r 18)]) S (c_mp_lay l D cs h r g tf ta pf na ma_80 wa ef ea xf xa (upd cf115 42 z272) ca_80 z371 1  (show 0 ≤ (cf115 48).toInt from (oz_c0af2c5e34 e122 k80_19 g7 k80_15)) (show (cf115 48).toInt < 1100 from by omega) (show 0 ≤ z371.toInt from (oz_47940b811e tz371)) (show z371.toInt ≤ 5 from (oz_9d1cbf99c5 tz371)) (show 0 ≤ (1 : Int) from oz_19c3a41681) (show (1 : Int) ≤ 4096 from oz_79b5d9fede) (show 0 ≤ (cf115 54).toInt from (oz_f3ebed1ad0 e131 k80_16)) (show (cf115 54).toInt ≤ 40000000 from by omega) htk _) hT (pr := []) (pcs := [wdP cs h r g tf ta pf na ma_80 wa (upd cf115 42 z272) ca_80 ef ea xf xa]) hw px_X.tt (px_recv hT hw 0 0 rfl rfl rfl) m12_189 m12_186 m12_188 ms_12_0 m1_21 q_Mpg_lay ⟨show 0 + 1 ≤ (6 * d + 30) from (oz_87ccaac56f), show 8 + (3 + 11) + 0 ≤ (260 * d + 1200) from (oz_afd8bf942c)⟩ hl.1 rfl (Nat.le_of_ble_eq_true rfl) d_Mpg_checkFunction_172 ⟨Nat.le_of_ble_eq_true rfl, Nat.le_of_ble_eq_true rfl⟩) hw hA (fun v377 p376 H locs hp376 hw => ?_) | (refine px_calli (pr := []) (px_runV (As := [.int z371, .int 1]) (rest := [.int x80_6, .ref (r 18)]) S (c_mp_lay l D cs h r g tf ta pf na ma_80 wa ef ea xf xa (upd cf115 42 z272) ca_80 z371 1  (show 0 ≤ (cf115 48).toInt from by first | exact oz_c0af2c5e34 e122 k80_19 g7 k80_15 | omega) (show (cf115 48).toInt < 1100 from by omega) (show 0 ≤ z371.toInt from by first | exact oz_47940b811e tz371 | omega) (show z371.toInt ≤ 5 from by first | exact oz_9d1cbf99c5 tz371 | omega) (show 0 ≤ (1 : Int) from by first | exact oz_19c3a41681 | omega) (show (1 : Int) ≤ 4096 from by first | exact oz_79b5d9fede | omega) (show 0 ≤ (cf115 54).toInt from by first | exact oz_f3ebed1ad0 e131 k80_16 | omega) (show (cf115 54).toInt ≤ 40000000 from by omega) htk _) hT (pr := []) (pcs := [wdP cs h r g tf ta pf na ma_80 wa (upd cf115 42 z272) ca_80 ef ea xf xa]) hw px_X.tt (px_recv hT hw 0 0 rfl rfl rfl) m12_189 m12_186 m12_188 ms_12_0 m1_21 q_Mpg_lay ⟨show 0 + 1 ≤ (6 * d + 30) from (by first | exact oz_87ccaac56f | omega), show 8 + (3 + 11) + 0 ≤ (260 * d + 1200) from (by first | exact oz_afd8bf942c | omega)⟩ hl.1 rfl (Nat.le_of_ble_eq_true rfl) d_Mpg_checkFunction_172 ⟨Nat.le_of_ble_eq_true rfl, Nat.le_of_ble_eq_true rfl⟩) hw hA (fun v377 p376 H locs hp376 hw => ?_))
                obtain ⟨cf374, ca375, rfl, e378, e379, e380, e381, e382, e383, e384, e385, e386, e387, e388, e389, e390, e391, e392, e393, e394, e395, e396, e397, e398, e399, e400, e401⟩ := hp376
                have e378 : v377.toInt = (cf115 48).toInt := e378
                have e379 : (cf374 48).toInt = (cf115 48).toInt + 1 := e379
                have e380 : (cf115 54).toInt ≤ (cf374 54).toInt := e380
                have e381 : (cf374 54).toInt ≤ (cf115 54).toInt + 4096 := e381
                have e382 : z371.toInt ≤ 3 → (cf374 54).toInt = (cf115 54).toInt + (1 : Int) := e382
                have e383 : 4 ≤ z371.toInt → (cf374 54).toInt = (cf115 54).toInt + 2 := e383
                have e384 : (cf374 30).toInt = (cf115 30).toInt := e384
                have e385 : (cf374 31).toInt = (cf115 31).toInt := e385
                have e386 : (cf374 33).toInt = (cf115 33).toInt := e386
                have e387 : (cf374 37).toInt = (cf115 37).toInt := e387
                have e388 : (cf374 38).toInt = (cf115 38).toInt := e388
                have e389 : (cf374 41).toInt = (cf115 41).toInt := e389
                have e390 : (cf374 42).toInt = z272.toInt := e390
                have e391 : (cf374 43).toInt = (cf115 43).toInt := e391
                have e392 : (cf374 44).toInt = (cf115 44).toInt := e392
                have e393 : (cf374 45).toInt = (cf115 45).toInt := e393
                have e394 : (cf374 46).toInt = (cf115 46).toInt := e394
                have e395 : (cf374 47).toInt = (cf115 47).toInt := e395
                have e396 : (cf374 55).toInt = (cf115 55).toInt := e396
                have e397 : (cf374 57).toInt = (cf115 57).toInt := e397
                have e398 : (cf374 58).toInt = (cf115 58).toInt := e398
                have e399 : (cf374 59).toInt = (cf115 59).toInt := e399
                have e400 : LyU ca_80 ca375 (cf115 48) z371 (cf115 54) (1 : Int32) (txo (cf115 43).toInt) := e400
                have hlu : LyU ca_80 ca375 (cf115 48) z371 (cf115 54) (1 : Int32) tx := (by rw [← htx]; exact (by rw [show nd.toInt = (cf115 43).toInt by omega]; exact e400))
                have hcl_e400 : CaG ca_80 ca375 (cf374 33).toInt (cf115 48).toInt := cag_ly hlu (by omega) (by omega)
                have hsr : SyR ca375 ys (cf374 48).toInt (cf374 54).toInt tx := SyR.eq (SyR.ly (cells' := (cf374 54).toInt) (SyR.eq hsr (ns' := (cf115 48).toInt) (by omega) rfl) hlu rfl (by omega) (by omega) (by omega) ⟨by omega, by omega⟩ ⟨by omega, by omega⟩ (fun q => by omega) (fun q => by omega) (fun q => by omega)) (by omega) rfl
                have hkt := hkt.cg hcl_e400 (by omega)
                have hks := hks.cg hcl_e400 (by omega) (by omega) (n2 := (cf374 48).toInt) (by omega)
                have hcg := hcg.tr hcl_e400 (by omega) (by omega)
                have hft := hft.cg hcl_e400
                have hfp := hfp.cg hcl_e400
                have hprs : PrS ca375 (cf374 48).toInt ys na ma_80 lo mid_80 (na 17 nd.toNatClampNeg) x80_6 := PrS.tr hprs (FrC.rf (lo := 0) (hi := 0)) (by omega) hcl_e400 (by omega) (by omega)
                have hzfu : ZFu cf374 ta na ca p0 := (fun q9 => hzfu (by omega))
                have hs49 : (ca375 49 (cf115 48).toNatClampNeg).toInt = z371.toInt := (by rw [hlu.2.1 (by omega) (by omega)])
                have hs52 : (ca375 52 (cf115 48).toNatClampNeg).toInt = (1 : Int) := (by rw [hlu.2.2.2.1]; rfl)
                have hsy : SyA ca375 (cf374 48).toInt ys (cf115 48) := hlu.sa (by omega) (by omega) ⟨by omega, by omega⟩ (by omega)
                have e401 : R_mp_lay z371 (1 : Int32) (upd cf115 42 z272) ca_80 cf374 ca375 v377 := e401
                have hwr : WrV cf374 (tf 6).toInt := WrV.eq hwr (by omega) (by omega)
                have lv377 := Int32.le_toInt v377
                have uv377 := Int32.toInt_lt v377
                have hyv : (cf115 48) = v377 := i_eq.mpr (by omega); rw [hyv] at hsy hs49 hs52
                refine px_iast S hT hw 0 14 (n := 2100) (f := (ma_80 18)) (x := x80_6) (y := v377) rfl gp_18 (vp_in_iff.mpr (by constructor <;> omega)) d_Mpg_checkFunction_175 (w' := wdP cs h r g tf ta pf na (va_up ma_80 18 (upd (ma_80 18) x80_6.toNatClampNeg v377)) wa cf374 ca375 ef ea xf xa) (ps' := [wdP cs h r g tf ta pf na (va_up ma_80 18 (upd (ma_80 18) x80_6.toNatClampNeg v377)) wa cf374 ca375 ef ea xf xa]) sp_18 rfl (fun H locs hw => ?_)
                obtain ⟨ma402, hu_ma402⟩ : ∃ y : Nat → Nat → Int32, y = va_up ma_80 18 (upd (ma_80 18) x80_6.toNatClampNeg v377) := ⟨_, rfl⟩
                have hw : pw D A s.heap _ _ [wdP cs h r g tf ta pf na ma402 wa cf374 ca375 ef ea xf xa] := (by rw [hu_ma402]; exact hw)
                have hf1_ma402 : FrC x80_6.toInt (x80_6.toInt + 1) ma_80 ma402 := (by rw [hu_ma402]; exact FrC.w FrC.rf (by omega) (by omega) (by omega))
                have han : Ann na ma0 ma402 := (by rw [hu_ma402]; exact Ann.w18 han (by omega))
                have hfc := hfc.tr hf1_ma402 (by omega) (by omega)
                have hprs : PrS ca375 (cf374 48).toInt ys na ma402 lo mid_80 (na 17 nd.toNatClampNeg) x80_6 := PrS.tr hprs hf1_ma402 (by omega) (CaG.rf (kn := 0) (ns := 5000)) (by omega) (by omega)
                have hzfu : ZFu cf374 ta na ca p0 := (fun q9 => hzfu (by omega))
                have hv_18_x80_6 : ma402 18 x80_6.toNatClampNeg = v377 := (by rw [hu_ma402, va_up_s, pk_us])
                have hnhv_18_x80_6 : (ma402 18 x80_6.toNatClampNeg).toInt = v377.toInt := (by rw [hv_18_x80_6])
                refine lv_aload_n S.x S.b d_Mpg_checkFunction_176 rfl (lv_at hl 2 rfl) ?_
                refine lv_aload_n S.x S.b d_Mpg_checkFunction_177 rfl (lv_at hl 2 rfl) ?_
                refine gP_15 S hT hw 0 rfl m9_239 d_Mpg_checkFunction_178 ?_
                refine lv_iload S.x S.b d_Mpg_checkFunction_181 (lv_at hl 7 rfl) ?_
                refine px_iald S hT hw 0 11 (n := 2100) (f := (na 15)) rfl gp_15 (x := x80_6) (vp_in_iff.mpr (by constructor <;> omega)) d_Mpg_checkFunction_183 ?_
                refine lv_topi (fun z403 ez403 => ?_)
                have lz403 := Int32.le_toInt z403
                have uz403 := Int32.toInt_lt z403
                have rz403 := PaV.tok hpa_x80_6 ez403
                refine lv_iload S.x S.b d_Mpg_checkFunction_184 (lv_at hl 1 rfl) ?_
                refine lv_if_ne (tgt := 193) S.x S.b d_Mpg_checkFunction_186 (by decide) (fun c404 => ?_) (fun c404 => ?_)
                ·
                  refine lv_aload_n S.x S.b d_Mpg_checkFunction_193 rfl (lv_at hl 2 rfl) ?_
                  refine gP_22 S hT hw 0 rfl m10_9 d_Mpg_checkFunction_194 ?_
                  refine lv_iload S.x S.b d_Mpg_checkFunction_197 (lv_at hl 7 rfl) ?_
                  refine px_iald S hT hw 0 18 (n := 2100) (f := (ma402 22)) rfl gp_22 (x := x80_6) (vp_in_iff.mpr (by constructor <;> omega)) d_Mpg_checkFunction_199 ?_
                  refine lv_topi (fun z405 ez405 => ?_)
                  have lz405 := Int32.le_toInt z405
                  have uz405 := Int32.toInt_lt z405
                  have rz405 : z405.toInt = (ma0 22 x80_6.toNatClampNeg).toInt := (by rw [ez405, Ann.v22 han (by omega)])
                  refine lv_iconst (v := 1) S.x S.b d_Mpg_checkFunction_200 (by decide) ?_
                  refine lv_icmp_ne (tgt := 208) S.x S.b d_Mpg_checkFunction_201 (by decide) (fun c406 => ?_) (fun c406 => ?_)
                  · have nc406 : ¬ z405.toInt = (1 : Int) := mt (i_eq (x := z405) (y := 1)).mpr c406
                    refine lv_iconst (v := 2) S.x S.b d_Mpg_checkFunction_208 (by decide) ?_
                    refine lv_iconst (v := 0) S.x S.b d_Mpg_checkFunction_209 (by decide) ?_
                    refine lv_aload_n S.x S.b d_Mpg_checkFunction_210 rfl (lv_at hl 2 rfl) ?_
                    refine gP_18 S hT hw 0 rfl m10_3 d_Mpg_checkFunction_211 ?_
                    refine lv_iload S.x S.b d_Mpg_checkFunction_214 (lv_at hl 7 rfl) ?_
                    refine px_iald S hT hw 0 14 (n := 2100) (f := (ma402 18)) rfl gp_18 (x := x80_6) (vp_in_iff.mpr (by constructor <;> omega)) d_Mpg_checkFunction_216 ?_
                    refine lv_topi (fun z408 ez408 => ?_)
                    have lz408 := Int32.le_toInt z408
                    have uz408 := Int32.toInt_lt z408
                    have hsz408 : v377 = z408 := (ez408.trans hv_18_x80_6).symm; subst hsz408
                    first | refine px_callv (pr := []) (px_runV (As := [.int z403, .int 2, .int 0, .int v377]) (rest := []) S (c_mp_know l D cs h r g tf ta pf na ma402 wa ef ea xf xa cf374 ca375 z403 2 0 v377  (show 0 ≤ (cf374 33).toInt from (oz_9bcc310e9c e386 e120 k80_11 g4)) (show (cf374 33).toInt < 1100 from by omega) htk _) hT (pr := []) (pcs := [wdP cs h r g tf ta pf na ma402 wa cf374 ca375 ef ea xf xa]) hw px_X.tt (px_recv hT hw 0 0 rfl rfl rfl) m12_193 m12_190 m12_192 ms_12_1 m1_21 q_Mpg_know ⟨show 0 + 1 ≤ (6 * d + 30) from (oz_87ccaac56f), show 8 + (5 + 11) + 0 ≤ (260 * d + 1200) from (oz_2ffb131b77)⟩ hl.1 rfl (Nat.le_of_ble_eq_true rfl) d_Mpg_checkFunction_217 ⟨Nat.le_of_ble_eq_true rfl, Nat.le_of_ble_eq_true rfl⟩) hw hA (fun p413 H locs hp413 hw => ?_) | (refine px_callv (pr := []) (px_runV (As := [.int z403, .int 2, .int 0, .int v377]) (rest := []) S (c_mp_know l D cs h r g tf ta pf na ma402 wa ef ea xf xa cf374 ca375 z403 2 0 v377  (show 0 ≤ (cf374 33).toInt from by first | exact oz_9bcc310e9c e386 e120 k80_11 g4 | omega) (show (cf374 33).toInt < 1100 from by omega) htk _) hT (pr := []) (pcs := [wdP cs h r g tf ta pf na ma402 wa cf374 ca375 ef ea xf xa]) hw px_X.tt (px_recv hT hw 0 0 rfl rfl rfl) m12_193 m12_190 m12_192 ms_12_1 m1_21 q_Mpg_know ⟨show 0 + 1 ≤ (6 * d + 30) from (by first | exact oz_87ccaac56f | omega), show 8 + (5 + 11) + 0 ≤ (260 * d + 1200) from (by first | exact oz_2ffb131b77 | omega)⟩ hl.1 rfl (Nat.le_of_ble_eq_true rfl) d_Mpg_checkFunction_217 ⟨Nat.le_of_ble_eq_true rfl, Nat.le_of_ble_eq_true rfl⟩) hw hA (fun p413 H locs hp413 hw => ?_))
                    obtain ⟨cf411, ca412, rfl, e415, e416, e417, e418, e419, e420, e421, e422, e423, e424, e425, e426, e427, e428, e429, e430, e431, e432, e433, e434⟩ := hp413
                    have e415 : (cf411 33).toInt = (cf374 33).toInt + 1 := e415
                    have e416 : (cf411 30).toInt = (cf374 30).toInt := e416
                    have e417 : (cf411 31).toInt = (cf374 31).toInt := e417
                    have e418 : (cf411 37).toInt = (cf374 37).toInt := e418
                    have e419 : (cf411 38).toInt = (cf374 38).toInt := e419
                    have e420 : (cf411 41).toInt = (cf374 41).toInt := e420
                    have e421 : (cf411 42).toInt = (cf374 42).toInt := e421
                    have e422 : (cf411 43).toInt = (cf374 43).toInt := e422
                    have e423 : (cf411 44).toInt = (cf374 44).toInt := e423
                    have e424 : (cf411 45).toInt = (cf374 45).toInt := e424
                    have e425 : (cf411 46).toInt = (cf374 46).toInt := e425
                    have e426 : (cf411 47).toInt = (cf374 47).toInt := e426
                    have e427 : (cf411 48).toInt = (cf374 48).toInt := e427
                    have e428 : (cf411 54).toInt = (cf374 54).toInt := e428
                    have e429 : (cf411 55).toInt = (cf374 55).toInt := e429
                    have e430 : (cf411 57).toInt = (cf374 57).toInt := e430
                    have e431 : (cf411 58).toInt = (cf374 58).toInt := e431
                    have e432 : (cf411 59).toInt = (cf374 59).toInt := e432
                    have e433 : KwU ca375 ca412 (cf374 33) z403 (2 : Int32) (0 : Int32) v377 := e433
                    have hcw_e433 : CaG ca375 ca412 (cf374 33).toInt (cf411 48).toInt := cag_kw e433 (by omega) (by omega)
                    have hkt : KnT (tf 6).toInt ca412 (cf411 33).toInt := KnT.eq (KnT.kw (KnT.eq hkt (n' := (cf374 33).toInt) (by omega)) e433 rfl (by omega) (by omega) ⟨by omega, by omega⟩) (by omega)
                    have hks : KnS ca412 (cf411 33).toInt (cf411 48).toInt ys := KnS.eq (KnS.kw (KnS.eq hks (n' := (cf374 33).toInt) (by omega) rfl) e433 rfl (by omega) (Or.inr (Or.inl ⟨by omega, hsy⟩))) (by omega) (by omega)
                    have hcg := hcg.tr hcw_e433 (by omega) (by omega)
                    have hft := hft.cg hcw_e433
                    have hfp := hfp.cg hcw_e433
                    have hsr := hsr.cg hcw_e433 (by omega)
                    have hprs : PrS ca412 (cf411 48).toInt ys na ma402 lo mid_80 (na 17 nd.toNatClampNeg) x80_6 := PrS.tr hprs (FrC.rf (lo := 0) (hi := 0)) (by omega) hcw_e433 (by omega) (by omega)
                    have hzfu : ZFu cf411 ta na ca p0 := (fun q9 => hzfu (by omega))
                    have hsb_e433 := hsy.1.1
                    first | have hcy_e433 := cl_nat (x := v377) ((oz_f3ebed1ad0 e378 hsb_e433.1)) | (have hcy_e433 := cl_nat (x := v377) (by first | exact oz_f3ebed1ad0 e378 hsb_e433.1 | omega))
                    have hs49 : (ca412 49 v377.toNatClampNeg).toInt = _ := (congrArg Int32.toInt (hcw_e433.2.2 _ (by omega)).1).trans hs49
                    have hs52 : (ca412 52 v377.toNatClampNeg).toInt = _ := (congrArg Int32.toInt (hcw_e433.2.2 _ (by omega)).2.2.2).trans hs52
                    have hsy : SyA ca412 (cf411 48).toInt ys v377 := hsy.cg hcw_e433 (by omega) (by omega)
                    have e434 : R_mp_know z403 (2 : Int32) (0 : Int32) v377 cf374 ca375 cf411 ca412 := e434
                    have hwr : WrV cf411 (tf 6).toInt := WrV.eq hwr (by omega) (by omega)
                    refine lv_aload_n S.x S.b d_Mpg_checkFunction_220 rfl (lv_at hl 2 rfl) ?_
                    refine gP_21 S hT hw 0 rfl m10_7 d_Mpg_checkFunction_221 ?_
                    refine lv_iload S.x S.b d_Mpg_checkFunction_224 (lv_at hl 7 rfl) ?_
                    refine px_iald S hT hw 0 17 (n := 2100) (f := (na 21)) rfl gp_21 (x := x80_6) (vp_in_iff.mpr (by constructor <;> omega)) d_Mpg_checkFunction_226 ?_
                    refine lv_topi (fun z435 ez435 => ?_)
                    have lz435 := Int32.le_toInt z435
                    have uz435 := Int32.toInt_lt z435
                    refine lv_istore (lv' := [(6, .int z435), (8, .int 1), (7, .int 1), (0, .ref h), (1, .int p0), (2, .int nd), (4, .int x80_4), (5, .int x80_5)]) S.x S.b d_Mpg_checkFunction_227 hl (by decide) rfl (fun ls hl => ?_)
                    refine lv_goto (tgt := 80) S.x S.b d_Mpg_checkFunction_229 (by decide) ?_
                    first | exact ih80 ma402 cf411 ca412 md111 (wr_80 - wv112) x80_4 x80_5 z435 _ _ ls (show (cf411 30).toInt = 0 → (cf 30).toInt = 0 from by omega) (show WrV cf411 (tf 6).toInt from hwr) (show (cf411 38).toInt = (cf 38).toInt from (oz_ff3084e3c1 k80_2 e419 e121 e388)) (show (cf411 44).toInt = (cf 44).toInt from (oz_ff3084e3c1 k80_3 e423 e129 e392)) (show (cf411 45).toInt = (cf 45).toInt from (oz_ff3084e3c1 k80_4 e424 e130 e393)) (show (cf411 46).toInt = (cf 46).toInt from (oz_ff3084e3c1 k80_5 e425 e123 e394)) (show (cf411 47).toInt = (cf 47).toInt from (oz_ff3084e3c1 k80_6 e426 e124 e395)) (show (cf411 41).toInt = (cf 41).toInt from (oz_ff3084e3c1 k80_7 e420 e135 e389)) (show (cf411 55).toInt = (cf 55).toInt from (oz_ff3084e3c1 k80_8 e429 e132 e396)) (show (cf411 37).toInt = (cf 33).toInt from (oz_ff3084e3c1 k80_9 e418 e126 e387)) (show (cf411 43).toInt = nd.toInt from (oz_ff3084e3c1 k80_10 e422 e128 e391)) (show (cf 33).toInt ≤ (cf411 33).toInt from (oz_6e66b3a32a k80_11 e415 e120 e386)) (show 6 * (cf411 33).toInt ≤ 6 * (cf 33).toInt + (wp - (wr_80 - wv112)) from by omega) (show (cf 48).toInt ≤ (cf411 48).toInt from (oz_2da8b60292 k80_19 e427 k80_15 e122 hsb_e433.2)) (show 6 * (cf411 48).toInt ≤ 6 * (cf 48).toInt + (wp - (wr_80 - wv112)) from by omega) (show 4 ≤ (cf411 42).toInt from (oz_c55b6a1f99 e421 e390 tz272 e127 k80_15)) (show 0 ≤ (cf411 54).toInt from (oz_ecc8fd4544 e428 e380 e131 k80_16)) (show (cf411 54).toInt ≤ 4 * ((cf411 42).toInt - 4) from (oz_64d2d2f693 e421 e428 e390 tz371 e383 e131 tz272 k80_17 e127)) (show (cf411 54).toInt ≤ 4096 * ((cf411 48).toInt - (cf 48).toInt) from (oz_8173734d0d k80_18 e427 e428 e122 e131 e381 hsb_e433.2)) (show (cf411 42).toInt - 4 ≤ 4096 * ((cf411 48).toInt - (cf 48).toInt) from (oz_22c2709563 k80_19 e421 e427 e122 e127 e390 hsb_e433.2 tz272)) (show x80_4.toInt = (cf 33).toInt from k80_20) (show x80_5.toInt = (cf 37).toInt from k80_21) (show nd.toInt + 1 ≤ md111 from by omega) (show md111 ≤ m1 from by omega) (show 0 ≤ (wr_80 - wv112) from by omega) (show (wr_80 - wv112) ≤ wp from by omega) (show KnT (tf 6).toInt ca412 (cf411 33).toInt from (KnT.eq hkt (by omega))) (show KnS ca412 (cf411 33).toInt (cf411 48).toInt ys from (KnS.eq hks (by omega) (by omega))) (show CaG ca ca412 (cf 33).toInt (cf 48).toInt from (hcg.le (by omega) (by omega))) (show SyR ca412 ys (cf411 48).toInt (cf411 54).toInt tx from (SyR.eq hsr (by omega) (by omega))) (show Ann na ma0 ma402 from han) (show FrC lo hi ma ma402 from hfc) (show RvP ta (tf 6).toInt na ma0 md111 m1 (wr_80 - wv112) z435 from (by rw [ez435]; exact hrp2)) (show PrS ca412 (cf411 48).toInt ys na ma402 lo md111 (na 17 nd.toNatClampNeg) z435 from (PrS.nx (PrS.to hprs (by omega) (Int.le_refl _) (by omega)) (by omega) hv_18_x80_6 (by omega) (by omega) (Or.inr ⟨by omega, hsy, by omega⟩) ez435)) (show ZFu cf411 ta na ca p0 from (fun zz => hzfu (by have q9 : (cf411 30).toInt = 0 := zz; omega))) (show K_mp_checkFunction_80 d tf ta na p0 ma cf ca ma402 cf411 ca412 x80_4 x80_5 z435 nd from (fun y_f0 y_f1 y_f2 k hE => k80_35 y_f0 y_f1 y_f2 (k + 1) (Or.inr (Or.inl ⟨rfl, x80_4, x80_5, x80_6, nd, rfl, rfl, rfl, rfl, rfl, Or.inr ⟨nc1, z113, ez113, cf115, e136, z137, ez137, Or.inr ⟨nc138, z272, ez272, z273, ez273, Or.inr ⟨nc274, z371, ez371, cf374, ca375, v377, e401, ma402, hu_ma402, z403, ez403, z405, ez405, Or.inl ⟨nc406, v377, ez408, cf411, ca412, e434, z435, ez435, hE⟩⟩⟩⟩⟩)))) (show m1 - md111 < (n_80 : Int) from by omega) hw (lv_sub hl [3, 4, 5, 6, 7, 0] rfl) | (exact ih80 ma402 cf411 ca412 md111 (wr_80 - wv112) x80_4 x80_5 z435 _ _ ls (show (cf411 30).toInt = 0 → (cf 30).toInt = 0 from by omega) (show WrV cf411 (tf 6).toInt from hwr) (show (cf411 38).toInt = (cf 38).toInt from by first | exact oz_ff3084e3c1 k80_2 e419 e121 e388 | omega) (show (cf411 44).toInt = (cf 44).toInt from by first | exact oz_ff3084e3c1 k80_3 e423 e129 e392 | omega) (show (cf411 45).toInt = (cf 45).toInt from by first | exact oz_ff3084e3c1 k80_4 e424 e130 e393 | omega) (show (cf411 46).toInt = (cf 46).toInt from by first | exact oz_ff3084e3c1 k80_5 e425 e123 e394 | omega) (show (cf411 47).toInt = (cf 47).toInt from by first | exact oz_ff3084e3c1 k80_6 e426 e124 e395 | omega) (show (cf411 41).toInt = (cf 41).toInt from by first | exact oz_ff3084e3c1 k80_7 e420 e135 e389 | omega) (show (cf411 55).toInt = (cf 55).toInt from by first | exact oz_ff3084e3c1 k80_8 e429 e132 e396 | omega) (show (cf411 37).toInt = (cf 33).toInt from by first | exact oz_ff3084e3c1 k80_9 e418 e126 e387 | omega) (show (cf411 43).toInt = nd.toInt from by first | exact oz_ff3084e3c1 k80_10 e422 e128 e391 | omega) (show (cf 33).toInt ≤ (cf411 33).toInt from by first | exact oz_6e66b3a32a k80_11 e415 e120 e386 | omega) (show 6 * (cf411 33).toInt ≤ 6 * (cf 33).toInt + (wp - (wr_80 - wv112)) from by omega) (show (cf 48).toInt ≤ (cf411 48).toInt from by first | exact oz_2da8b60292 k80_19 e427 k80_15 e122 hsb_e433.2 | omega) (show 6 * (cf411 48).toInt ≤ 6 * (cf 48).toInt + (wp - (wr_80 - wv112)) from by omega) (show 4 ≤ (cf411 42).toInt from by first | exact oz_c55b6a1f99 e421 e390 tz272 e127 k80_15 | omega) (show 0 ≤ (cf411 54).toInt from by first | exact oz_ecc8fd4544 e428 e380 e131 k80_16 | omega) (show (cf411 54).toInt ≤ 4 * ((cf411 42).toInt - 4) from by first | exact oz_64d2d2f693 e421 e428 e390 tz371 e383 e131 tz272 k80_17 e127 | omega) (show (cf411 54).toInt ≤ 4096 * ((cf411 48).toInt - (cf 48).toInt) from by first | exact oz_8173734d0d k80_18 e427 e428 e122 e131 e381 hsb_e433.2 | omega) (show (cf411 42).toInt - 4 ≤ 4096 * ((cf411 48).toInt - (cf 48).toInt) from by first | exact oz_22c2709563 k80_19 e421 e427 e122 e127 e390 hsb_e433.2 tz272 | omega) (show x80_4.toInt = (cf 33).toInt from by first | exact k80_20 | omega) (show x80_5.toInt = (cf 37).toInt from by first | exact k80_21 | omega) (show nd.toInt + 1 ≤ md111 from by omega) (show md111 ≤ m1 from by omega) (show 0 ≤ (wr_80 - wv112) from by omega) (show (wr_80 - wv112) ≤ wp from by omega) (show KnT (tf 6).toInt ca412 (cf411 33).toInt from (KnT.eq hkt (by omega))) (show KnS ca412 (cf411 33).toInt (cf411 48).toInt ys from (KnS.eq hks (by omega) (by omega))) (show CaG ca ca412 (cf 33).toInt (cf 48).toInt from (hcg.le (by omega) (by omega))) (show SyR ca412 ys (cf411 48).toInt (cf411 54).toInt tx from (SyR.eq hsr (by omega) (by omega))) (show Ann na ma0 ma402 from han) (show FrC lo hi ma ma402 from hfc) (show RvP ta (tf 6).toInt na ma0 md111 m1 (wr_80 - wv112) z435 from (by rw [ez435]; exact hrp2)) (show PrS ca412 (cf411 48).toInt ys na ma402 lo md111 (na 17 nd.toNatClampNeg) z435 from (PrS.nx (PrS.to hprs (by omega) (Int.le_refl _) (by omega)) (by omega) hv_18_x80_6 (by omega) (by omega) (Or.inr ⟨by omega, hsy, by omega⟩) ez435)) (show ZFu cf411 ta na ca p0 from (fun zz => hzfu (by have q9 : (cf411 30).toInt = 0 := zz; omega))) (show K_mp_checkFunction_80 d tf ta na p0 ma cf ca ma402 cf411 ca412 x80_4 x80_5 z435 nd from (fun y_f0 y_f1 y_f2 k hE => k80_35 y_f0 y_f1 y_f2 (k + 1) (Or.inr (Or.inl ⟨rfl, x80_4, x80_5, x80_6, nd, rfl, rfl, rfl, rfl, rfl, Or.inr ⟨nc1, z113, ez113, cf115, e136, z137, ez137, Or.inr ⟨nc138, z272, ez272, z273, ez273, Or.inr ⟨nc274, z371, ez371, cf374, ca375, v377, e401, ma402, hu_ma402, z403, ez403, z405, ez405, Or.inl ⟨nc406, v377, ez408, cf411, ca412, e434, z435, ez435, hE⟩⟩⟩⟩⟩)))) (show m1 - md111 < (n_80 : Int) from by omega) hw (lv_sub hl [3, 4, 5, 6, 7, 0] rfl))
                  · have nc406 : z405.toInt = (1 : Int) := (i_eq (x := z405) (y := 1)).mp c406
                    refine lv_iconst (v := 3) S.x S.b d_Mpg_checkFunction_204 (by decide) ?_
                    refine lv_goto (tgt := 209) S.x S.b d_Mpg_checkFunction_205 (by decide) ?_
                    refine lv_iconst (v := 0) S.x S.b d_Mpg_checkFunction_209 (by decide) ?_
                    refine lv_aload_n S.x S.b d_Mpg_checkFunction_210 rfl (lv_at hl 2 rfl) ?_
                    refine gP_18 S hT hw 0 rfl m10_3 d_Mpg_checkFunction_211 ?_
                    refine lv_iload S.x S.b d_Mpg_checkFunction_214 (lv_at hl 7 rfl) ?_
                    refine px_iald S hT hw 0 14 (n := 2100) (f := (ma402 18)) rfl gp_18 (x := x80_6) (vp_in_iff.mpr (by constructor <;> omega)) d_Mpg_checkFunction_216 ?_
                    refine lv_topi (fun z436 ez436 => ?_)
                    have lz436 := Int32.le_toInt z436
                    have uz436 := Int32.toInt_lt z436
                    have hsz436 : v377 = z436 := (ez436.trans hv_18_x80_6).symm; subst hsz436
                    first | refine px_callv (pr := []) (px_runV (As := [.int z403, .int 3, .int 0, .int v377]) (rest := []) S (c_mp_know l D cs h r g tf ta pf na ma402 wa ef ea xf xa cf374 ca375 z403 3 0 v377  (show 0 ≤ (cf374 33).toInt from (oz_9bcc310e9c e386 e120 k80_11 g4)) (show (cf374 33).toInt < 1100 from by omega) htk _) hT (pr := []) (pcs := [wdP cs h r g tf ta pf na ma402 wa cf374 ca375 ef ea xf xa]) hw px_X.tt (px_recv hT hw 0 0 rfl rfl rfl) m12_193 m12_190 m12_192 ms_12_1 m1_21 q_Mpg_know ⟨show 0 + 1 ≤ (6 * d + 30) from (oz_87ccaac56f), show 8 + (5 + 11) + 0 ≤ (260 * d + 1200) from (oz_2ffb131b77)⟩ hl.1 rfl (Nat.le_of_ble_eq_true rfl) d_Mpg_checkFunction_217 ⟨Nat.le_of_ble_eq_true rfl, Nat.le_of_ble_eq_true rfl⟩) hw hA (fun p441 H locs hp441 hw => ?_) | (refine px_callv (pr := []) (px_runV (As := [.int z403, .int 3, .int 0, .int v377]) (rest := []) S (c_mp_know l D cs h r g tf ta pf na ma402 wa ef ea xf xa cf374 ca375 z403 3 0 v377  (show 0 ≤ (cf374 33).toInt from by first | exact oz_9bcc310e9c e386 e120 k80_11 g4 | omega) (show (cf374 33).toInt < 1100 from by omega) htk _) hT (pr := []) (pcs := [wdP cs h r g tf ta pf na ma402 wa cf374 ca375 ef ea xf xa]) hw px_X.tt (px_recv hT hw 0 0 rfl rfl rfl) m12_193 m12_190 m12_192 ms_12_1 m1_21 q_Mpg_know ⟨show 0 + 1 ≤ (6 * d + 30) from (by first | exact oz_87ccaac56f | omega), show 8 + (5 + 11) + 0 ≤ (260 * d + 1200) from (by first | exact oz_2ffb131b77 | omega)⟩ hl.1 rfl (Nat.le_of_ble_eq_true rfl) d_Mpg_checkFunction_217 ⟨Nat.le_of_ble_eq_true rfl, Nat.le_of_ble_eq_true rfl⟩) hw hA (fun p441 H locs hp441 hw => ?_))
                    obtain ⟨cf439, ca440, rfl, e443, e444, e445, e446, e447, e448, e449, e450, e451, e452, e453, e454, e455, e456, e457, e458, e459, e460, e461, e462⟩ := hp441
                    have e443 : (cf439 33).toInt = (cf374 33).toInt + 1 := e443
                    have e444 : (cf439 30).toInt = (cf374 30).toInt := e444
                    have e445 : (cf439 31).toInt = (cf374 31).toInt := e445
                    have e446 : (cf439 37).toInt = (cf374 37).toInt := e446
                    have e447 : (cf439 38).toInt = (cf374 38).toInt := e447
                    have e448 : (cf439 41).toInt = (cf374 41).toInt := e448
                    have e449 : (cf439 42).toInt = (cf374 42).toInt := e449
                    have e450 : (cf439 43).toInt = (cf374 43).toInt := e450
                    have e451 : (cf439 44).toInt = (cf374 44).toInt := e451
                    have e452 : (cf439 45).toInt = (cf374 45).toInt := e452
                    have e453 : (cf439 46).toInt = (cf374 46).toInt := e453
                    have e454 : (cf439 47).toInt = (cf374 47).toInt := e454
                    have e455 : (cf439 48).toInt = (cf374 48).toInt := e455
                    have e456 : (cf439 54).toInt = (cf374 54).toInt := e456
                    have e457 : (cf439 55).toInt = (cf374 55).toInt := e457
                    have e458 : (cf439 57).toInt = (cf374 57).toInt := e458
                    have e459 : (cf439 58).toInt = (cf374 58).toInt := e459
                    have e460 : (cf439 59).toInt = (cf374 59).toInt := e460
                    have e461 : KwU ca375 ca440 (cf374 33) z403 (3 : Int32) (0 : Int32) v377 := e461
                    have hcw_e461 : CaG ca375 ca440 (cf374 33).toInt (cf439 48).toInt := cag_kw e461 (by omega) (by omega)
                    have hkt : KnT (tf 6).toInt ca440 (cf439 33).toInt := KnT.eq (KnT.kw (KnT.eq hkt (n' := (cf374 33).toInt) (by omega)) e461 rfl (by omega) (by omega) ⟨by omega, by omega⟩) (by omega)
                    have hks : KnS ca440 (cf439 33).toInt (cf439 48).toInt ys := KnS.eq (KnS.kw (KnS.eq hks (n' := (cf374 33).toInt) (by omega) rfl) e461 rfl (by omega) (Or.inr (Or.inl ⟨by omega, hsy⟩))) (by omega) (by omega)
                    have hcg := hcg.tr hcw_e461 (by omega) (by omega)
                    have hft := hft.cg hcw_e461
                    have hfp := hfp.cg hcw_e461
                    have hsr := hsr.cg hcw_e461 (by omega)
                    have hprs : PrS ca440 (cf439 48).toInt ys na ma402 lo mid_80 (na 17 nd.toNatClampNeg) x80_6 := PrS.tr hprs (FrC.rf (lo := 0) (hi := 0)) (by omega) hcw_e461 (by omega) (by omega)
                    have hzfu : ZFu cf439 ta na ca p0 := (fun q9 => hzfu (by omega))
                    have hsb_e461 := hsy.1.1
                    first | have hcy_e461 := cl_nat (x := v377) ((oz_f3ebed1ad0 e378 hsb_e461.1)) | (have hcy_e461 := cl_nat (x := v377) (by first | exact oz_f3ebed1ad0 e378 hsb_e461.1 | omega))
                    have hs49 : (ca440 49 v377.toNatClampNeg).toInt = _ := (congrArg Int32.toInt (hcw_e461.2.2 _ (by omega)).1).trans hs49
                    have hs52 : (ca440 52 v377.toNatClampNeg).toInt = _ := (congrArg Int32.toInt (hcw_e461.2.2 _ (by omega)).2.2.2).trans hs52
                    have hsy : SyA ca440 (cf439 48).toInt ys v377 := hsy.cg hcw_e461 (by omega) (by omega)
                    have e462 : R_mp_know z403 (3 : Int32) (0 : Int32) v377 cf374 ca375 cf439 ca440 := e462
                    have hwr : WrV cf439 (tf 6).toInt := WrV.eq hwr (by omega) (by omega)
                    refine lv_aload_n S.x S.b d_Mpg_checkFunction_220 rfl (lv_at hl 2 rfl) ?_
                    refine gP_21 S hT hw 0 rfl m10_7 d_Mpg_checkFunction_221 ?_
                    refine lv_iload S.x S.b d_Mpg_checkFunction_224 (lv_at hl 7 rfl) ?_
                    refine px_iald S hT hw 0 17 (n := 2100) (f := (na 21)) rfl gp_21 (x := x80_6) (vp_in_iff.mpr (by constructor <;> omega)) d_Mpg_checkFunction_226 ?_
                    refine lv_topi (fun z463 ez463 => ?_)
                    have lz463 := Int32.le_toInt z463
                    have uz463 := Int32.toInt_lt z463
                    refine lv_istore (lv' := [(6, .int z463), (8, .int 1), (7, .int 1), (0, .ref h), (1, .int p0), (2, .int nd), (4, .int x80_4), (5, .int x80_5)]) S.x S.b d_Mpg_checkFunction_227 hl (by decide) rfl (fun ls hl => ?_)
                    refine lv_goto (tgt := 80) S.x S.b d_Mpg_checkFunction_229 (by decide) ?_
                    first | exact ih80 ma402 cf439 ca440 md111 (wr_80 - wv112) x80_4 x80_5 z463 _ _ ls (show (cf439 30).toInt = 0 → (cf 30).toInt = 0 from by omega) (show WrV cf439 (tf 6).toInt from hwr) (show (cf439 38).toInt = (cf 38).toInt from (oz_ff3084e3c1 k80_2 e447 e121 e388)) (show (cf439 44).toInt = (cf 44).toInt from (oz_ff3084e3c1 k80_3 e451 e129 e392)) (show (cf439 45).toInt = (cf 45).toInt from (oz_ff3084e3c1 k80_4 e452 e130 e393)) (show (cf439 46).toInt = (cf 46).toInt from (oz_ff3084e3c1 k80_5 e453 e123 e394)) (show (cf439 47).toInt = (cf 47).toInt from (oz_ff3084e3c1 k80_6 e454 e124 e395)) (show (cf439 41).toInt = (cf 41).toInt from (oz_ff3084e3c1 k80_7 e448 e135 e389)) (show (cf439 55).toInt = (cf 55).toInt from (oz_ff3084e3c1 k80_8 e457 e132 e396)) (show (cf439 37).toInt = (cf 33).toInt from (oz_ff3084e3c1 k80_9 e446 e126 e387)) (show (cf439 43).toInt = nd.toInt from (oz_ff3084e3c1 k80_10 e450 e128 e391)) (show (cf 33).toInt ≤ (cf439 33).toInt from (oz_6e66b3a32a k80_11 e443 e120 e386)) (show 6 * (cf439 33).toInt ≤ 6 * (cf 33).toInt + (wp - (wr_80 - wv112)) from by omega) (show (cf 48).toInt ≤ (cf439 48).toInt from (oz_2da8b60292 k80_19 e455 k80_15 e122 hsb_e461.2)) (show 6 * (cf439 48).toInt ≤ 6 * (cf 48).toInt + (wp - (wr_80 - wv112)) from by omega) (show 4 ≤ (cf439 42).toInt from (oz_c55b6a1f99 e449 e390 tz272 e127 k80_15)) (show 0 ≤ (cf439 54).toInt from (oz_ecc8fd4544 e456 e380 e131 k80_16)) (show (cf439 54).toInt ≤ 4 * ((cf439 42).toInt - 4) from (oz_64d2d2f693 e449 e456 e390 tz371 e383 e131 tz272 k80_17 e127)) (show (cf439 54).toInt ≤ 4096 * ((cf439 48).toInt - (cf 48).toInt) from (oz_8173734d0d k80_18 e455 e456 e122 e131 e381 hsb_e461.2)) (show (cf439 42).toInt - 4 ≤ 4096 * ((cf439 48).toInt - (cf 48).toInt) from (oz_22c2709563 k80_19 e449 e455 e122 e127 e390 hsb_e461.2 tz272)) (show x80_4.toInt = (cf 33).toInt from k80_20) (show x80_5.toInt = (cf 37).toInt from k80_21) (show nd.toInt + 1 ≤ md111 from by omega) (show md111 ≤ m1 from by omega) (show 0 ≤ (wr_80 - wv112) from by omega) (show (wr_80 - wv112) ≤ wp from by omega) (show KnT (tf 6).toInt ca440 (cf439 33).toInt from (KnT.eq hkt (by omega))) (show KnS ca440 (cf439 33).toInt (cf439 48).toInt ys from (KnS.eq hks (by omega) (by omega))) (show CaG ca ca440 (cf 33).toInt (cf 48).toInt from (hcg.le (by omega) (by omega))) (show SyR ca440 ys (cf439 48).toInt (cf439 54).toInt tx from (SyR.eq hsr (by omega) (by omega))) (show Ann na ma0 ma402 from han) (show FrC lo hi ma ma402 from hfc) (show RvP ta (tf 6).toInt na ma0 md111 m1 (wr_80 - wv112) z463 from (by rw [ez463]; exact hrp2)) (show PrS ca440 (cf439 48).toInt ys na ma402 lo md111 (na 17 nd.toNatClampNeg) z463 from (PrS.nx (PrS.to hprs (by omega) (Int.le_refl _) (by omega)) (by omega) hv_18_x80_6 (by omega) (by omega) (Or.inr ⟨by omega, hsy, by omega⟩) ez463)) (show ZFu cf439 ta na ca p0 from (fun zz => hzfu (by have q9 : (cf439 30).toInt = 0 := zz; omega))) (show K_mp_checkFunction_80 d tf ta na p0 ma cf ca ma402 cf439 ca440 x80_4 x80_5 z463 nd from (fun y_f0 y_f1 y_f2 k hE => k80_35 y_f0 y_f1 y_f2 (k + 1) (Or.inr (Or.inl ⟨rfl, x80_4, x80_5, x80_6, nd, rfl, rfl, rfl, rfl, rfl, Or.inr ⟨nc1, z113, ez113, cf115, e136, z137, ez137, Or.inr ⟨nc138, z272, ez272, z273, ez273, Or.inr ⟨nc274, z371, ez371, cf374, ca375, v377, e401, ma402, hu_ma402, z403, ez403, z405, ez405, Or.inr ⟨nc406, v377, ez436, cf439, ca440, e462, z463, ez463, hE⟩⟩⟩⟩⟩)))) (show m1 - md111 < (n_80 : Int) from by omega) hw (lv_sub hl [3, 4, 5, 6, 7, 0] rfl) | (exact ih80 ma402 cf439 ca440 md111 (wr_80 - wv112) x80_4 x80_5 z463 _ _ ls (show (cf439 30).toInt = 0 → (cf 30).toInt = 0 from by omega) (show WrV cf439 (tf 6).toInt from hwr) (show (cf439 38).toInt = (cf 38).toInt from by first | exact oz_ff3084e3c1 k80_2 e447 e121 e388 | omega) (show (cf439 44).toInt = (cf 44).toInt from by first | exact oz_ff3084e3c1 k80_3 e451 e129 e392 | omega) (show (cf439 45).toInt = (cf 45).toInt from by first | exact oz_ff3084e3c1 k80_4 e452 e130 e393 | omega) (show (cf439 46).toInt = (cf 46).toInt from by first | exact oz_ff3084e3c1 k80_5 e453 e123 e394 | omega) (show (cf439 47).toInt = (cf 47).toInt from by first | exact oz_ff3084e3c1 k80_6 e454 e124 e395 | omega) (show (cf439 41).toInt = (cf 41).toInt from by first | exact oz_ff3084e3c1 k80_7 e448 e135 e389 | omega) (show (cf439 55).toInt = (cf 55).toInt from by first | exact oz_ff3084e3c1 k80_8 e457 e132 e396 | omega) (show (cf439 37).toInt = (cf 33).toInt from by first | exact oz_ff3084e3c1 k80_9 e446 e126 e387 | omega) (show (cf439 43).toInt = nd.toInt from by first | exact oz_ff3084e3c1 k80_10 e450 e128 e391 | omega) (show (cf 33).toInt ≤ (cf439 33).toInt from by first | exact oz_6e66b3a32a k80_11 e443 e120 e386 | omega) (show 6 * (cf439 33).toInt ≤ 6 * (cf 33).toInt + (wp - (wr_80 - wv112)) from by omega) (show (cf 48).toInt ≤ (cf439 48).toInt from by first | exact oz_2da8b60292 k80_19 e455 k80_15 e122 hsb_e461.2 | omega) (show 6 * (cf439 48).toInt ≤ 6 * (cf 48).toInt + (wp - (wr_80 - wv112)) from by omega) (show 4 ≤ (cf439 42).toInt from by first | exact oz_c55b6a1f99 e449 e390 tz272 e127 k80_15 | omega) (show 0 ≤ (cf439 54).toInt from by first | exact oz_ecc8fd4544 e456 e380 e131 k80_16 | omega) (show (cf439 54).toInt ≤ 4 * ((cf439 42).toInt - 4) from by first | exact oz_64d2d2f693 e449 e456 e390 tz371 e383 e131 tz272 k80_17 e127 | omega) (show (cf439 54).toInt ≤ 4096 * ((cf439 48).toInt - (cf 48).toInt) from by first | exact oz_8173734d0d k80_18 e455 e456 e122 e131 e381 hsb_e461.2 | omega) (show (cf439 42).toInt - 4 ≤ 4096 * ((cf439 48).toInt - (cf 48).toInt) from by first | exact oz_22c2709563 k80_19 e449 e455 e122 e127 e390 hsb_e461.2 tz272 | omega) (show x80_4.toInt = (cf 33).toInt from by first | exact k80_20 | omega) (show x80_5.toInt = (cf 37).toInt from by first | exact k80_21 | omega) (show nd.toInt + 1 ≤ md111 from by omega) (show md111 ≤ m1 from by omega) (show 0 ≤ (wr_80 - wv112) from by omega) (show (wr_80 - wv112) ≤ wp from by omega) (show KnT (tf 6).toInt ca440 (cf439 33).toInt from (KnT.eq hkt (by omega))) (show KnS ca440 (cf439 33).toInt (cf439 48).toInt ys from (KnS.eq hks (by omega) (by omega))) (show CaG ca ca440 (cf 33).toInt (cf 48).toInt from (hcg.le (by omega) (by omega))) (show SyR ca440 ys (cf439 48).toInt (cf439 54).toInt tx from (SyR.eq hsr (by omega) (by omega))) (show Ann na ma0 ma402 from han) (show FrC lo hi ma ma402 from hfc) (show RvP ta (tf 6).toInt na ma0 md111 m1 (wr_80 - wv112) z463 from (by rw [ez463]; exact hrp2)) (show PrS ca440 (cf439 48).toInt ys na ma402 lo md111 (na 17 nd.toNatClampNeg) z463 from (PrS.nx (PrS.to hprs (by omega) (Int.le_refl _) (by omega)) (by omega) hv_18_x80_6 (by omega) (by omega) (Or.inr ⟨by omega, hsy, by omega⟩) ez463)) (show ZFu cf439 ta na ca p0 from (fun zz => hzfu (by have q9 : (cf439 30).toInt = 0 := zz; omega))) (show K_mp_checkFunction_80 d tf ta na p0 ma cf ca ma402 cf439 ca440 x80_4 x80_5 z463 nd from (fun y_f0 y_f1 y_f2 k hE => k80_35 y_f0 y_f1 y_f2 (k + 1) (Or.inr (Or.inl ⟨rfl, x80_4, x80_5, x80_6, nd, rfl, rfl, rfl, rfl, rfl, Or.inr ⟨nc1, z113, ez113, cf115, e136, z137, ez137, Or.inr ⟨nc138, z272, ez272, z273, ez273, Or.inr ⟨nc274, z371, ez371, cf374, ca375, v377, e401, ma402, hu_ma402, z403, ez403, z405, ez405, Or.inr ⟨nc406, v377, ez436, cf439, ca440, e462, z463, ez463, hE⟩⟩⟩⟩⟩)))) (show m1 - md111 < (n_80 : Int) from by omega) hw (lv_sub hl [3, 4, 5, 6, 7, 0] rfl))
                · exact absurd c404 (by decide)
  refine lv_aload_n S.x S.b d_Mpg_checkFunction_0 rfl (lv_at hl 0 rfl) ?_
  refine gP_39 S hT hw 0 rfl m10_28 d_Mpg_checkFunction_1 ?_
  refine lv_iload_n S.x S.b d_Mpg_checkFunction_4 rfl (lv_at hl 1 rfl) ?_
  refine px_iald S hT hw 0 26 (n := 260) (f := (ca 39)) rfl gp_39 (x := p0) (vp_in_iff.mpr (by first | exact oz_8e6a47f383 g18 g19 g9 hf11 | (constructor <;> omega))) d_Mpg_checkFunction_5 ?_
  refine lv_topi (fun z464 ez464 => ?_)
  have lz464 := Int32.le_toInt z464
  have uz464 := Int32.toInt_lt z464
  have hsz464 : nd = z464 := e_nd.trans ez464.symm; subst hsz464
  refine lv_istore_n (lv' := [(2, .int nd), (0, .ref h), (1, .int p0)]) S.x S.b d_Mpg_checkFunction_6 rfl hl (by decide) rfl (fun ls hl => ?_)
  refine lv_aload_n S.x S.b d_Mpg_checkFunction_7 rfl (lv_at hl 1 rfl) ?_
  refine gP_15 S hT hw 0 rfl m9_239 d_Mpg_checkFunction_8 ?_
  refine lv_iload_n S.x S.b d_Mpg_checkFunction_11 rfl (lv_at hl 0 rfl) ?_
  refine px_iald S hT hw 0 11 (n := 2100) (f := (na 15)) rfl gp_15 (x := nd) (vp_in_iff.mpr (by constructor <;> omega)) d_Mpg_checkFunction_12 ?_
  refine lv_topi (fun z465 ez465 => ?_)
  have lz465 := Int32.le_toInt z465
  have uz465 := Int32.toInt_lt z465
  have rz465 : z465.toInt = (na 15 nd.toNatClampNeg).toInt := (by rw [ez465])
  refine lv_istore_n (lv' := [(3, .int z465), (2, .int nd), (0, .ref h), (1, .int p0)]) S.x S.b d_Mpg_checkFunction_13 rfl hl (by decide) rfl (fun ls hl => ?_)
  refine lv_aload_n S.x S.b d_Mpg_checkFunction_14 rfl (lv_at hl 2 rfl) ?_
  refine lv_iload_n S.x S.b d_Mpg_checkFunction_15 rfl (lv_at hl 0 rfl) ?_
  first | refine px_calli (pr := []) (px_runV (As := [.int z465]) (rest := []) S (c_mp_findOwn l D cs h r g tf ta pf na ma wa cf ca ef ea xf xa z465  (show 0 ≤ z465.toInt from by omega) (show z465.toInt < (tf 6).toInt from by omega) (show (tf 6).toInt ≤ 2049 from g3) htk _) hT (pr := []) (pcs := [wdP cs h r g tf ta pf na ma wa cf ca ef ea xf xa]) hw (oX_call (P := (fun A U H => (oP A g U H))) (pr := []) oG_P hw hA hP) (px_recv hT hw 0 0 rfl rfl rfl) m12_157 m12_154 m12_156 ms_11_8 m1_21 q_Mpg_findOwn ⟨show 6 + 1 ≤ (6 * d + 30) from (oz_e804ab7b34), show 8 + (3 + 11) + 230 ≤ (260 * d + 1200) from (oz_65a2126698)⟩ hl.1 rfl (Nat.le_of_ble_eq_true rfl) d_Mpg_checkFunction_16 ⟨Nat.le_of_ble_eq_true rfl, Nat.le_of_ble_eq_true rfl⟩) hw hA (fun v467 p466 H locs hp466 hw => ?_) | (refine px_calli (pr := []) (px_runV (As := [.int z465]) (rest := []) S (c_mp_findOwn l D cs h r g tf ta pf na ma wa cf ca ef ea xf xa z465  (show 0 ≤ z465.toInt from by omega) (show z465.toInt < (tf 6).toInt from by omega) (show (tf 6).toInt ≤ 2049 from by first | exact g3 | omega) htk _) hT (pr := []) (pcs := [wdP cs h r g tf ta pf na ma wa cf ca ef ea xf xa]) hw (oX_call (P := (fun A U H => (oP A g U H))) (pr := []) oG_P hw hA hP) (px_recv hT hw 0 0 rfl rfl rfl) m12_157 m12_154 m12_156 ms_11_8 m1_21 q_Mpg_findOwn ⟨show 6 + 1 ≤ (6 * d + 30) from (by first | exact oz_e804ab7b34 | omega), show 8 + (3 + 11) + 230 ≤ (260 * d + 1200) from (by first | exact oz_65a2126698 | omega)⟩ hl.1 rfl (Nat.le_of_ble_eq_true rfl) d_Mpg_checkFunction_16 ⟨Nat.le_of_ble_eq_true rfl, Nat.le_of_ble_eq_true rfl⟩) hw hA (fun v467 p466 H locs hp466 hw => ?_))
  obtain ⟨rfl, e468, e469, e470⟩ := hp466
  have e468 : -1 ≤ v467.toInt := e468
  have e469 : v467.toInt ≤ 9 := e469
  have e470 : R_mp_findOwn tf ta z465 v467 := e470
  have lv467 := Int32.le_toInt v467
  have uv467 := Int32.toInt_lt v467
  refine lv_if_ge (tgt := 31) S.x S.b d_Mpg_checkFunction_19 (by decide) (fun c471 => ?_) (fun c471 => ?_)
  · have nc471 : (0 : Int) ≤ v467.toInt := (i_le (x := 0) (y := v467)).mp c471
    refine lv_aload_n S.x S.b d_Mpg_checkFunction_31 rfl (lv_at hl 2 rfl) ?_
    refine lv_iconst (v := 1) S.x S.b d_Mpg_checkFunction_32 (by decide) ?_
    refine lv_iload_n S.x S.b d_Mpg_checkFunction_33 rfl (lv_at hl 0 rfl) ?_
    first | refine px_callv (pr := []) (px_runV (As := [.int 1, .int z465]) (rest := []) S (c_mp_bad l D cs h r g tf ta pf na ma wa ca ef ea xf xa cf 1 z465  (show 1 ≤ (1 : Int) from oz_5ec2f32d28) (show 0 ≤ z465.toInt from by omega) (show z465.toInt < (tf 6).toInt from by omega) htk hwr _) hT (pr := []) (pcs := [wdP cs h r g tf ta pf na ma wa cf ca ef ea xf xa]) hw px_X.tt (px_recv hT hw 0 0 rfl rfl rfl) m12_173 m12_170 m12_172 ms_11_12 m1_21 q_Mpg_bad ⟨show 0 + 1 ≤ (6 * d + 30) from (oz_87ccaac56f), show 8 + (3 + 11) + 0 ≤ (260 * d + 1200) from (oz_afd8bf942c)⟩ hl.1 rfl (Nat.le_of_ble_eq_true rfl) d_Mpg_checkFunction_34 ⟨Nat.le_of_ble_eq_true rfl, Nat.le_of_ble_eq_true rfl⟩) hw hA (fun p475 H locs hp475 hw => ?_) | (refine px_callv (pr := []) (px_runV (As := [.int 1, .int z465]) (rest := []) S (c_mp_bad l D cs h r g tf ta pf na ma wa ca ef ea xf xa cf 1 z465  (show 1 ≤ (1 : Int) from by first | exact oz_5ec2f32d28 | omega) (show 0 ≤ z465.toInt from by omega) (show z465.toInt < (tf 6).toInt from by omega) htk hwr _) hT (pr := []) (pcs := [wdP cs h r g tf ta pf na ma wa cf ca ef ea xf xa]) hw px_X.tt (px_recv hT hw 0 0 rfl rfl rfl) m12_173 m12_170 m12_172 ms_11_12 m1_21 q_Mpg_bad ⟨show 0 + 1 ≤ (6 * d + 30) from (by first | exact oz_87ccaac56f | omega), show 8 + (3 + 11) + 0 ≤ (260 * d + 1200) from (by first | exact oz_afd8bf942c | omega)⟩ hl.1 rfl (Nat.le_of_ble_eq_true rfl) d_Mpg_checkFunction_34 ⟨Nat.le_of_ble_eq_true rfl, Nat.le_of_ble_eq_true rfl⟩) hw hA (fun p475 H locs hp475 hw => ?_))
    obtain ⟨cf474, rfl, e477, e478, e479, e480, e481, e482, e483, e484, e485, e486, e487, e488, e489, e490, e491, e492, e493, e494, e495, e496⟩ := hp475
    have e477 : KpE cf cf474 := e477
    have hkz_e477 := e477.2
    have e478 : WrV cf474 (tf 6).toInt := e478
    have hwr := e478
    have hw0_e478 := hwr.1
    have e479 : 1 ≤ (cf474 30).toInt := e479
    have e480 : (cf474 33).toInt = (cf 33).toInt := e480
    have e481 : (cf474 38).toInt = (cf 38).toInt := e481
    have e482 : (cf474 48).toInt = (cf 48).toInt := e482
    have e483 : (cf474 46).toInt = (cf 46).toInt := e483
    have e484 : (cf474 47).toInt = (cf 47).toInt := e484
    have e485 : (cf474 57).toInt = (cf 57).toInt := e485
    have e486 : (cf474 37).toInt = (cf 37).toInt := e486
    have e487 : (cf474 42).toInt = (cf 42).toInt := e487
    have e488 : (cf474 43).toInt = (cf 43).toInt := e488
    have e489 : (cf474 44).toInt = (cf 44).toInt := e489
    have e490 : (cf474 45).toInt = (cf 45).toInt := e490
    have e491 : (cf474 54).toInt = (cf 54).toInt := e491
    have e492 : (cf474 55).toInt = (cf 55).toInt := e492
    have e493 : (cf474 58).toInt = (cf 58).toInt := e493
    have e494 : (cf474 59).toInt = (cf 59).toInt := e494
    have e495 : (cf474 41).toInt = (cf 41).toInt := e495
    have e496 : R_mp_bad (1 : Int32) z465 cf cf474 := e496
    refine lv_aload_n S.x S.b d_Mpg_checkFunction_37 rfl (lv_at hl 2 rfl) ?_
    refine gP_33 (v := (cf474 33)) S hT hw 0 rfl rfl m10_22 d_Mpg_checkFunction_38 ?_
    refine lv_istore (lv' := [(4, .int (cf474 33)), (3, .int z465), (2, .int nd), (0, .ref h), (1, .int p0)]) S.x S.b d_Mpg_checkFunction_41 hl (by decide) rfl (fun ls hl => ?_)
    refine lv_aload_n S.x S.b d_Mpg_checkFunction_43 rfl (lv_at hl 3 rfl) ?_
    refine gP_37 (v := (cf474 37)) S hT hw 0 rfl rfl m10_26 d_Mpg_checkFunction_44 ?_
    refine lv_istore (lv' := [(5, .int (cf474 37)), (4, .int (cf474 33)), (3, .int z465), (2, .int nd), (0, .ref h), (1, .int p0)]) S.x S.b d_Mpg_checkFunction_47 hl (by decide) rfl (fun ls hl => ?_)
    refine lv_aload_n S.x S.b d_Mpg_checkFunction_49 rfl (lv_at hl 4 rfl) ?_
    refine lv_aload_n S.x S.b d_Mpg_checkFunction_50 rfl (lv_at hl 4 rfl) ?_
    refine gP_33 (v := (cf474 33)) S hT hw 0 rfl rfl m10_22 d_Mpg_checkFunction_51 ?_
    refine pP_37 S hT hw 0 rfl m10_26 rfl rfl rfl d_Mpg_checkFunction_54 (ps' := [wdP cs h r g tf ta pf na ma wa (upd cf474 37 (cf474 33)) ca ef ea xf xa]) rfl (fun H locs hw => ?_)
    refine lv_aload_n S.x S.b d_Mpg_checkFunction_57 rfl (lv_at hl 4 rfl) ?_
    refine lv_iload_n S.x S.b d_Mpg_checkFunction_58 rfl (lv_at hl 3 rfl) ?_
    refine pP_43 S hT hw 0 rfl m10_34 rfl rfl rfl d_Mpg_checkFunction_59 (ps' := [wdP cs h r g tf ta pf na ma wa (upd (upd cf474 37 (cf474 33)) 43 nd) ca ef ea xf xa]) rfl (fun H locs hw => ?_)
    refine lv_aload_n S.x S.b d_Mpg_checkFunction_62 rfl (lv_at hl 4 rfl) ?_
    refine lv_iconst (v := 4) S.x S.b d_Mpg_checkFunction_63 (by decide) ?_
    refine pP_42 S hT hw 0 rfl m10_33 rfl rfl rfl d_Mpg_checkFunction_64 (ps' := [wdP cs h r g tf ta pf na ma wa (upd (upd (upd cf474 37 (cf474 33)) 42 4) 43 nd) ca ef ea xf xa]) rfl (fun H locs hw => ?_)
    refine lv_aload_n S.x S.b d_Mpg_checkFunction_67 rfl (lv_at hl 4 rfl) ?_
    refine lv_iconst (v := 0) S.x S.b d_Mpg_checkFunction_68 (by decide) ?_
    refine pP_54 S hT hw 0 rfl m10_49 rfl rfl rfl d_Mpg_checkFunction_69 (ps' := [wdP cs h r g tf ta pf na ma wa (upd (upd (upd (upd cf474 37 (cf474 33)) 42 4) 43 nd) 54 0) ca ef ea xf xa]) rfl (fun H locs hw => ?_)
    refine lv_aload_n S.x S.b d_Mpg_checkFunction_72 rfl (lv_at hl 4 rfl) ?_
    refine gP_17 S hT hw 0 rfl m10_1 d_Mpg_checkFunction_73 ?_
    refine lv_iload_n S.x S.b d_Mpg_checkFunction_76 rfl (lv_at hl 3 rfl) ?_
    refine px_iald S hT hw 0 13 (n := 2100) (f := (na 17)) rfl gp_17 (x := nd) (vp_in_iff.mpr (by constructor <;> omega)) d_Mpg_checkFunction_77 ?_
    refine lv_topi (fun z497 ez497 => ?_)
    have lz497 := Int32.le_toInt z497
    have uz497 := Int32.toInt_lt z497
    have rz497 : z497.toInt = (na 17 nd.toNatClampNeg).toInt := by rw [ez497]
    have hq77 : z497.toInt = (na 17 nd.toNatClampNeg).toInt := (by rw [ez497])
    refine lv_istore (lv' := [(6, .int z497), (5, .int (cf474 37)), (4, .int (cf474 33)), (3, .int z465), (2, .int nd), (0, .ref h), (1, .int p0)]) S.x S.b d_Mpg_checkFunction_78 hl (by decide) rfl (fun ls hl => ?_)
    first | exact J80 ((m1 - (nd.toInt + 1)).toNat + 1) ma (upd (upd (upd (upd cf474 37 (cf474 33)) 42 4) 43 nd) 54 0) ca (nd.toInt + 1) wp (cf474 33) (cf474 37) z497 _ _ ls (show (cf474 30).toInt = 0 → (cf 30).toInt = 0 from hkz_e477) (show WrV (upd (upd (upd (upd cf474 37 (cf474 33)) 42 4) 43 nd) 54 0) (tf 6).toInt from (WrV.u (WrV.u (WrV.u (WrV.u hwr (by decide) (by decide)) (by decide) (by decide)) (by decide) (by decide)) (by decide) (by decide))) (show (cf474 38).toInt = (cf 38).toInt from e481) (show (cf474 44).toInt = (cf 44).toInt from e489) (show (cf474 45).toInt = (cf 45).toInt from e490) (show (cf474 46).toInt = (cf 46).toInt from e483) (show (cf474 47).toInt = (cf 47).toInt from e484) (show (cf474 41).toInt = (cf 41).toInt from e495) (show (cf474 55).toInt = (cf 55).toInt from e492) (show (cf474 33).toInt = (cf 33).toInt from e480) (show nd.toInt = nd.toInt from rfl) (show (cf 33).toInt ≤ (cf474 33).toInt from (oz_f9b42d1b56 e480)) (show 6 * (cf474 33).toInt ≤ 6 * (cf 33).toInt + (wp - wp) from (oz_3b2a82b8fc e480)) (show (cf 48).toInt ≤ (cf474 48).toInt from (oz_f9b42d1b56 e482)) (show 6 * (cf474 48).toInt ≤ 6 * (cf 48).toInt + (wp - wp) from (oz_3b2a82b8fc e482)) (show 4 ≤ (4 : Int) from oz_2170ba78f0) (show 0 ≤ (0 : Int) from oz_5a341f00aa) (show (0 : Int) ≤ 4 * ((4 : Int) - 4) from oz_53c6623dd4) (show (0 : Int) ≤ 4096 * ((cf474 48).toInt - (cf 48).toInt) from (oz_87aa8a2640 e482)) (show (4 : Int) - 4 ≤ 4096 * ((cf474 48).toInt - (cf 48).toInt) from (oz_fee1adc983 e482)) (show (cf474 33).toInt = (cf 33).toInt from e480) (show (cf474 37).toInt = (cf 37).toInt from e486) (show nd.toInt + 1 ≤ (nd.toInt + 1) from oz_a1bc7e1f12) (show (nd.toInt + 1) ≤ m1 from by omega) (show 0 ≤ wp from by omega) (show wp ≤ wp from oz_1cb5f934a5) (show KnT (tf 6).toInt ca (cf474 33).toInt from (KnT.eq hkt (by omega))) (show KnS ca (cf474 33).toInt (cf474 48).toInt ys from (KnS.eq hks (by omega) (by omega))) (show CaG ca ca (cf 33).toInt (cf 48).toInt from (hcg.le (by omega) (by omega))) (show SyR ca ys (cf474 48).toInt (0 : Int) tx from (SyR.eq hsr (by omega) (by omega))) (show Ann na ma0 ma from han) (show FrC lo hi ma ma from hfc) (show RvP ta (tf 6).toInt na ma0 (nd.toInt + 1) m1 wp z497 from (by rw [ez497]; exact hrpA)) (show PrS ca (cf474 48).toInt ys na ma lo (nd.toInt + 1) (na 17 nd.toNatClampNeg) z497 from (prs_0 ez497.symm)) (show ZFu (upd (upd (upd (upd cf474 37 (cf474 33)) 42 4) 43 nd) 54 0) ta na ca p0 from (fun zz => absurd (show (cf474 30).toInt = 0 from zz) (by omega))) (show K_mp_checkFunction_80 d tf ta na p0 ma cf ca ma (upd (upd (upd (upd cf474 37 (cf474 33)) 42 4) 43 nd) 54 0) ca (cf474 33) (cf474 37) z497 nd from (fun y_f0 y_f1 y_f2 k hE => Exists.intro (k + 1) (Or.inl ⟨rfl, nd, ez464, nd, rfl, z465, ez465, v467, e470, Or.inl ⟨nc471, cf474, e496, z497, ez497, hE⟩⟩))) (show m1 - (nd.toInt + 1) < ((((m1 - (nd.toInt + 1)).toNat + 1 : Nat) : Int) : Int) from oz_natlt) hw (lv_sub hl [5, 6, 4, 2, 1, 0] rfl) | (exact J80 ((m1 - (nd.toInt + 1)).toNat + 1) ma (upd (upd (upd (upd cf474 37 (cf474 33)) 42 4) 43 nd) 54 0) ca (nd.toInt + 1) wp (cf474 33) (cf474 37) z497 _ _ ls (show (cf474 30).toInt = 0 → (cf 30).toInt = 0 from by first | exact hkz_e477 | omega) (show WrV (upd (upd (upd (upd cf474 37 (cf474 33)) 42 4) 43 nd) 54 0) (tf 6).toInt from (WrV.u (WrV.u (WrV.u (WrV.u hwr (by decide) (by decide)) (by decide) (by decide)) (by decide) (by decide)) (by decide) (by decide))) (show (cf474 38).toInt = (cf 38).toInt from by first | exact e481 | omega) (show (cf474 44).toInt = (cf 44).toInt from by first | exact e489 | omega) (show (cf474 45).toInt = (cf 45).toInt from by first | exact e490 | omega) (show (cf474 46).toInt = (cf 46).toInt from by first | exact e483 | omega) (show (cf474 47).toInt = (cf 47).toInt from by first | exact e484 | omega) (show (cf474 41).toInt = (cf 41).toInt from by first | exact e495 | omega) (show (cf474 55).toInt = (cf 55).toInt from by first | exact e492 | omega) (show (cf474 33).toInt = (cf 33).toInt from by first | exact e480 | omega) (show nd.toInt = nd.toInt from rfl) (show (cf 33).toInt ≤ (cf474 33).toInt from by first | exact oz_f9b42d1b56 e480 | omega) (show 6 * (cf474 33).toInt ≤ 6 * (cf 33).toInt + (wp - wp) from by first | exact oz_3b2a82b8fc e480 | omega) (show (cf 48).toInt ≤ (cf474 48).toInt from by first | exact oz_f9b42d1b56 e482 | omega) (show 6 * (cf474 48).toInt ≤ 6 * (cf 48).toInt + (wp - wp) from by first | exact oz_3b2a82b8fc e482 | omega) (show 4 ≤ (4 : Int) from by first | exact oz_2170ba78f0 | omega) (show 0 ≤ (0 : Int) from by first | exact oz_5a341f00aa | omega) (show (0 : Int) ≤ 4 * ((4 : Int) - 4) from by first | exact oz_53c6623dd4 | omega) (show (0 : Int) ≤ 4096 * ((cf474 48).toInt - (cf 48).toInt) from by first | exact oz_87aa8a2640 e482 | omega) (show (4 : Int) - 4 ≤ 4096 * ((cf474 48).toInt - (cf 48).toInt) from by first | exact oz_fee1adc983 e482 | omega) (show (cf474 33).toInt = (cf 33).toInt from by first | exact e480 | omega) (show (cf474 37).toInt = (cf 37).toInt from by first | exact e486 | omega) (show nd.toInt + 1 ≤ (nd.toInt + 1) from by first | exact oz_a1bc7e1f12 | omega) (show (nd.toInt + 1) ≤ m1 from by omega) (show 0 ≤ wp from by omega) (show wp ≤ wp from by first | exact oz_1cb5f934a5 | omega) (show KnT (tf 6).toInt ca (cf474 33).toInt from (KnT.eq hkt (by omega))) (show KnS ca (cf474 33).toInt (cf474 48).toInt ys from (KnS.eq hks (by omega) (by omega))) (show CaG ca ca (cf 33).toInt (cf 48).toInt from (hcg.le (by omega) (by omega))) (show SyR ca ys (cf474 48).toInt (0 : Int) tx from (SyR.eq hsr (by omega) (by omega))) (show Ann na ma0 ma from han) (show FrC lo hi ma ma from hfc) (show RvP ta (tf 6).toInt na ma0 (nd.toInt + 1) m1 wp z497 from (by rw [ez497]; exact hrpA)) (show PrS ca (cf474 48).toInt ys na ma lo (nd.toInt + 1) (na 17 nd.toNatClampNeg) z497 from (prs_0 ez497.symm)) (show ZFu (upd (upd (upd (upd cf474 37 (cf474 33)) 42 4) 43 nd) 54 0) ta na ca p0 from (fun zz => absurd (show (cf474 30).toInt = 0 from zz) (by omega))) (show K_mp_checkFunction_80 d tf ta na p0 ma cf ca ma (upd (upd (upd (upd cf474 37 (cf474 33)) 42 4) 43 nd) 54 0) ca (cf474 33) (cf474 37) z497 nd from (fun y_f0 y_f1 y_f2 k hE => Exists.intro (k + 1) (Or.inl ⟨rfl, nd, ez464, nd, rfl, z465, ez465, v467, e470, Or.inl ⟨nc471, cf474, e496, z497, ez497, hE⟩⟩))) (show m1 - (nd.toInt + 1) < ((((m1 - (nd.toInt + 1)).toNat + 1 : Nat) : Int) : Int) from by first | exact oz_natlt | omega) hw (lv_sub hl [5, 6, 4, 2, 1, 0] rfl))
  · have nc471 : ¬ (0 : Int) ≤ v467.toInt := mt (i_le (x := 0) (y := v467)).mpr c471
    refine lv_aload_n S.x S.b d_Mpg_checkFunction_22 rfl (lv_at hl 2 rfl) ?_
    refine lv_iload_n S.x S.b d_Mpg_checkFunction_23 rfl (lv_at hl 0 rfl) ?_
    first | refine px_calli (pr := []) (px_runV (As := [.int z465]) (rest := []) S (c_mp_findFunction2 l D cs h r g tf ta pf na ma wa cf ca ef ea xf xa z465  (show 0 ≤ z465.toInt from by omega) (show z465.toInt < (tf 6).toInt from by omega) (show (tf 6).toInt ≤ 2049 from g3) (show 0 ≤ (cf 38).toInt from (oz_f3ebed1ad0 g9 g10)) htk (FnT.eq hft (by omega)) _) hT (pr := []) (pcs := [wdP cs h r g tf ta pf na ma wa cf ca ef ea xf xa]) hw px_X.tt (px_recv hT hw 0 0 rfl rfl rfl) m12_165 m12_162 m12_164 ms_11_10 m1_21 q_Mpg_findFunction ⟨show 1 + 1 ≤ (6 * d + 30) from (oz_cfa840a818), show 8 + (3 + 11) + 40 ≤ (260 * d + 1200) from (oz_087f2c1197)⟩ hl.1 rfl (Nat.le_of_ble_eq_true rfl) d_Mpg_checkFunction_24 ⟨Nat.le_of_ble_eq_true rfl, Nat.le_of_ble_eq_true rfl⟩) hw hA (fun v499 p498 H locs hp498 hw => ?_) | (refine px_calli (pr := []) (px_runV (As := [.int z465]) (rest := []) S (c_mp_findFunction2 l D cs h r g tf ta pf na ma wa cf ca ef ea xf xa z465  (show 0 ≤ z465.toInt from by omega) (show z465.toInt < (tf 6).toInt from by omega) (show (tf 6).toInt ≤ 2049 from by first | exact g3 | omega) (show 0 ≤ (cf 38).toInt from by first | exact oz_f3ebed1ad0 g9 g10 | omega) htk (FnT.eq hft (by omega)) _) hT (pr := []) (pcs := [wdP cs h r g tf ta pf na ma wa cf ca ef ea xf xa]) hw px_X.tt (px_recv hT hw 0 0 rfl rfl rfl) m12_165 m12_162 m12_164 ms_11_10 m1_21 q_Mpg_findFunction ⟨show 1 + 1 ≤ (6 * d + 30) from (by first | exact oz_cfa840a818 | omega), show 8 + (3 + 11) + 40 ≤ (260 * d + 1200) from (by first | exact oz_087f2c1197 | omega)⟩ hl.1 rfl (Nat.le_of_ble_eq_true rfl) d_Mpg_checkFunction_24 ⟨Nat.le_of_ble_eq_true rfl, Nat.le_of_ble_eq_true rfl⟩) hw hA (fun v499 p498 H locs hp498 hw => ?_))
    obtain ⟨rfl, e500, e501, e502, e503⟩ := hp498
    have e500 : -1 ≤ v499.toInt := e500
    have e501 : v499.toInt < (cf 38).toInt := e501
    have e502 : FfV ta na ca (cf 38).toInt z465 v499.toInt := e502
    have hff := e502
    have e503 : R_mp_findFunction2 ta na cf ca z465 v499 := e503
    have lv499 := Int32.le_toInt v499
    have uv499 := Int32.toInt_lt v499
    refine lv_iload_n S.x S.b d_Mpg_checkFunction_27 rfl (lv_at hl 3 rfl) ?_
    refine lv_icmp_eq (tgt := 37) S.x S.b d_Mpg_checkFunction_28 (by decide) (fun c504 => ?_) (fun c504 => ?_)
    · have nc504 : v499.toInt = p0.toInt := (i_eq (x := v499) (y := p0)).mp c504
      refine lv_aload_n S.x S.b d_Mpg_checkFunction_37 rfl (lv_at hl 2 rfl) ?_
      refine gP_33 (v := (cf 33)) S hT hw 0 rfl rfl m10_22 d_Mpg_checkFunction_38 ?_
      refine lv_istore (lv' := [(4, .int (cf 33)), (3, .int z465), (2, .int nd), (0, .ref h), (1, .int p0)]) S.x S.b d_Mpg_checkFunction_41 hl (by decide) rfl (fun ls hl => ?_)
      refine lv_aload_n S.x S.b d_Mpg_checkFunction_43 rfl (lv_at hl 3 rfl) ?_
      refine gP_37 (v := (cf 37)) S hT hw 0 rfl rfl m10_26 d_Mpg_checkFunction_44 ?_
      refine lv_istore (lv' := [(5, .int (cf 37)), (4, .int (cf 33)), (3, .int z465), (2, .int nd), (0, .ref h), (1, .int p0)]) S.x S.b d_Mpg_checkFunction_47 hl (by decide) rfl (fun ls hl => ?_)
      refine lv_aload_n S.x S.b d_Mpg_checkFunction_49 rfl (lv_at hl 4 rfl) ?_
      refine lv_aload_n S.x S.b d_Mpg_checkFunction_50 rfl (lv_at hl 4 rfl) ?_
      refine gP_33 (v := (cf 33)) S hT hw 0 rfl rfl m10_22 d_Mpg_checkFunction_51 ?_
      refine pP_37 S hT hw 0 rfl m10_26 rfl rfl rfl d_Mpg_checkFunction_54 (ps' := [wdP cs h r g tf ta pf na ma wa (upd cf 37 (cf 33)) ca ef ea xf xa]) rfl (fun H locs hw => ?_)
      refine lv_aload_n S.x S.b d_Mpg_checkFunction_57 rfl (lv_at hl 4 rfl) ?_
      refine lv_iload_n S.x S.b d_Mpg_checkFunction_58 rfl (lv_at hl 3 rfl) ?_
      refine pP_43 S hT hw 0 rfl m10_34 rfl rfl rfl d_Mpg_checkFunction_59 (ps' := [wdP cs h r g tf ta pf na ma wa (upd (upd cf 37 (cf 33)) 43 nd) ca ef ea xf xa]) rfl (fun H locs hw => ?_)
      refine lv_aload_n S.x S.b d_Mpg_checkFunction_62 rfl (lv_at hl 4 rfl) ?_
      refine lv_iconst (v := 4) S.x S.b d_Mpg_checkFunction_63 (by decide) ?_
      refine pP_42 S hT hw 0 rfl m10_33 rfl rfl rfl d_Mpg_checkFunction_64 (ps' := [wdP cs h r g tf ta pf na ma wa (upd (upd (upd cf 37 (cf 33)) 42 4) 43 nd) ca ef ea xf xa]) rfl (fun H locs hw => ?_)
      refine lv_aload_n S.x S.b d_Mpg_checkFunction_67 rfl (lv_at hl 4 rfl) ?_
      refine lv_iconst (v := 0) S.x S.b d_Mpg_checkFunction_68 (by decide) ?_
      refine pP_54 S hT hw 0 rfl m10_49 rfl rfl rfl d_Mpg_checkFunction_69 (ps' := [wdP cs h r g tf ta pf na ma wa (upd (upd (upd (upd cf 37 (cf 33)) 42 4) 43 nd) 54 0) ca ef ea xf xa]) rfl (fun H locs hw => ?_)
      refine lv_aload_n S.x S.b d_Mpg_checkFunction_72 rfl (lv_at hl 4 rfl) ?_
      refine gP_17 S hT hw 0 rfl m10_1 d_Mpg_checkFunction_73 ?_
      refine lv_iload_n S.x S.b d_Mpg_checkFunction_76 rfl (lv_at hl 3 rfl) ?_
      refine px_iald S hT hw 0 13 (n := 2100) (f := (na 17)) rfl gp_17 (x := nd) (vp_in_iff.mpr (by constructor <;> omega)) d_Mpg_checkFunction_77 ?_
      refine lv_topi (fun z506 ez506 => ?_)
      have lz506 := Int32.le_toInt z506
      have uz506 := Int32.toInt_lt z506
      have rz506 : z506.toInt = (na 17 nd.toNatClampNeg).toInt := by rw [ez506]
      have hq77 : z506.toInt = (na 17 nd.toNatClampNeg).toInt := (by rw [ez506])
      refine lv_istore (lv' := [(6, .int z506), (5, .int (cf 37)), (4, .int (cf 33)), (3, .int z465), (2, .int nd), (0, .ref h), (1, .int p0)]) S.x S.b d_Mpg_checkFunction_78 hl (by decide) rfl (fun ls hl => ?_)
      first | exact J80 ((m1 - (nd.toInt + 1)).toNat + 1) ma (upd (upd (upd (upd cf 37 (cf 33)) 42 4) 43 nd) 54 0) ca (nd.toInt + 1) wp (cf 33) (cf 37) z506 _ _ ls (show (cf 30).toInt = 0 → (cf 30).toInt = 0 from (fun q9 => q9)) (show WrV (upd (upd (upd (upd cf 37 (cf 33)) 42 4) 43 nd) 54 0) (tf 6).toInt from (WrV.u (WrV.u (WrV.u (WrV.u hwr (by decide) (by decide)) (by decide) (by decide)) (by decide) (by decide)) (by decide) (by decide))) (show (cf 38).toInt = (cf 38).toInt from rfl) (show (cf 44).toInt = (cf 44).toInt from rfl) (show (cf 45).toInt = (cf 45).toInt from rfl) (show (cf 46).toInt = (cf 46).toInt from rfl) (show (cf 47).toInt = (cf 47).toInt from rfl) (show (cf 41).toInt = (cf 41).toInt from rfl) (show (cf 55).toInt = (cf 55).toInt from rfl) (show (cf 33).toInt = (cf 33).toInt from rfl) (show nd.toInt = nd.toInt from rfl) (show (cf 33).toInt ≤ (cf 33).toInt from oz_1cb5f934a5) (show 6 * (cf 33).toInt ≤ 6 * (cf 33).toInt + (wp - wp) from oz_1c3b0c11f9) (show (cf 48).toInt ≤ (cf 48).toInt from oz_1cb5f934a5) (show 6 * (cf 48).toInt ≤ 6 * (cf 48).toInt + (wp - wp) from oz_1c3b0c11f9) (show 4 ≤ (4 : Int) from oz_2170ba78f0) (show 0 ≤ (0 : Int) from oz_5a341f00aa) (show (0 : Int) ≤ 4 * ((4 : Int) - 4) from oz_53c6623dd4) (show (0 : Int) ≤ 4096 * ((cf 48).toInt - (cf 48).toInt) from oz_0e660507e8) (show (4 : Int) - 4 ≤ 4096 * ((cf 48).toInt - (cf 48).toInt) from oz_9715964488) (show (cf 33).toInt = (cf 33).toInt from rfl) (show (cf 37).toInt = (cf 37).toInt from rfl) (show nd.toInt + 1 ≤ (nd.toInt + 1) from oz_a1bc7e1f12) (show (nd.toInt + 1) ≤ m1 from by omega) (show 0 ≤ wp from by omega) (show wp ≤ wp from oz_1cb5f934a5) (show KnT (tf 6).toInt ca (cf 33).toInt from (KnT.eq hkt (by omega))) (show KnS ca (cf 33).toInt (cf 48).toInt ys from (KnS.eq hks (by omega) (by omega))) (show CaG ca ca (cf 33).toInt (cf 48).toInt from (hcg.le (by omega) (by omega))) (show SyR ca ys (cf 48).toInt (0 : Int) tx from (SyR.eq hsr (by omega) (by omega))) (show Ann na ma0 ma from han) (show FrC lo hi ma ma from hfc) (show RvP ta (tf 6).toInt na ma0 (nd.toInt + 1) m1 wp z506 from (by rw [ez506]; exact hrpA)) (show PrS ca (cf 48).toInt ys na ma lo (nd.toInt + 1) (na 17 nd.toNatClampNeg) z506 from (prs_0 ez506.symm)) (show ZFu (upd (upd (upd (upd cf 37 (cf 33)) 42 4) 43 nd) 54 0) ta na ca p0 from (zfu_mk hff (by omega) (by omega) e_nd ez465)) (show K_mp_checkFunction_80 d tf ta na p0 ma cf ca ma (upd (upd (upd (upd cf 37 (cf 33)) 42 4) 43 nd) 54 0) ca (cf 33) (cf 37) z506 nd from (fun y_f0 y_f1 y_f2 k hE => Exists.intro (k + 1) (Or.inl ⟨rfl, nd, ez464, nd, rfl, z465, ez465, v467, e470, Or.inr ⟨nc471, v499, e503, Or.inl ⟨nc504, z506, ez506, hE⟩⟩⟩))) (show m1 - (nd.toInt + 1) < ((((m1 - (nd.toInt + 1)).toNat + 1 : Nat) : Int) : Int) from oz_natlt) hw (lv_sub hl [5, 6, 4, 2, 1, 0] rfl) | (exact J80 ((m1 - (nd.toInt + 1)).toNat + 1) ma (upd (upd (upd (upd cf 37 (cf 33)) 42 4) 43 nd) 54 0) ca (nd.toInt + 1) wp (cf 33) (cf 37) z506 _ _ ls (show (cf 30).toInt = 0 → (cf 30).toInt = 0 from by first | exact fun q9 => q9 | omega) (show WrV (upd (upd (upd (upd cf 37 (cf 33)) 42 4) 43 nd) 54 0) (tf 6).toInt from (WrV.u (WrV.u (WrV.u (WrV.u hwr (by decide) (by decide)) (by decide) (by decide)) (by decide) (by decide)) (by decide) (by decide))) (show (cf 38).toInt = (cf 38).toInt from rfl) (show (cf 44).toInt = (cf 44).toInt from rfl) (show (cf 45).toInt = (cf 45).toInt from rfl) (show (cf 46).toInt = (cf 46).toInt from rfl) (show (cf 47).toInt = (cf 47).toInt from rfl) (show (cf 41).toInt = (cf 41).toInt from rfl) (show (cf 55).toInt = (cf 55).toInt from rfl) (show (cf 33).toInt = (cf 33).toInt from rfl) (show nd.toInt = nd.toInt from rfl) (show (cf 33).toInt ≤ (cf 33).toInt from by first | exact oz_1cb5f934a5 | omega) (show 6 * (cf 33).toInt ≤ 6 * (cf 33).toInt + (wp - wp) from by first | exact oz_1c3b0c11f9 | omega) (show (cf 48).toInt ≤ (cf 48).toInt from by first | exact oz_1cb5f934a5 | omega) (show 6 * (cf 48).toInt ≤ 6 * (cf 48).toInt + (wp - wp) from by first | exact oz_1c3b0c11f9 | omega) (show 4 ≤ (4 : Int) from by first | exact oz_2170ba78f0 | omega) (show 0 ≤ (0 : Int) from by first | exact oz_5a341f00aa | omega) (show (0 : Int) ≤ 4 * ((4 : Int) - 4) from by first | exact oz_53c6623dd4 | omega) (show (0 : Int) ≤ 4096 * ((cf 48).toInt - (cf 48).toInt) from by first | exact oz_0e660507e8 | omega) (show (4 : Int) - 4 ≤ 4096 * ((cf 48).toInt - (cf 48).toInt) from by first | exact oz_9715964488 | omega) (show (cf 33).toInt = (cf 33).toInt from rfl) (show (cf 37).toInt = (cf 37).toInt from rfl) (show nd.toInt + 1 ≤ (nd.toInt + 1) from by first | exact oz_a1bc7e1f12 | omega) (show (nd.toInt + 1) ≤ m1 from by omega) (show 0 ≤ wp from by omega) (show wp ≤ wp from by first | exact oz_1cb5f934a5 | omega) (show KnT (tf 6).toInt ca (cf 33).toInt from (KnT.eq hkt (by omega))) (show KnS ca (cf 33).toInt (cf 48).toInt ys from (KnS.eq hks (by omega) (by omega))) (show CaG ca ca (cf 33).toInt (cf 48).toInt from (hcg.le (by omega) (by omega))) (show SyR ca ys (cf 48).toInt (0 : Int) tx from (SyR.eq hsr (by omega) (by omega))) (show Ann na ma0 ma from han) (show FrC lo hi ma ma from hfc) (show RvP ta (tf 6).toInt na ma0 (nd.toInt + 1) m1 wp z506 from (by rw [ez506]; exact hrpA)) (show PrS ca (cf 48).toInt ys na ma lo (nd.toInt + 1) (na 17 nd.toNatClampNeg) z506 from (prs_0 ez506.symm)) (show ZFu (upd (upd (upd (upd cf 37 (cf 33)) 42 4) 43 nd) 54 0) ta na ca p0 from (zfu_mk hff (by omega) (by omega) e_nd ez465)) (show K_mp_checkFunction_80 d tf ta na p0 ma cf ca ma (upd (upd (upd (upd cf 37 (cf 33)) 42 4) 43 nd) 54 0) ca (cf 33) (cf 37) z506 nd from (fun y_f0 y_f1 y_f2 k hE => Exists.intro (k + 1) (Or.inl ⟨rfl, nd, ez464, nd, rfl, z465, ez465, v467, e470, Or.inr ⟨nc471, v499, e503, Or.inl ⟨nc504, z506, ez506, hE⟩⟩⟩))) (show m1 - (nd.toInt + 1) < ((((m1 - (nd.toInt + 1)).toNat + 1 : Nat) : Int) : Int) from by first | exact oz_natlt | omega) hw (lv_sub hl [5, 6, 4, 2, 1, 0] rfl))
    · have nc504 : ¬ v499.toInt = p0.toInt := mt (i_eq (x := v499) (y := p0)).mpr c504
      refine lv_aload_n S.x S.b d_Mpg_checkFunction_31 rfl (lv_at hl 2 rfl) ?_
      refine lv_iconst (v := 1) S.x S.b d_Mpg_checkFunction_32 (by decide) ?_
      refine lv_iload_n S.x S.b d_Mpg_checkFunction_33 rfl (lv_at hl 0 rfl) ?_
      first | refine px_callv (pr := []) (px_runV (As := [.int 1, .int z465]) (rest := []) S (c_mp_bad l D cs h r g tf ta pf na ma wa ca ef ea xf xa cf 1 z465  (show 1 ≤ (1 : Int) from oz_5ec2f32d28) (show 0 ≤ z465.toInt from by omega) (show z465.toInt < (tf 6).toInt from by omega) htk hwr _) hT (pr := []) (pcs := [wdP cs h r g tf ta pf na ma wa cf ca ef ea xf xa]) hw px_X.tt (px_recv hT hw 0 0 rfl rfl rfl) m12_173 m12_170 m12_172 ms_11_12 m1_21 q_Mpg_bad ⟨show 0 + 1 ≤ (6 * d + 30) from (oz_87ccaac56f), show 8 + (3 + 11) + 0 ≤ (260 * d + 1200) from (oz_afd8bf942c)⟩ hl.1 rfl (Nat.le_of_ble_eq_true rfl) d_Mpg_checkFunction_34 ⟨Nat.le_of_ble_eq_true rfl, Nat.le_of_ble_eq_true rfl⟩) hw hA (fun p509 H locs hp509 hw => ?_) | (refine px_callv (pr := []) (px_runV (As := [.int 1, .int z465]) (rest := []) S (c_mp_bad l D cs h r g tf ta pf na ma wa ca ef ea xf xa cf 1 z465  (show 1 ≤ (1 : Int) from by first | exact oz_5ec2f32d28 | omega) (show 0 ≤ z465.toInt from by omega) (show z465.toInt < (tf 6).toInt from by omega) htk hwr _) hT (pr := []) (pcs := [wdP cs h r g tf ta pf na ma wa cf ca ef ea xf xa]) hw px_X.tt (px_recv hT hw 0 0 rfl rfl rfl) m12_173 m12_170 m12_172 ms_11_12 m1_21 q_Mpg_bad ⟨show 0 + 1 ≤ (6 * d + 30) from (by first | exact oz_87ccaac56f | omega), show 8 + (3 + 11) + 0 ≤ (260 * d + 1200) from (by first | exact oz_afd8bf942c | omega)⟩ hl.1 rfl (Nat.le_of_ble_eq_true rfl) d_Mpg_checkFunction_34 ⟨Nat.le_of_ble_eq_true rfl, Nat.le_of_ble_eq_true rfl⟩) hw hA (fun p509 H locs hp509 hw => ?_))
      obtain ⟨cf508, rfl, e511, e512, e513, e514, e515, e516, e517, e518, e519, e520, e521, e522, e523, e524, e525, e526, e527, e528, e529, e530⟩ := hp509
      have e511 : KpE cf cf508 := e511
      have hkz_e511 := e511.2
      have e512 : WrV cf508 (tf 6).toInt := e512
      have hwr := e512
      have hw0_e512 := hwr.1
      have e513 : 1 ≤ (cf508 30).toInt := e513
      have e514 : (cf508 33).toInt = (cf 33).toInt := e514
      have e515 : (cf508 38).toInt = (cf 38).toInt := e515
      have e516 : (cf508 48).toInt = (cf 48).toInt := e516
      have e517 : (cf508 46).toInt = (cf 46).toInt := e517
      have e518 : (cf508 47).toInt = (cf 47).toInt := e518
      have e519 : (cf508 57).toInt = (cf 57).toInt := e519
      have e520 : (cf508 37).toInt = (cf 37).toInt := e520
      have e521 : (cf508 42).toInt = (cf 42).toInt := e521
      have e522 : (cf508 43).toInt = (cf 43).toInt := e522
      have e523 : (cf508 44).toInt = (cf 44).toInt := e523
      have e524 : (cf508 45).toInt = (cf 45).toInt := e524
      have e525 : (cf508 54).toInt = (cf 54).toInt := e525
      have e526 : (cf508 55).toInt = (cf 55).toInt := e526
      have e527 : (cf508 58).toInt = (cf 58).toInt := e527
      have e528 : (cf508 59).toInt = (cf 59).toInt := e528
      have e529 : (cf508 41).toInt = (cf 41).toInt := e529
      have e530 : R_mp_bad (1 : Int32) z465 cf cf508 := e530
      refine lv_aload_n S.x S.b d_Mpg_checkFunction_37 rfl (lv_at hl 2 rfl) ?_
      refine gP_33 (v := (cf508 33)) S hT hw 0 rfl rfl m10_22 d_Mpg_checkFunction_38 ?_
      refine lv_istore (lv' := [(4, .int (cf508 33)), (3, .int z465), (2, .int nd), (0, .ref h), (1, .int p0)]) S.x S.b d_Mpg_checkFunction_41 hl (by decide) rfl (fun ls hl => ?_)
      refine lv_aload_n S.x S.b d_Mpg_checkFunction_43 rfl (lv_at hl 3 rfl) ?_
      refine gP_37 (v := (cf508 37)) S hT hw 0 rfl rfl m10_26 d_Mpg_checkFunction_44 ?_
      refine lv_istore (lv' := [(5, .int (cf508 37)), (4, .int (cf508 33)), (3, .int z465), (2, .int nd), (0, .ref h), (1, .int p0)]) S.x S.b d_Mpg_checkFunction_47 hl (by decide) rfl (fun ls hl => ?_)
      refine lv_aload_n S.x S.b d_Mpg_checkFunction_49 rfl (lv_at hl 4 rfl) ?_
      refine lv_aload_n S.x S.b d_Mpg_checkFunction_50 rfl (lv_at hl 4 rfl) ?_
      refine gP_33 (v := (cf508 33)) S hT hw 0 rfl rfl m10_22 d_Mpg_checkFunction_51 ?_
      refine pP_37 S hT hw 0 rfl m10_26 rfl rfl rfl d_Mpg_checkFunction_54 (ps' := [wdP cs h r g tf ta pf na ma wa (upd cf508 37 (cf508 33)) ca ef ea xf xa]) rfl (fun H locs hw => ?_)
      refine lv_aload_n S.x S.b d_Mpg_checkFunction_57 rfl (lv_at hl 4 rfl) ?_
      refine lv_iload_n S.x S.b d_Mpg_checkFunction_58 rfl (lv_at hl 3 rfl) ?_
      refine pP_43 S hT hw 0 rfl m10_34 rfl rfl rfl d_Mpg_checkFunction_59 (ps' := [wdP cs h r g tf ta pf na ma wa (upd (upd cf508 37 (cf508 33)) 43 nd) ca ef ea xf xa]) rfl (fun H locs hw => ?_)
      refine lv_aload_n S.x S.b d_Mpg_checkFunction_62 rfl (lv_at hl 4 rfl) ?_
      refine lv_iconst (v := 4) S.x S.b d_Mpg_checkFunction_63 (by decide) ?_
      refine pP_42 S hT hw 0 rfl m10_33 rfl rfl rfl d_Mpg_checkFunction_64 (ps' := [wdP cs h r g tf ta pf na ma wa (upd (upd (upd cf508 37 (cf508 33)) 42 4) 43 nd) ca ef ea xf xa]) rfl (fun H locs hw => ?_)
      refine lv_aload_n S.x S.b d_Mpg_checkFunction_67 rfl (lv_at hl 4 rfl) ?_
      refine lv_iconst (v := 0) S.x S.b d_Mpg_checkFunction_68 (by decide) ?_
      refine pP_54 S hT hw 0 rfl m10_49 rfl rfl rfl d_Mpg_checkFunction_69 (ps' := [wdP cs h r g tf ta pf na ma wa (upd (upd (upd (upd cf508 37 (cf508 33)) 42 4) 43 nd) 54 0) ca ef ea xf xa]) rfl (fun H locs hw => ?_)
      refine lv_aload_n S.x S.b d_Mpg_checkFunction_72 rfl (lv_at hl 4 rfl) ?_
      refine gP_17 S hT hw 0 rfl m10_1 d_Mpg_checkFunction_73 ?_
      refine lv_iload_n S.x S.b d_Mpg_checkFunction_76 rfl (lv_at hl 3 rfl) ?_
      refine px_iald S hT hw 0 13 (n := 2100) (f := (na 17)) rfl gp_17 (x := nd) (vp_in_iff.mpr (by constructor <;> omega)) d_Mpg_checkFunction_77 ?_
      refine lv_topi (fun z531 ez531 => ?_)
      have lz531 := Int32.le_toInt z531
      have uz531 := Int32.toInt_lt z531
      have rz531 : z531.toInt = (na 17 nd.toNatClampNeg).toInt := by rw [ez531]
      have hq77 : z531.toInt = (na 17 nd.toNatClampNeg).toInt := (by rw [ez531])
      refine lv_istore (lv' := [(6, .int z531), (5, .int (cf508 37)), (4, .int (cf508 33)), (3, .int z465), (2, .int nd), (0, .ref h), (1, .int p0)]) S.x S.b d_Mpg_checkFunction_78 hl (by decide) rfl (fun ls hl => ?_)
      first | exact J80 ((m1 - (nd.toInt + 1)).toNat + 1) ma (upd (upd (upd (upd cf508 37 (cf508 33)) 42 4) 43 nd) 54 0) ca (nd.toInt + 1) wp (cf508 33) (cf508 37) z531 _ _ ls (show (cf508 30).toInt = 0 → (cf 30).toInt = 0 from hkz_e511) (show WrV (upd (upd (upd (upd cf508 37 (cf508 33)) 42 4) 43 nd) 54 0) (tf 6).toInt from (WrV.u (WrV.u (WrV.u (WrV.u hwr (by decide) (by decide)) (by decide) (by decide)) (by decide) (by decide)) (by decide) (by decide))) (show (cf508 38).toInt = (cf 38).toInt from e515) (show (cf508 44).toInt = (cf 44).toInt from e523) (show (cf508 45).toInt = (cf 45).toInt from e524) (show (cf508 46).toInt = (cf 46).toInt from e517) (show (cf508 47).toInt = (cf 47).toInt from e518) (show (cf508 41).toInt = (cf 41).toInt from e529) (show (cf508 55).toInt = (cf 55).toInt from e526) (show (cf508 33).toInt = (cf 33).toInt from e514) (show nd.toInt = nd.toInt from rfl) (show (cf 33).toInt ≤ (cf508 33).toInt from (oz_f9b42d1b56 e514)) (show 6 * (cf508 33).toInt ≤ 6 * (cf 33).toInt + (wp - wp) from (oz_3b2a82b8fc e514)) (show (cf 48).toInt ≤ (cf508 48).toInt from (oz_f9b42d1b56 e516)) (show 6 * (cf508 48).toInt ≤ 6 * (cf 48).toInt + (wp - wp) from (oz_3b2a82b8fc e516)) (show 4 ≤ (4 : Int) from oz_2170ba78f0) (show 0 ≤ (0 : Int) from oz_5a341f00aa) (show (0 : Int) ≤ 4 * ((4 : Int) - 4) from oz_53c6623dd4) (show (0 : Int) ≤ 4096 * ((cf508 48).toInt - (cf 48).toInt) from (oz_87aa8a2640 e516)) (show (4 : Int) - 4 ≤ 4096 * ((cf508 48).toInt - (cf 48).toInt) from (oz_fee1adc983 e516)) (show (cf508 33).toInt = (cf 33).toInt from e514) (show (cf508 37).toInt = (cf 37).toInt from e520) (show nd.toInt + 1 ≤ (nd.toInt + 1) from oz_a1bc7e1f12) (show (nd.toInt + 1) ≤ m1 from by omega) (show 0 ≤ wp from by omega) (show wp ≤ wp from oz_1cb5f934a5) (show KnT (tf 6).toInt ca (cf508 33).toInt from (KnT.eq hkt (by omega))) (show KnS ca (cf508 33).toInt (cf508 48).toInt ys from (KnS.eq hks (by omega) (by omega))) (show CaG ca ca (cf 33).toInt (cf 48).toInt from (hcg.le (by omega) (by omega))) (show SyR ca ys (cf508 48).toInt (0 : Int) tx from (SyR.eq hsr (by omega) (by omega))) (show Ann na ma0 ma from han) (show FrC lo hi ma ma from hfc) (show RvP ta (tf 6).toInt na ma0 (nd.toInt + 1) m1 wp z531 from (by rw [ez531]; exact hrpA)) (show PrS ca (cf508 48).toInt ys na ma lo (nd.toInt + 1) (na 17 nd.toNatClampNeg) z531 from (prs_0 ez531.symm)) (show ZFu (upd (upd (upd (upd cf508 37 (cf508 33)) 42 4) 43 nd) 54 0) ta na ca p0 from (fun zz => absurd (show (cf508 30).toInt = 0 from zz) (by omega))) (show K_mp_checkFunction_80 d tf ta na p0 ma cf ca ma (upd (upd (upd (upd cf508 37 (cf508 33)) 42 4) 43 nd) 54 0) ca (cf508 33) (cf508 37) z531 nd from (fun y_f0 y_f1 y_f2 k hE => Exists.intro (k + 1) (Or.inl ⟨rfl, nd, ez464, nd, rfl, z465, ez465, v467, e470, Or.inr ⟨nc471, v499, e503, Or.inr ⟨nc504, cf508, e530, z531, ez531, hE⟩⟩⟩))) (show m1 - (nd.toInt + 1) < ((((m1 - (nd.toInt + 1)).toNat + 1 : Nat) : Int) : Int) from oz_natlt) hw (lv_sub hl [5, 6, 4, 2, 1, 0] rfl) | (exact J80 ((m1 - (nd.toInt + 1)).toNat + 1) ma (upd (upd (upd (upd cf508 37 (cf508 33)) 42 4) 43 nd) 54 0) ca (nd.toInt + 1) wp (cf508 33) (cf508 37) z531 _ _ ls (show (cf508 30).toInt = 0 → (cf 30).toInt = 0 from by first | exact hkz_e511 | omega) (show WrV (upd (upd (upd (upd cf508 37 (cf508 33)) 42 4) 43 nd) 54 0) (tf 6).toInt from (WrV.u (WrV.u (WrV.u (WrV.u hwr (by decide) (by decide)) (by decide) (by decide)) (by decide) (by decide)) (by decide) (by decide))) (show (cf508 38).toInt = (cf 38).toInt from by first | exact e515 | omega) (show (cf508 44).toInt = (cf 44).toInt from by first | exact e523 | omega) (show (cf508 45).toInt = (cf 45).toInt from by first | exact e524 | omega) (show (cf508 46).toInt = (cf 46).toInt from by first | exact e517 | omega) (show (cf508 47).toInt = (cf 47).toInt from by first | exact e518 | omega) (show (cf508 41).toInt = (cf 41).toInt from by first | exact e529 | omega) (show (cf508 55).toInt = (cf 55).toInt from by first | exact e526 | omega) (show (cf508 33).toInt = (cf 33).toInt from by first | exact e514 | omega) (show nd.toInt = nd.toInt from rfl) (show (cf 33).toInt ≤ (cf508 33).toInt from by first | exact oz_f9b42d1b56 e514 | omega) (show 6 * (cf508 33).toInt ≤ 6 * (cf 33).toInt + (wp - wp) from by first | exact oz_3b2a82b8fc e514 | omega) (show (cf 48).toInt ≤ (cf508 48).toInt from by first | exact oz_f9b42d1b56 e516 | omega) (show 6 * (cf508 48).toInt ≤ 6 * (cf 48).toInt + (wp - wp) from by first | exact oz_3b2a82b8fc e516 | omega) (show 4 ≤ (4 : Int) from by first | exact oz_2170ba78f0 | omega) (show 0 ≤ (0 : Int) from by first | exact oz_5a341f00aa | omega) (show (0 : Int) ≤ 4 * ((4 : Int) - 4) from by first | exact oz_53c6623dd4 | omega) (show (0 : Int) ≤ 4096 * ((cf508 48).toInt - (cf 48).toInt) from by first | exact oz_87aa8a2640 e516 | omega) (show (4 : Int) - 4 ≤ 4096 * ((cf508 48).toInt - (cf 48).toInt) from by first | exact oz_fee1adc983 e516 | omega) (show (cf508 33).toInt = (cf 33).toInt from by first | exact e514 | omega) (show (cf508 37).toInt = (cf 37).toInt from by first | exact e520 | omega) (show nd.toInt + 1 ≤ (nd.toInt + 1) from by first | exact oz_a1bc7e1f12 | omega) (show (nd.toInt + 1) ≤ m1 from by omega) (show 0 ≤ wp from by omega) (show wp ≤ wp from by first | exact oz_1cb5f934a5 | omega) (show KnT (tf 6).toInt ca (cf508 33).toInt from (KnT.eq hkt (by omega))) (show KnS ca (cf508 33).toInt (cf508 48).toInt ys from (KnS.eq hks (by omega) (by omega))) (show CaG ca ca (cf 33).toInt (cf 48).toInt from (hcg.le (by omega) (by omega))) (show SyR ca ys (cf508 48).toInt (0 : Int) tx from (SyR.eq hsr (by omega) (by omega))) (show Ann na ma0 ma from han) (show FrC lo hi ma ma from hfc) (show RvP ta (tf 6).toInt na ma0 (nd.toInt + 1) m1 wp z531 from (by rw [ez531]; exact hrpA)) (show PrS ca (cf508 48).toInt ys na ma lo (nd.toInt + 1) (na 17 nd.toNatClampNeg) z531 from (prs_0 ez531.symm)) (show ZFu (upd (upd (upd (upd cf508 37 (cf508 33)) 42 4) 43 nd) 54 0) ta na ca p0 from (fun zz => absurd (show (cf508 30).toInt = 0 from zz) (by omega))) (show K_mp_checkFunction_80 d tf ta na p0 ma cf ca ma (upd (upd (upd (upd cf508 37 (cf508 33)) 42 4) 43 nd) 54 0) ca (cf508 33) (cf508 37) z531 nd from (fun y_f0 y_f1 y_f2 k hE => Exists.intro (k + 1) (Or.inl ⟨rfl, nd, ez464, nd, rfl, z465, ez465, v467, e470, Or.inr ⟨nc471, v499, e503, Or.inr ⟨nc504, cf508, e530, z531, ez531, hE⟩⟩⟩))) (show m1 - (nd.toInt + 1) < ((((m1 - (nd.toInt + 1)).toNat + 1 : Nat) : Int) : Int) from by first | exact oz_natlt | omega) hw (lv_sub hl [5, 6, 4, 2, 1, 0] rfl))
