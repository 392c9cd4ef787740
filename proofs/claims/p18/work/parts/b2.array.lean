theorem oz_c7a66485cf {a0 : Int} (h0 : (0 : Int) ≤ a0) : a0 ≤ 4 * a0 := by omega
theorem oz_ebe7f98d01 {a0 a1 : Int} (h0 : a1 < (0 : Int)) (h1 : (0 : Int) ≤ a1) : a0 = a1 + (3 : Int) := by omega
theorem oz_580d794320 {a0 a1 : Int} (h0 : a0 < (0 : Int)) (h1 : (0 : Int) ≤ a0) : a0 ≤ 4 * a1 := by omega
theorem oz_26cc6bf789 {a0 a1 : Int} (h0 : a1 ≤ a0) (h1 : 0 ≤ a1) : a0 ≤ 4 * a0 := by omega
theorem oz_06ab0f2373 {a0 a1 a2 a3 a4 a5 a6 : Int} (h0 : 0 ≤ a0) (h1 : a0 < a1) (h2 : a2 ≤ a3) (h3 : a4 + a1 ≤ a5) (h4 : a5 ≤ a2) (h5 : a3 ≤ 2100) (h6 : ¬ a4 ≤ a6) (h7 : ¬ a6 < (0 : Int)) : 0 ≤ a0 ∧ a0 < ((2100 : Nat) : Int) := by omega
theorem oz_03643ffaec {a0 a1 a2 : Int} (h0 : a0 = a2) (h1 : a2 < (a1)) : a0 < a1 := by omega
theorem oz_f1bd93de6e {a0 : Int} (h0 : ¬ a0 < (0 : Int)) : a0 ≤ 4 * a0 := by omega
theorem oz_8df2b9da5a {a0 a1 a2 : Int} (h0 : a1 ≤ a0) (h1 : a2 < a1) (h2 : 0 ≤ a2) : 0 ≤ a0 := by omega
theorem oz_8859ebd461 {a0 a1 a2 : Int} (h0 : a0 = a1) (h1 : 0 ≤ a1) (h2 : a1 < (a2)) (h3 : a2 ≤ 2049) : 0 ≤ a0 ∧ a0 < ((2060 : Nat) : Int) := by omega
theorem oz_b0a61accca {a0 a1 a2 : Int} (h0 : a2 < (a1)) (h1 : a0 = a2) : a0 < a1 := by omega
theorem oz_05158eb67a {a0 : Int}  : (0 : Int) + a0 ≤ a0 := by omega
theorem oz_70422203cd {a0 a1 : Int} (h0 : a1 = a0) (h1 : a1 = (2 : Int)) : a0 = 2 := by omega
theorem oz_0184fb6be8 {a0 : Int} (h0 : ¬ a0 < (1 : Int)) : 0 ≤ a0 := by omega
theorem oz_d819beab09 {a0 : Int} (h0 : a0 ≤ (4096 : Int)) : a0 ≤ 4096 := by omega
theorem oz_404e7427cb {a0 : Int} (h0 : ¬ a0 < (1 : Int)) : a0 ≤ 4 * a0 := by omega
theorem oz_8d86603399 {a0 : Int} (h0 : a0 < (0 : Int)) : a0 ≤ 4096 := by omega
theorem oz_95a53c78cb {a0 a1 : Int} (h0 : ¬ a1 < (1 : Int)) (h1 : a1 < (0 : Int)) : a0 = a1 + (3 : Int) := by omega
theorem oz_be61439b89 {a0 a1 : Int} (h0 : ¬ a0 < (1 : Int)) (h1 : a0 < (0 : Int)) : a0 ≤ 4 * a1 := by omega
theorem oz_4ecc7d07af {a0 : Int} (h0 : ¬ a0 < (1 : Int)) : -1 ≤ a0 := by omega
theorem m10_55 : Cond.fieldLink "HomeSystemModel$Program" 627 "HomeSystemModel$Program" "sizeNow" "I" ∈ AL := AL_10 (List.mem_of_getElem? (i := 55) rfl) rfl
theorem m12_234 : Cond.methodLink "HomeSystemModel$Program" 593 ⟨"HomeSystemModel$Program", "checkConstant", "(I)Z"⟩ ∈ AL := AL_12 (List.mem_of_getElem? (i := 234) rfl) rfl
theorem m12_237 : Cond.code ⟨"HomeSystemModel$Program", "checkConstant", "(I)Z"⟩ prog_16_method_83_code 5 (Option.some FieldType.boolean) ∈ AL := AL_12 (List.mem_of_getElem? (i := 237) rfl) rfl
theorem ms_12_12 : Cond.selects "HomeSystemModel$Program" ⟨"HomeSystemModel$Program", "checkConstant", "(I)Z"⟩ ⟨"HomeSystemModel$Program", "checkConstant", "(I)Z"⟩ ∈ AL := AL_p (q := (⟨"HomeSystemModel$Program", "checkConstant", "(I)Z"⟩, 69)) (by unfold lw_privs; exact List.mem_append_right _ (List.mem_append_right _ (List.mem_append_right _ (List.mem_append_right _ (List.mem_append_right _ (List.mem_append_right _ (List.mem_append_right _ (List.mem_append_right _ (List.mem_append_right _ (List.mem_append_right _ (List.mem_append_right _ (List.mem_append_left _ (List.mem_of_getElem? (i := 12) rfl)))))))))))))
theorem m12_236 : Cond.instanceMethod ⟨"HomeSystemModel$Program", "checkConstant", "(I)Z"⟩ ∈ AL := AL_12 (List.mem_of_getElem? (i := 236) rfl) rfl
abbrev b_Mpg_declareArray : ByteArray := prog_16_method_87_code
def y_Mpg_declareArray : MethodName := ⟨"HomeSystemModel$Program", "declareArray", "(IZ)I"⟩
theorem d_Mpg_declareArray_0 : decode b_Mpg_declareArray 0 = .ok (.iconst (-1), 1) := by decide +kernel
theorem d_Mpg_declareArray_1 : decode b_Mpg_declareArray 1 = .ok (.istore_n 3, 1) := by decide +kernel
theorem d_Mpg_declareArray_2 : decode b_Mpg_declareArray 2 = .ok (.aload_n 0, 1) := by decide +kernel
theorem d_Mpg_declareArray_3 : decode b_Mpg_declareArray 3 = .ok (.aload_n 0, 1) := by decide +kernel
theorem d_Mpg_declareArray_4 : decode b_Mpg_declareArray 4 = .ok (.getfield 216, 3) := by decide +kernel
theorem d_Mpg_declareArray_7 : decode b_Mpg_declareArray 7 = .ok (.iload_n 1, 1) := by decide +kernel
theorem d_Mpg_declareArray_8 : decode b_Mpg_declareArray 8 = .ok (.iaload, 1) := by decide +kernel
theorem d_Mpg_declareArray_9 : decode b_Mpg_declareArray 9 = .ok (.invokevirtual 593, 3) := by decide +kernel
theorem d_Mpg_declareArray_12 : decode b_Mpg_declareArray 12 = .ok (.ifCond .eq 40, 3) := by decide +kernel
theorem d_Mpg_declareArray_15 : decode b_Mpg_declareArray 15 = .ok (.aload_n 0, 1) := by decide +kernel
theorem d_Mpg_declareArray_16 : decode b_Mpg_declareArray 16 = .ok (.getfield 612, 3) := by decide +kernel
theorem d_Mpg_declareArray_19 : decode b_Mpg_declareArray 19 = .ok (.istore_n 3, 1) := by decide +kernel
theorem d_Mpg_declareArray_20 : decode b_Mpg_declareArray 20 = .ok (.iload_n 3, 1) := by decide +kernel
theorem d_Mpg_declareArray_21 : decode b_Mpg_declareArray 21 = .ok (.iconst 1, 1) := by decide +kernel
theorem d_Mpg_declareArray_22 : decode b_Mpg_declareArray 22 = .ok (.if_icmp .lt 10, 3) := by decide +kernel
theorem d_Mpg_declareArray_25 : decode b_Mpg_declareArray 25 = .ok (.iload_n 3, 1) := by decide +kernel
theorem d_Mpg_declareArray_26 : decode b_Mpg_declareArray 26 = .ok (.sipush 4096, 3) := by decide +kernel
theorem d_Mpg_declareArray_29 : decode b_Mpg_declareArray 29 = .ok (.if_icmp .le 23, 3) := by decide +kernel
theorem d_Mpg_declareArray_32 : decode b_Mpg_declareArray 32 = .ok (.aload_n 0, 1) := by decide +kernel
theorem d_Mpg_declareArray_33 : decode b_Mpg_declareArray 33 = .ok (.bipush 8, 2) := by decide +kernel
theorem d_Mpg_declareArray_35 : decode b_Mpg_declareArray 35 = .ok (.aload_n 0, 1) := by decide +kernel
theorem d_Mpg_declareArray_36 : decode b_Mpg_declareArray 36 = .ok (.aload_n 0, 1) := by decide +kernel
theorem d_Mpg_declareArray_37 : decode b_Mpg_declareArray 37 = .ok (.getfield 216, 3) := by decide +kernel
theorem d_Mpg_declareArray_40 : decode b_Mpg_declareArray 40 = .ok (.iload_n 1, 1) := by decide +kernel
theorem d_Mpg_declareArray_41 : decode b_Mpg_declareArray 41 = .ok (.iaload, 1) := by decide +kernel
theorem d_Mpg_declareArray_42 : decode b_Mpg_declareArray 42 = .ok (.invokevirtual 584, 3) := by decide +kernel
theorem d_Mpg_declareArray_45 : decode b_Mpg_declareArray 45 = .ok (.invokevirtual 565, 3) := by decide +kernel
theorem d_Mpg_declareArray_48 : decode b_Mpg_declareArray 48 = .ok (.sipush 4096, 3) := by decide +kernel
theorem d_Mpg_declareArray_51 : decode b_Mpg_declareArray 51 = .ok (.istore_n 3, 1) := by decide +kernel
theorem d_Mpg_declareArray_52 : decode b_Mpg_declareArray 52 = .ok (.aload_n 0, 1) := by decide +kernel
theorem d_Mpg_declareArray_53 : decode b_Mpg_declareArray 53 = .ok (.getfield 231, 3) := by decide +kernel
theorem d_Mpg_declareArray_56 : decode b_Mpg_declareArray 56 = .ok (.iload_n 1, 1) := by decide +kernel
theorem d_Mpg_declareArray_57 : decode b_Mpg_declareArray 57 = .ok (.iaload, 1) := by decide +kernel
theorem d_Mpg_declareArray_58 : decode b_Mpg_declareArray 58 = .ok (.iconst 2, 1) := by decide +kernel
theorem d_Mpg_declareArray_59 : decode b_Mpg_declareArray 59 = .ok (.if_icmp .ne 66, 3) := by decide +kernel
theorem d_Mpg_declareArray_62 : decode b_Mpg_declareArray 62 = .ok (.iconst 0, 1) := by decide +kernel
theorem d_Mpg_declareArray_63 : decode b_Mpg_declareArray 63 = .ok (.istore 4, 2) := by decide +kernel
theorem d_Mpg_declareArray_65 : decode b_Mpg_declareArray 65 = .ok (.aload_n 0, 1) := by decide +kernel
theorem d_Mpg_declareArray_66 : decode b_Mpg_declareArray 66 = .ok (.getfield 219, 3) := by decide +kernel
theorem d_Mpg_declareArray_69 : decode b_Mpg_declareArray 69 = .ok (.iload_n 1, 1) := by decide +kernel
theorem d_Mpg_declareArray_70 : decode b_Mpg_declareArray 70 = .ok (.iaload, 1) := by decide +kernel
theorem d_Mpg_declareArray_71 : decode b_Mpg_declareArray 71 = .ok (.istore 5, 2) := by decide +kernel
theorem d_Mpg_declareArray_73 : decode b_Mpg_declareArray 73 = .ok (.iload 5, 2) := by decide +kernel
theorem d_Mpg_declareArray_75 : decode b_Mpg_declareArray 75 = .ok (.ifCond .lt 25, 3) := by decide +kernel
theorem d_Mpg_declareArray_78 : decode b_Mpg_declareArray 78 = .ok (.aload_n 0, 1) := by decide +kernel
theorem d_Mpg_declareArray_79 : decode b_Mpg_declareArray 79 = .ok (.iload 5, 2) := by decide +kernel
theorem d_Mpg_declareArray_81 : decode b_Mpg_declareArray 81 = .ok (.invokevirtual 593, 3) := by decide +kernel
theorem d_Mpg_declareArray_84 : decode b_Mpg_declareArray 84 = .ok (.pop, 1) := by decide +kernel
theorem d_Mpg_declareArray_85 : decode b_Mpg_declareArray 85 = .ok (.iinc 4 1, 3) := by decide +kernel
theorem d_Mpg_declareArray_88 : decode b_Mpg_declareArray 88 = .ok (.aload_n 0, 1) := by decide +kernel
theorem d_Mpg_declareArray_89 : decode b_Mpg_declareArray 89 = .ok (.getfield 228, 3) := by decide +kernel
theorem d_Mpg_declareArray_92 : decode b_Mpg_declareArray 92 = .ok (.iload 5, 2) := by decide +kernel
theorem d_Mpg_declareArray_94 : decode b_Mpg_declareArray 94 = .ok (.iaload, 1) := by decide +kernel
theorem d_Mpg_declareArray_95 : decode b_Mpg_declareArray 95 = .ok (.istore 5, 2) := by decide +kernel
theorem d_Mpg_declareArray_97 : decode b_Mpg_declareArray 97 = .ok (.goto (-24), 3) := by decide +kernel
theorem d_Mpg_declareArray_100 : decode b_Mpg_declareArray 100 = .ok (.iload_n 3, 1) := by decide +kernel
theorem d_Mpg_declareArray_101 : decode b_Mpg_declareArray 101 = .ok (.ifCond .lt 21, 3) := by decide +kernel
theorem d_Mpg_declareArray_104 : decode b_Mpg_declareArray 104 = .ok (.iload 4, 2) := by decide +kernel
theorem d_Mpg_declareArray_106 : decode b_Mpg_declareArray 106 = .ok (.iload_n 3, 1) := by decide +kernel
theorem d_Mpg_declareArray_107 : decode b_Mpg_declareArray 107 = .ok (.if_icmp .le 15, 3) := by decide +kernel
theorem d_Mpg_declareArray_110 : decode b_Mpg_declareArray 110 = .ok (.aload_n 0, 1) := by decide +kernel
theorem d_Mpg_declareArray_111 : decode b_Mpg_declareArray 111 = .ok (.bipush 8, 2) := by decide +kernel
theorem d_Mpg_declareArray_113 : decode b_Mpg_declareArray 113 = .ok (.aload_n 0, 1) := by decide +kernel
theorem d_Mpg_declareArray_114 : decode b_Mpg_declareArray 114 = .ok (.getfield 222, 3) := by decide +kernel
theorem d_Mpg_declareArray_117 : decode b_Mpg_declareArray 117 = .ok (.iload_n 1, 1) := by decide +kernel
theorem d_Mpg_declareArray_118 : decode b_Mpg_declareArray 118 = .ok (.iaload, 1) := by decide +kernel
theorem d_Mpg_declareArray_119 : decode b_Mpg_declareArray 119 = .ok (.invokevirtual 565, 3) := by decide +kernel
theorem d_Mpg_declareArray_122 : decode b_Mpg_declareArray 122 = .ok (.goto 54, 3) := by decide +kernel
theorem d_Mpg_declareArray_125 : decode b_Mpg_declareArray 125 = .ok (.aload_n 0, 1) := by decide +kernel
theorem d_Mpg_declareArray_126 : decode b_Mpg_declareArray 126 = .ok (.getfield 231, 3) := by decide +kernel
theorem d_Mpg_declareArray_129 : decode b_Mpg_declareArray 129 = .ok (.iload_n 1, 1) := by decide +kernel
theorem d_Mpg_declareArray_130 : decode b_Mpg_declareArray 130 = .ok (.iaload, 1) := by decide +kernel
theorem d_Mpg_declareArray_131 : decode b_Mpg_declareArray 131 = .ok (.iconst 3, 1) := by decide +kernel
theorem d_Mpg_declareArray_132 : decode b_Mpg_declareArray 132 = .ok (.if_icmp .ne 44, 3) := by decide +kernel
theorem d_Mpg_declareArray_135 : decode b_Mpg_declareArray 135 = .ok (.aload_n 0, 1) := by decide +kernel
theorem d_Mpg_declareArray_136 : decode b_Mpg_declareArray 136 = .ok (.getfield 204, 3) := by decide +kernel
theorem d_Mpg_declareArray_139 : decode b_Mpg_declareArray 139 = .ok (.aload_n 0, 1) := by decide +kernel
theorem d_Mpg_declareArray_140 : decode b_Mpg_declareArray 140 = .ok (.getfield 222, 3) := by decide +kernel
theorem d_Mpg_declareArray_143 : decode b_Mpg_declareArray 143 = .ok (.iload_n 1, 1) := by decide +kernel
theorem d_Mpg_declareArray_144 : decode b_Mpg_declareArray 144 = .ok (.iaload, 1) := by decide +kernel
theorem d_Mpg_declareArray_145 : decode b_Mpg_declareArray 145 = .ok (.iaload, 1) := by decide +kernel
theorem d_Mpg_declareArray_146 : decode b_Mpg_declareArray 146 = .ok (.iconst 1, 1) := by decide +kernel
theorem d_Mpg_declareArray_147 : decode b_Mpg_declareArray 147 = .ok (.iadd, 1) := by decide +kernel
theorem d_Mpg_declareArray_148 : decode b_Mpg_declareArray 148 = .ok (.istore 4, 2) := by decide +kernel
theorem d_Mpg_declareArray_150 : decode b_Mpg_declareArray 150 = .ok (.iload_n 2, 1) := by decide +kernel
theorem d_Mpg_declareArray_151 : decode b_Mpg_declareArray 151 = .ok (.ifCond .eq 13, 3) := by decide +kernel
theorem d_Mpg_declareArray_154 : decode b_Mpg_declareArray 154 = .ok (.iload_n 3, 1) := by decide +kernel
theorem d_Mpg_declareArray_155 : decode b_Mpg_declareArray 155 = .ok (.ifCond .lt 21, 3) := by decide +kernel
theorem d_Mpg_declareArray_158 : decode b_Mpg_declareArray 158 = .ok (.iload 4, 2) := by decide +kernel
theorem d_Mpg_declareArray_160 : decode b_Mpg_declareArray 160 = .ok (.iload_n 3, 1) := by decide +kernel
theorem d_Mpg_declareArray_161 : decode b_Mpg_declareArray 161 = .ok (.if_icmp .le 15, 3) := by decide +kernel
theorem d_Mpg_declareArray_164 : decode b_Mpg_declareArray 164 = .ok (.aload_n 0, 1) := by decide +kernel
theorem d_Mpg_declareArray_165 : decode b_Mpg_declareArray 165 = .ok (.bipush 8, 2) := by decide +kernel
theorem d_Mpg_declareArray_167 : decode b_Mpg_declareArray 167 = .ok (.aload_n 0, 1) := by decide +kernel
theorem d_Mpg_declareArray_168 : decode b_Mpg_declareArray 168 = .ok (.getfield 222, 3) := by decide +kernel
theorem d_Mpg_declareArray_171 : decode b_Mpg_declareArray 171 = .ok (.iload_n 1, 1) := by decide +kernel
theorem d_Mpg_declareArray_172 : decode b_Mpg_declareArray 172 = .ok (.iaload, 1) := by decide +kernel
theorem d_Mpg_declareArray_173 : decode b_Mpg_declareArray 173 = .ok (.invokevirtual 565, 3) := by decide +kernel
theorem d_Mpg_declareArray_176 : decode b_Mpg_declareArray 176 = .ok (.aload_n 0, 1) := by decide +kernel
theorem d_Mpg_declareArray_177 : decode b_Mpg_declareArray 177 = .ok (.iload_n 3, 1) := by decide +kernel
theorem d_Mpg_declareArray_178 : decode b_Mpg_declareArray 178 = .ok (.ifCond .ge 7, 3) := by decide +kernel
theorem d_Mpg_declareArray_181 : decode b_Mpg_declareArray 181 = .ok (.iconst 0, 1) := by decide +kernel
theorem d_Mpg_declareArray_182 : decode b_Mpg_declareArray 182 = .ok (.goto 4, 3) := by decide +kernel
theorem d_Mpg_declareArray_185 : decode b_Mpg_declareArray 185 = .ok (.iload_n 3, 1) := by decide +kernel
theorem d_Mpg_declareArray_186 : decode b_Mpg_declareArray 186 = .ok (.putfield 627, 3) := by decide +kernel
theorem d_Mpg_declareArray_189 : decode b_Mpg_declareArray 189 = .ok (.iload_n 2, 1) := by decide +kernel
theorem d_Mpg_declareArray_190 : decode b_Mpg_declareArray 190 = .ok (.ifCond .eq 14, 3) := by decide +kernel
theorem d_Mpg_declareArray_193 : decode b_Mpg_declareArray 193 = .ok (.aload_n 0, 1) := by decide +kernel
theorem d_Mpg_declareArray_194 : decode b_Mpg_declareArray 194 = .ok (.getfield 627, 3) := by decide +kernel
theorem d_Mpg_declareArray_197 : decode b_Mpg_declareArray 197 = .ok (.iconst 3, 1) := by decide +kernel
theorem d_Mpg_declareArray_198 : decode b_Mpg_declareArray 198 = .ok (.iadd, 1) := by decide +kernel
theorem d_Mpg_declareArray_199 : decode b_Mpg_declareArray 199 = .ok (.iconst 4, 1) := by decide +kernel
theorem d_Mpg_declareArray_200 : decode b_Mpg_declareArray 200 = .ok (.idiv, 1) := by decide +kernel
theorem d_Mpg_declareArray_201 : decode b_Mpg_declareArray 201 = .ok (.goto 7, 3) := by decide +kernel
theorem d_Mpg_declareArray_204 : decode b_Mpg_declareArray 204 = .ok (.aload_n 0, 1) := by decide +kernel
theorem d_Mpg_declareArray_205 : decode b_Mpg_declareArray 205 = .ok (.getfield 627, 3) := by decide +kernel
theorem d_Mpg_declareArray_208 : decode b_Mpg_declareArray 208 = .ok (.ireturn, 1) := by decide +kernel
theorem q_Mpg_declareArray : px_y y_Mpg_declareArray 2 := by unfold px_y; decide +kernel
set_option maxHeartbeats 4000000 in
set_option maxRecDepth 100000 in
theorem c_mp_declareArray (l : Launch) (D : va_G) (cs : Nat → ClassId) (ma0 : Nat → Nat → Int32) (ys : Int) (nf : Int) (tx : Int) (d : Nat) (lo : Int) (hi : Int) (w : Int) (h : Nat) (r : Nat → Nat) (g : Nat → Nat → Option Nat) (tf : Nat → Int32) (ta : Nat → Nat → Int32) (pf : Nat → Int32) (na : Nat → Nat → Int32) (wa : Nat → Nat → Int32) (ca : Nat → Nat → Int32) (ef : Nat → Int32) (ea : Nat → Nat → Int32) (xf : Nat → Int32) (xa : Nat → Nat → Int32) (ma : Nat → Nat → Int32) (cf : Nat → Int32) (p0 p1 : Int32)  (g0 : 0 ≤ lo) (g1 : hi ≤ (pf 13).toInt) (g2 : (pf 13).toInt ≤ 2100) (g3 : (tf 6).toInt ≤ 2049) (g4 : 0 ≤ (cf 33).toInt) (g5 : 0 ≤ w) (g6 : 6 * (cf 33).toInt + w ≤ 6540) (g7 : 0 ≤ (cf 48).toInt) (g8 : 6 * (cf 48).toInt + w ≤ 6540) (g9 : (cf 38).toInt = nf) (g10 : 0 ≤ nf) (g11 : 0 ≤ (cf 37).toInt) (g12 : 0 ≤ (cf 54).toInt) (g13 : (cf 54).toInt ≤ 4096 * (cf 48).toInt) (g14 : 0 ≤ (cf 42).toInt) (g15 : (cf 42).toInt ≤ 4 + 4096 * (cf 48).toInt) (g16 : 0 ≤ (cf 44).toInt) (g17 : 0 ≤ (cf 45).toInt) (g18 : ys ≤ (cf 48).toInt ∨ tx = 1) (g19 : 0 ≤ (cf 46).toInt) (g20 : (cf 46).toInt ≤ 1) (g21 : 0 ≤ (cf 47).toInt) (g22 : (cf 47).toInt ≤ 1) (g23 : 0 ≤ (na 17 p0.toNatClampNeg).toInt) (g24 : 0 ≤ p1.toInt) (g25 : p1.toInt ≤ 1) (htk : TkI tf ta) (hfs : FsI (tf 6).toInt (pf 13).toInt na) (hwr : WrV cf (tf 6).toInt) (hkt : KnT (tf 6).toInt ca (cf 33).toInt) (hft : FnT (tf 6).toInt na ca (cf 38).toInt) (hks : KnS ca (cf 33).toInt (cf 48).toInt ys) (hfp : FnP na ca nf) (hsr : SyR ca ys (cf 48).toInt (cf 54).toInt tx) (han : Ann na ma0 ma) (hvc : VcV ta (tf 6).toInt na ma0 d lo hi w p0) : MetI l y_Mpg_declareArray b_Mpg_declareArray 6 (.int) D cs (4 * d + 20) (200 * d + 700) (0) (0) [.ref h, .int p0, .int p1] [wdP cs h r g tf ta pf na ma wa cf ca ef ea xf xa] (oX (fun A U H => (oP A g U H)) [wdP cs h r g tf ta pf na ma wa cf ca ef ea xf xa]) (fun v ps => ∃ (ma' : Nat → Nat → Int32) (cf' : Nat → Int32), (ps = [wdP cs h r g tf ta pf na ma' wa cf' ca ef ea xf xa]) ∧ ((cf' 30).toInt = 0 → (cf 30).toInt = 0) ∧ (WrV cf' (tf 6).toInt) ∧ ((cf' 33).toInt = (cf 33).toInt) ∧ ((cf' 37).toInt = (cf 37).toInt) ∧ ((cf' 38).toInt = (cf 38).toInt) ∧ ((cf' 41).toInt = (cf 41).toInt) ∧ ((cf' 42).toInt = (cf 42).toInt) ∧ ((cf' 43).toInt = (cf 43).toInt) ∧ ((cf' 44).toInt = (cf 44).toInt) ∧ ((cf' 45).toInt = (cf 45).toInt) ∧ ((cf' 46).toInt = (cf 46).toInt) ∧ ((cf' 47).toInt = (cf 47).toInt) ∧ ((cf' 48).toInt = (cf 48).toInt) ∧ ((cf' 54).toInt = (cf 54).toInt) ∧ ((cf' 55).toInt = (cf 55).toInt) ∧ ((cf' 59).toInt = (cf 59).toInt) ∧ (Ann na ma0 ma') ∧ (FrC lo hi ma ma') ∧ (0 ≤ (cf' 58).toInt) ∧ ((cf' 58).toInt ≤ 4096) ∧ (0 ≤ v.toInt) ∧ (v.toInt ≤ 4096) ∧ ((cf' 58).toInt ≤ 4 * v.toInt) ∧ (ZAv cf' ta na ma' p0 (cf' 58).toInt)) := by
  refine px_enter (by decide) (Nat.le_of_ble_eq_true rfl) ?_
  intro p e s m below meth c A ls hAe S hr hlk hnm hA hT hX hw hl
  have hl : lv_has ls 6 [(0, .ref h), (1, .int p0), (2, .int p1)] := hl
  have lp0 := Int32.le_toInt p0
  have up0 := Int32.toInt_lt p0
  have lp1 := Int32.le_toInt p1
  have up1 := Int32.toInt_lt p1
  have cstm1 : ((-1) : Int32).toInt = (-1) := rfl
  have cst0 : (0 : Int32).toInt = 0 := rfl
  have cst1 : (1 : Int32).toInt = 1 := rfl
  have cst2 : (2 : Int32).toInt = 2 := rfl
  have cst3 : (3 : Int32).toInt = 3 := rfl
  have cst4 : (4 : Int32).toInt = 4 := rfl
  have cst8 : (8 : Int32).toInt = 8 := rfl
  have cst4096 : (4096 : Int32).toInt = 4096 := rfl
  have hX : (fun A U H => (oP A g U H)) A s s.heap := by rw [hAe]; exact hX
  have hP := hX
  have hZ := hP.1
  have hF0 := hP.2.1
  have hfc : FrC lo hi ma ma := FrC.rf
  have hwr0 := hwr.1
  have hk11 := hkt.1
  have hf11 := hft.1
  have hcg : CaG ca ca (cf 33).toInt (cf 48).toInt := CaG.rf
  have hvr := VcV.rng hvc
  have hvk := VcV.kind hvc
  obtain ⟨m1, wq, hm1, hm2, hev_a, hwq, hav⟩ := VcV.v3 hvc (by first | with_reducible rfl | with_reducible assumption | omega) rfl
  obtain ⟨hec_a, h20_a, hw_a⟩ := hev_a.ec
  have hrg_a := EcV.rng hec_a
  have J73 : ∀ (n_73 : Nat) (ma_73 : Nat → Nat → Int32) (cf_73 : Nat → Int32) (mid_73 : Int) (wr_73 : Int) (x73_3 x73_4 x73_5 : Int32) (H : Heap) (locs : List Loc) (ls : Array Slot), ((cf_73 30).toInt = 0 → (cf 30).toInt = 0) → (WrV cf_73 (tf 6).toInt) → ((cf_73 33).toInt = (cf 33).toInt) → ((cf_73 37).toInt = (cf 37).toInt) → ((cf_73 38).toInt = (cf 38).toInt) → ((cf_73 41).toInt = (cf 41).toInt) → ((cf_73 42).toInt = (cf 42).toInt) → ((cf_73 43).toInt = (cf 43).toInt) → ((cf_73 44).toInt = (cf 44).toInt) → ((cf_73 45).toInt = (cf 45).toInt) → ((cf_73 46).toInt = (cf 46).toInt) → ((cf_73 47).toInt = (cf 47).toInt) → ((cf_73 48).toInt = (cf 48).toInt) → ((cf_73 54).toInt = (cf 54).toInt) → ((cf_73 55).toInt = (cf 55).toInt) → ((cf_73 59).toInt = (cf 59).toInt) → (Ann na ma0 ma_73) → (FrC lo hi ma ma_73) → (-1 ≤ x73_3.toInt) → (x73_3.toInt ≤ 4096) → (x73_3.toInt = -1 → 1 ≤ (cf_73 30).toInt) → (0 ≤ x73_4.toInt) → (x73_4.toInt + m1 ≤ mid_73) → (m1 ≤ mid_73) → (mid_73 ≤ hi) → ((ma0 22 p0.toNatClampNeg).toInt = 2) → (RvI ta (tf 6).toInt na ma0 d mid_73 hi wr_73 x73_5) → (RlC na (ma0 18 p0.toNatClampNeg) x73_5 x73_4.toInt) → hi - mid_73 < (n_73 : Int) → pw D A s.heap H locs [wdP cs h r g tf ta pf na ma_73 wa cf_73 ca ef ea xf xa] → lv_has ls 6 [(0, .ref h), (1, .int p0), (2, .int p1), (3, .int x73_3), (4, .int x73_4), (5, .int x73_5)] → W p l e { frames := (4 * d + 20), cells := 0, slots := 0, locals := (200 * d + 700) } s m [.ref h, .int p0, .int p1].toArray below meth c H locs 0 0 (MQ below (va_Qi (fun v ps => ∃ (ma' : Nat → Nat → Int32) (cf' : Nat → Int32), (ps = [wdP cs h r g tf ta pf na ma' wa cf' ca ef ea xf xa]) ∧ ((cf' 30).toInt = 0 → (cf 30).toInt = 0) ∧ (WrV cf' (tf 6).toInt) ∧ ((cf' 33).toInt = (cf 33).toInt) ∧ ((cf' 37).toInt = (cf 37).toInt) ∧ ((cf' 38).toInt = (cf 38).toInt) ∧ ((cf' 41).toInt = (cf 41).toInt) ∧ ((cf' 42).toInt = (cf 42).toInt) ∧ ((cf' 43).toInt = (cf 43).toInt) ∧ ((cf' 44).toInt = (cf 44).toInt) ∧ ((cf' 45).toInt = (cf 45).toInt) ∧ ((cf' 46).toInt = (cf 46).toInt) ∧ ((cf' 47).toInt = (cf 47).toInt) ∧ ((cf' 48).toInt = (cf 48).toInt) ∧ ((cf' 54).toInt = (cf 54).toInt) ∧ ((cf' 55).toInt = (cf 55).toInt) ∧ ((cf' 59).toInt = (cf 59).toInt) ∧ (Ann na ma0 ma') ∧ (FrC lo hi ma ma') ∧ (0 ≤ (cf' 58).toInt) ∧ ((cf' 58).toInt ≤ 4096) ∧ (0 ≤ v.toInt) ∧ (v.toInt ≤ 4096) ∧ ((cf' 58).toInt ≤ 4 * v.toInt) ∧ (ZAv cf' ta na ma' p0 (cf' 58).toInt)) (pc_B D (va_A ([wdP cs h r g tf ta pf na ma wa cf ca ef ea xf xa] : List va_W).flatten s.heap.size)) (va_A ([wdP cs h r g tf ta pf na ma wa cf ca ef ea xf xa] : List va_W).flatten s.heap.size)) [.ref h, .int p0, .int p1].toArray s 0 0 A) (F0 m 73 ls []) := by
    intro  n_73
    induction n_73 with
    | zero =>
      intro ma_73 cf_73 mid_73 wr_73 x73_3 x73_4 x73_5 H locs ls k73_0 k73_1 k73_2 k73_3 k73_4 k73_5 k73_6 k73_7 k73_8 k73_9 k73_10 k73_11 k73_12 k73_13 k73_14 k73_15 k73_16 k73_17 k73_18 k73_19 k73_20 k73_21 k73_22 k73_23 k73_24 k73_25 k73_26 k73_27 hm hw hl
      have lx73_3 := Int32.le_toInt x73_3
      have ux73_3 := Int32.toInt_lt x73_3
      have lx73_4 := Int32.le_toInt x73_4
      have ux73_4 := Int32.toInt_lt x73_4
      have lx73_5 := Int32.le_toInt x73_5
      have ux73_5 := Int32.toInt_lt x73_5
      have hwr := k73_1
      have hw0_k73_1 := hwr.1
      have han := k73_16
      have hfc := k73_17
      have hrv := k73_26
      have hrl := k73_27
      exact absurd hm (by first | with_reducible rfl | with_reducible assumption | omega)
    | succ n_73 ih73 =>
      intro ma_73 cf_73 mid_73 wr_73 x73_3 x73_4 x73_5 H locs ls k73_0 k73_1 k73_2 k73_3 k73_4 k73_5 k73_6 k73_7 k73_8 k73_9 k73_10 k73_11 k73_12 k73_13 k73_14 k73_15 k73_16 k73_17 k73_18 k73_19 k73_20 k73_21 k73_22 k73_23 k73_24 k73_25 k73_26 k73_27 hm hw hl
      have lx73_3 := Int32.le_toInt x73_3
      have ux73_3 := Int32.toInt_lt x73_3
      have lx73_4 := Int32.le_toInt x73_4
      have ux73_4 := Int32.toInt_lt x73_4
      have lx73_5 := Int32.le_toInt x73_5
      have ux73_5 := Int32.toInt_lt x73_5
      have hwr := k73_1
      have hw0_k73_1 := hwr.1
      have han := k73_16
      have hfc := k73_17
      have hrv := k73_26
      have hrl := k73_27
      refine lv_iload S.x S.b d_Mpg_declareArray_73 (lv_at hl 5 rfl) ?_
      refine lv_if_lt (tgt := 100) S.x S.b d_Mpg_declareArray_75 (by decide) (fun c1 => ?_) (fun c1 => ?_)
      · have nc1 : x73_5.toInt < (0 : Int) := (i_lt (x := x73_5) (y := 0)).mp c1
        refine lv_iload_n S.x S.b d_Mpg_declareArray_100 rfl (lv_at hl 3 rfl) ?_
        refine lv_if_lt (tgt := 122) S.x S.b d_Mpg_declareArray_101 (by decide) (fun c2 => ?_) (fun c2 => ?_)
        · have nc2 : x73_3.toInt < (0 : Int) := (i_lt (x := x73_3) (y := 0)).mp c2
          refine lv_goto (tgt := 176) S.x S.b d_Mpg_declareArray_122 (by decide) ?_
          refine lv_aload_n S.x S.b d_Mpg_declareArray_176 rfl (lv_at hl 0 rfl) ?_
          refine lv_iload_n S.x S.b d_Mpg_declareArray_177 rfl (lv_at hl 3 rfl) ?_
          refine lv_if_ge (tgt := 185) S.x S.b d_Mpg_declareArray_178 (by decide) (fun c3 => ?_) (fun c3 => ?_)
          · have nc3 : (0 : Int) ≤ x73_3.toInt := (i_le (x := 0) (y := x73_3)).mp c3
            refine lv_iload_n S.x S.b d_Mpg_declareArray_185 rfl (lv_at hl 3 rfl) ?_
            refine px_put S k_Mpg hT hw 0 0 58 rfl rfl (by decide) m10_55 rfl rfl rfl (Nat.le_of_ble_eq_true rfl) d_Mpg_declareArray_186 (w' := wdP cs h r g tf ta pf na ma_73 wa (upd cf_73 58 x73_3) ca ef ea xf xa) (ps' := [wdP cs h r g tf ta pf na ma_73 wa (upd cf_73 58 x73_3) ca ef ea xf xa]) rfl rfl (fun H locs hw => ?_)
            refine lv_iload_n S.x S.b d_Mpg_declareArray_189 rfl (lv_at hl 2 rfl) ?_
            refine lv_if_eq (tgt := 204) S.x S.b d_Mpg_declareArray_190 (by decide) (fun c4 => ?_) (fun c4 => ?_)
            · have nc4 : p1.toInt = (0 : Int) := (i_eq (x := p1) (y := 0)).mp c4
              refine lv_aload_n S.x S.b d_Mpg_declareArray_204 rfl (lv_at hl 0 rfl) ?_
              refine px_get S k_Mpg hT hw 0 0 58 (v := .int x73_3) rfl rfl rfl (by decide) m10_55 d_Mpg_declareArray_205 ?_
              exact px_iret (v := x73_3) S hr rfl hlk hAe hw (Nat.le_of_ble_eq_true rfl) (Nat.le_of_ble_eq_true rfl) (⟨ma_73, (upd cf_73 58 x73_3), rfl, (show (cf_73 30).toInt = 0 → (cf 30).toInt = 0 from by first | exact k73_0 | omega), (show WrV (upd cf_73 58 x73_3) (tf 6).toInt from (WrV.u hwr (by decide) (by decide))), (show (cf_73 33).toInt = (cf 33).toInt from by first | exact k73_2 | omega), (show (cf_73 37).toInt = (cf 37).toInt from by first | exact k73_3 | omega), (show (cf_73 38).toInt = (cf 38).toInt from by first | exact k73_4 | omega), (show (cf_73 41).toInt = (cf 41).toInt from by first | exact k73_5 | omega), (show (cf_73 42).toInt = (cf 42).toInt from by first | exact k73_6 | omega), (show (cf_73 43).toInt = (cf 43).toInt from by first | exact k73_7 | omega), (show (cf_73 44).toInt = (cf 44).toInt from by first | exact k73_8 | omega), (show (cf_73 45).toInt = (cf 45).toInt from by first | exact k73_9 | omega), (show (cf_73 46).toInt = (cf 46).toInt from by first | exact k73_10 | omega), (show (cf_73 47).toInt = (cf 47).toInt from by first | exact k73_11 | omega), (show (cf_73 48).toInt = (cf 48).toInt from by first | exact k73_12 | omega), (show (cf_73 54).toInt = (cf 54).toInt from by first | exact k73_13 | omega), (show (cf_73 55).toInt = (cf 55).toInt from by first | exact k73_14 | omega), (show (cf_73 59).toInt = (cf 59).toInt from by first | exact k73_15 | omega), (show Ann na ma0 ma_73 from han), (show FrC lo hi ma ma_73 from hfc), (show 0 ≤ x73_3.toInt from by first | exact oz_0ffba53c78 nc3 | omega), (show x73_3.toInt ≤ 4096 from by first | exact k73_19 | omega), (show 0 ≤ x73_3.toInt from by first | exact oz_0ffba53c78 nc3 | omega), (show x73_3.toInt ≤ 4096 from by first | exact k73_19 | omega), (show x73_3.toInt ≤ 4 * x73_3.toInt from by first | exact oz_c7a66485cf nc3 | omega), (show ZAv (upd cf_73 58 x73_3) ta na ma_73 p0 x73_3.toInt from (ZAvF (by first | exact zr_no (by first | with_reducible rfl | with_reducible assumption | omega) | exact zav_0 han (by first | with_reducible rfl | with_reducible assumption | omega) (by have hav0 := hav.k0; omega) | exact zav_2 han (by first | with_reducible rfl | with_reducible assumption | omega) (by first | with_reducible rfl | with_reducible assumption | omega) hrl (by first | with_reducible rfl | with_reducible assumption | omega) (by first | with_reducible rfl | with_reducible assumption | omega) (by first | with_reducible rfl | with_reducible assumption | omega) | exact zav_3 han (by first | with_reducible rfl | with_reducible assumption | omega) (by first | with_reducible rfl | with_reducible assumption | omega) ha_zz (by first | with_reducible rfl | with_reducible assumption | omega))))⟩) d_Mpg_declareArray_208
            · have nc4 : ¬ p1.toInt = (0 : Int) := mt (i_eq (x := p1) (y := 0)).mpr c4
              refine lv_aload_n S.x S.b d_Mpg_declareArray_193 rfl (lv_at hl 0 rfl) ?_
              refine px_get S k_Mpg hT hw 0 0 58 (v := .int x73_3) rfl rfl rfl (by decide) m10_55 d_Mpg_declareArray_194 ?_
              refine lv_iconst (v := 3) S.x S.b d_Mpg_declareArray_197 (by decide) ?_
              refine lv_iadd S.x S.b d_Mpg_declareArray_198 ?_
              refine lv_topi (fun z5 ez5 => ?_)
              have tz5 : z5.toInt = (x73_3.toInt + (3 : Int) + 2147483648) % 4294967296 - 2147483648 := by rw [ez5]; exact i_add x73_3 3
              have lz5 := Int32.le_toInt z5
              have uz5 := Int32.toInt_lt z5
              try replace tz5 : z5.toInt = x73_3.toInt + (3 : Int) := by first | exact oz_ebe7f98d01 nc2 nc3 | omega
              refine lv_iconst (v := 4) S.x S.b d_Mpg_declareArray_199 (by decide) ?_
              refine lv_idiv S.x S.b d_Mpg_declareArray_200 (fun hz0 => by have hz1 := i_eq.mp hz0; omega) ?_
              refine lv_topi (fun z6 ez6 => ?_)
              have lz6 := Int32.le_toInt z6
              have uz6 := Int32.toInt_lt z6
              have hd4 := i_div4 ez6 (by first | with_reducible rfl | with_reducible assumption | omega)
              refine lv_goto (tgt := 208) S.x S.b d_Mpg_declareArray_201 (by decide) ?_
              exact px_iret (v := z6) S hr rfl hlk hAe hw (Nat.le_of_ble_eq_true rfl) (Nat.le_of_ble_eq_true rfl) (⟨ma_73, (upd cf_73 58 x73_3), rfl, (show (cf_73 30).toInt = 0 → (cf 30).toInt = 0 from by first | exact k73_0 | omega), (show WrV (upd cf_73 58 x73_3) (tf 6).toInt from (WrV.u hwr (by decide) (by decide))), (show (cf_73 33).toInt = (cf 33).toInt from by first | exact k73_2 | omega), (show (cf_73 37).toInt = (cf 37).toInt from by first | exact k73_3 | omega), (show (cf_73 38).toInt = (cf 38).toInt from by first | exact k73_4 | omega), (show (cf_73 41).toInt = (cf 41).toInt from by first | exact k73_5 | omega), (show (cf_73 42).toInt = (cf 42).toInt from by first | exact k73_6 | omega), (show (cf_73 43).toInt = (cf 43).toInt from by first | exact k73_7 | omega), (show (cf_73 44).toInt = (cf 44).toInt from by first | exact k73_8 | omega), (show (cf_73 45).toInt = (cf 45).toInt from by first | exact k73_9 | omega), (show (cf_73 46).toInt = (cf 46).toInt from by first | exact k73_10 | omega), (show (cf_73 47).toInt = (cf 47).toInt from by first | exact k73_11 | omega), (show (cf_73 48).toInt = (cf 48).toInt from by first | exact k73_12 | omega), (show (cf_73 54).toInt = (cf 54).toInt from by first | exact k73_13 | omega), (show (cf_73 55).toInt = (cf 55).toInt from by first | exact k73_14 | omega), (show (cf_73 59).toInt = (cf 59).toInt from by first | exact k73_15 | omega), (show Ann na ma0 ma_73 from han), (show FrC lo hi ma ma_73 from hfc), (show 0 ≤ x73_3.toInt from by first | exact oz_0ffba53c78 nc3 | omega), (show x73_3.toInt ≤ 4096 from by first | exact k73_19 | omega), (show 0 ≤ z6.toInt from by first | with_reducible rfl | with_reducible assumption | omega), (show z6.toInt ≤ 4096 from by first | with_reducible rfl | with_reducible assumption | omega), (show x73_3.toInt ≤ 4 * z6.toInt from by first | exact oz_580d794320 nc2 nc3 | omega), (show ZAv (upd cf_73 58 x73_3) ta na ma_73 p0 x73_3.toInt from (ZAvF (by first | exact zr_no (by first | with_reducible rfl | with_reducible assumption | omega) | exact zav_0 han (by first | with_reducible rfl | with_reducible assumption | omega) (by have hav0 := hav.k0; omega) | exact zav_2 han (by first | with_reducible rfl | with_reducible assumption | omega) (by first | with_reducible rfl | with_reducible assumption | omega) hrl (by first | with_reducible rfl | with_reducible assumption | omega) (by first | with_reducible rfl | with_reducible assumption | omega) (by first | with_reducible rfl | with_reducible assumption | omega) | exact zav_3 han (by first | with_reducible rfl | with_reducible assumption | omega) (by first | with_reducible rfl | with_reducible assumption | omega) ha_zz (by first | with_reducible rfl | with_reducible assumption | omega))))⟩) d_Mpg_declareArray_208
          · have nc3 : ¬ (0 : Int) ≤ x73_3.toInt := mt (i_le (x := 0) (y := x73_3)).mpr c3
            refine lv_iconst (v := 0) S.x S.b d_Mpg_declareArray_181 (by decide) ?_
            refine lv_goto (tgt := 186) S.x S.b d_Mpg_declareArray_182 (by decide) ?_
            refine px_put S k_Mpg hT hw 0 0 58 rfl rfl (by decide) m10_55 rfl rfl rfl (Nat.le_of_ble_eq_true rfl) d_Mpg_declareArray_186 (w' := wdP cs h r g tf ta pf na ma_73 wa (upd cf_73 58 0) ca ef ea xf xa) (ps' := [wdP cs h r g tf ta pf na ma_73 wa (upd cf_73 58 0) ca ef ea xf xa]) rfl rfl (fun H locs hw => ?_)
            refine lv_iload_n S.x S.b d_Mpg_declareArray_189 rfl (lv_at hl 2 rfl) ?_
            refine lv_if_eq (tgt := 204) S.x S.b d_Mpg_declareArray_190 (by decide) (fun c7 => ?_) (fun c7 => ?_)
            · have nc7 : p1.toInt = (0 : Int) := (i_eq (x := p1) (y := 0)).mp c7
              refine lv_aload_n S.x S.b d_Mpg_declareArray_204 rfl (lv_at hl 0 rfl) ?_
              refine px_get S k_Mpg hT hw 0 0 58 (v := .int 0) rfl rfl rfl (by decide) m10_55 d_Mpg_declareArray_205 ?_
              exact px_iret (v := 0) S hr rfl hlk hAe hw (Nat.le_of_ble_eq_true rfl) (Nat.le_of_ble_eq_true rfl) (⟨ma_73, (upd cf_73 58 0), rfl, (show (cf_73 30).toInt = 0 → (cf 30).toInt = 0 from by first | exact k73_0 | omega), (show WrV (upd cf_73 58 0) (tf 6).toInt from (WrV.u hwr (by decide) (by decide))), (show (cf_73 33).toInt = (cf 33).toInt from by first | exact k73_2 | omega), (show (cf_73 37).toInt = (cf 37).toInt from by first | exact k73_3 | omega), (show (cf_73 38).toInt = (cf 38).toInt from by first | exact k73_4 | omega), (show (cf_73 41).toInt = (cf 41).toInt from by first | exact k73_5 | omega), (show (cf_73 42).toInt = (cf 42).toInt from by first | exact k73_6 | omega), (show (cf_73 43).toInt = (cf 43).toInt from by first | exact k73_7 | omega), (show (cf_73 44).toInt = (cf 44).toInt from by first | exact k73_8 | omega), (show (cf_73 45).toInt = (cf 45).toInt from by first | exact k73_9 | omega), (show (cf_73 46).toInt = (cf 46).toInt from by first | exact k73_10 | omega), (show (cf_73 47).toInt = (cf 47).toInt from by first | exact k73_11 | omega), (show (cf_73 48).toInt = (cf 48).toInt from by first | exact k73_12 | omega), (show (cf_73 54).toInt = (cf 54).toInt from by first | exact k73_13 | omega), (show (cf_73 55).toInt = (cf 55).toInt from by first | exact k73_14 | omega), (show (cf_73 59).toInt = (cf 59).toInt from by first | exact k73_15 | omega), (show Ann na ma0 ma_73 from han), (show FrC lo hi ma ma_73 from hfc), (show 0 ≤ (0 : Int) from by first | decide | omega), (show (0 : Int) ≤ 4096 from by first | decide | omega), (show 0 ≤ (0 : Int) from by first | decide | omega), (show (0 : Int) ≤ 4096 from by first | decide | omega), (show (0 : Int) ≤ 4 * (0 : Int) from by first | decide | omega), (show ZAv (upd cf_73 58 0) ta na ma_73 p0 (0 : Int) from (ZAvF (by first | exact zr_no (by first | with_reducible rfl | with_reducible assumption | omega) | exact zav_0 han (by first | with_reducible rfl | with_reducible assumption | omega) (by have hav0 := hav.k0; omega) | exact zav_2 han (by first | with_reducible rfl | with_reducible assumption | omega) (by first | with_reducible rfl | with_reducible assumption | omega) hrl (by first | with_reducible rfl | with_reducible assumption | omega) (by first | with_reducible rfl | with_reducible assumption | omega) (by first | with_reducible rfl | with_reducible assumption | omega) | exact zav_3 han (by first | with_reducible rfl | with_reducible assumption | omega) (by first | with_reducible rfl | with_reducible assumption | omega) ha_zz (by first | with_reducible rfl | with_reducible assumption | omega))))⟩) d_Mpg_declareArray_208
            · have nc7 : ¬ p1.toInt = (0 : Int) := mt (i_eq (x := p1) (y := 0)).mpr c7
              refine lv_aload_n S.x S.b d_Mpg_declareArray_193 rfl (lv_at hl 0 rfl) ?_
              refine px_get S k_Mpg hT hw 0 0 58 (v := .int 0) rfl rfl rfl (by decide) m10_55 d_Mpg_declareArray_194 ?_
              refine lv_iconst (v := 3) S.x S.b d_Mpg_declareArray_197 (by decide) ?_
              refine lv_iadd S.x S.b d_Mpg_declareArray_198 ?_
              refine lv_topi (fun z8 ez8 => ?_)
              have tz8 : z8.toInt = ((0 : Int) + (3 : Int) + 2147483648) % 4294967296 - 2147483648 := by rw [ez8]; exact i_add 0 3
              have lz8 := Int32.le_toInt z8
              have uz8 := Int32.toInt_lt z8
              try replace tz8 : z8.toInt = (0 : Int) + (3 : Int) := by omega
              refine lv_iconst (v := 4) S.x S.b d_Mpg_declareArray_199 (by decide) ?_
              refine lv_idiv S.x S.b d_Mpg_declareArray_200 (fun hz0 => by have hz1 := i_eq.mp hz0; omega) ?_
              refine lv_topi (fun z9 ez9 => ?_)
              have lz9 := Int32.le_toInt z9
              have uz9 := Int32.toInt_lt z9
              have hd4 := i_div4 ez9 (by first | with_reducible rfl | with_reducible assumption | omega)
              refine lv_goto (tgt := 208) S.x S.b d_Mpg_declareArray_201 (by decide) ?_
              exact px_iret (v := z9) S hr rfl hlk hAe hw (Nat.le_of_ble_eq_true rfl) (Nat.le_of_ble_eq_true rfl) (⟨ma_73, (upd cf_73 58 0), rfl, (show (cf_73 30).toInt = 0 → (cf 30).toInt = 0 from by first | exact k73_0 | omega), (show WrV (upd cf_73 58 0) (tf 6).toInt from (WrV.u hwr (by decide) (by decide))), (show (cf_73 33).toInt = (cf 33).toInt from by first | exact k73_2 | omega), (show (cf_73 37).toInt = (cf 37).toInt from by first | exact k73_3 | omega), (show (cf_73 38).toInt = (cf 38).toInt from by first | exact k73_4 | omega), (show (cf_73 41).toInt = (cf 41).toInt from by first | exact k73_5 | omega), (show (cf_73 42).toInt = (cf 42).toInt from by first | exact k73_6 | omega), (show (cf_73 43).toInt = (cf 43).toInt from by first | exact k73_7 | omega), (show (cf_73 44).toInt = (cf 44).toInt from by first | exact k73_8 | omega), (show (cf_73 45).toInt = (cf 45).toInt from by first | exact k73_9 | omega), (show (cf_73 46).toInt = (cf 46).toInt from by first | exact k73_10 | omega), (show (cf_73 47).toInt = (cf 47).toInt from by first | exact k73_11 | omega), (show (cf_73 48).toInt = (cf 48).toInt from by first | exact k73_12 | omega), (show (cf_73 54).toInt = (cf 54).toInt from by first | exact k73_13 | omega), (show (cf_73 55).toInt = (cf 55).toInt from by first | exact k73_14 | omega), (show (cf_73 59).toInt = (cf 59).toInt from by first | exact k73_15 | omega), (show Ann na ma0 ma_73 from han), (show FrC lo hi ma ma_73 from hfc), (show 0 ≤ (0 : Int) from by first | decide | omega), (show (0 : Int) ≤ 4096 from by first | decide | omega), (show 0 ≤ z9.toInt from by first | with_reducible rfl | with_reducible assumption | omega), (show z9.toInt ≤ 4096 from by first | with_reducible rfl | with_reducible assumption | omega), (show (0 : Int) ≤ 4 * z9.toInt from by first | with_reducible rfl | with_reducible assumption | omega), (show ZAv (upd cf_73 58 0) ta na ma_73 p0 (0 : Int) from (ZAvF (by first | exact zr_no (by first | with_reducible rfl | with_reducible assumption | omega) | exact zav_0 han (by first | with_reducible rfl | with_reducible assumption | omega) (by have hav0 := hav.k0; omega) | exact zav_2 han (by first | with_reducible rfl | with_reducible assumption | omega) (by first | with_reducible rfl | with_reducible assumption | omega) hrl (by first | with_reducible rfl | with_reducible assumption | omega) (by first | with_reducible rfl | with_reducible assumption | omega) (by first | with_reducible rfl | with_reducible assumption | omega) | exact zav_3 han (by first | with_reducible rfl | with_reducible assumption | omega) (by first | with_reducible rfl | with_reducible assumption | omega) ha_zz (by first | with_reducible rfl | with_reducible assumption | omega))))⟩) d_Mpg_declareArray_208
        · have nc2 : ¬ x73_3.toInt < (0 : Int) := mt (i_lt (x := x73_3) (y := 0)).mpr c2
          refine lv_iload S.x S.b d_Mpg_declareArray_104 (lv_at hl 4 rfl) ?_
          refine lv_iload_n S.x S.b d_Mpg_declareArray_106 rfl (lv_at hl 3 rfl) ?_
          refine lv_icmp_le (tgt := 122) S.x S.b d_Mpg_declareArray_107 (by decide) (fun c10 => ?_) (fun c10 => ?_)
          · have nc10 : x73_4.toInt ≤ x73_3.toInt := (i_le (x := x73_4) (y := x73_3)).mp c10
            refine lv_goto (tgt := 176) S.x S.b d_Mpg_declareArray_122 (by decide) ?_
            refine lv_aload_n S.x S.b d_Mpg_declareArray_176 rfl (lv_at hl 0 rfl) ?_
            refine lv_iload_n S.x S.b d_Mpg_declareArray_177 rfl (lv_at hl 3 rfl) ?_
            refine lv_if_ge (tgt := 185) S.x S.b d_Mpg_declareArray_178 (by decide) (fun c11 => ?_) (fun c11 => ?_)
            · have nc11 : (0 : Int) ≤ x73_3.toInt := (i_le (x := 0) (y := x73_3)).mp c11
              refine lv_iload_n S.x S.b d_Mpg_declareArray_185 rfl (lv_at hl 3 rfl) ?_
              refine px_put S k_Mpg hT hw 0 0 58 rfl rfl (by decide) m10_55 rfl rfl rfl (Nat.le_of_ble_eq_true rfl) d_Mpg_declareArray_186 (w' := wdP cs h r g tf ta pf na ma_73 wa (upd cf_73 58 x73_3) ca ef ea xf xa) (ps' := [wdP cs h r g tf ta pf na ma_73 wa (upd cf_73 58 x73_3) ca ef ea xf xa]) rfl rfl (fun H locs hw => ?_)
              refine lv_iload_n S.x S.b d_Mpg_declareArray_189 rfl (lv_at hl 2 rfl) ?_
              refine lv_if_eq (tgt := 204) S.x S.b d_Mpg_declareArray_190 (by decide) (fun c12 => ?_) (fun c12 => ?_)
              · have nc12 : p1.toInt = (0 : Int) := (i_eq (x := p1) (y := 0)).mp c12
                refine lv_aload_n S.x S.b d_Mpg_declareArray_204 rfl (lv_at hl 0 rfl) ?_
                refine px_get S k_Mpg hT hw 0 0 58 (v := .int x73_3) rfl rfl rfl (by decide) m10_55 d_Mpg_declareArray_205 ?_
                exact px_iret (v := x73_3) S hr rfl hlk hAe hw (Nat.le_of_ble_eq_true rfl) (Nat.le_of_ble_eq_true rfl) (⟨ma_73, (upd cf_73 58 x73_3), rfl, (show (cf_73 30).toInt = 0 → (cf 30).toInt = 0 from by first | exact k73_0 | omega), (show WrV (upd cf_73 58 x73_3) (tf 6).toInt from (WrV.u hwr (by decide) (by decide))), (show (cf_73 33).toInt = (cf 33).toInt from by first | exact k73_2 | omega), (show (cf_73 37).toInt = (cf 37).toInt from by first | exact k73_3 | omega), (show (cf_73 38).toInt = (cf 38).toInt from by first | exact k73_4 | omega), (show (cf_73 41).toInt = (cf 41).toInt from by first | exact k73_5 | omega), (show (cf_73 42).toInt = (cf 42).toInt from by first | exact k73_6 | omega), (show (cf_73 43).toInt = (cf 43).toInt from by first | exact k73_7 | omega), (show (cf_73 44).toInt = (cf 44).toInt from by first | exact k73_8 | omega), (show (cf_73 45).toInt = (cf 45).toInt from by first | exact k73_9 | omega), (show (cf_73 46).toInt = (cf 46).toInt from by first | exact k73_10 | omega), (show (cf_73 47).toInt = (cf 47).toInt from by first | exact k73_11 | omega), (show (cf_73 48).toInt = (cf 48).toInt from by first | exact k73_12 | omega), (show (cf_73 54).toInt = (cf 54).toInt from by first | exact k73_13 | omega), (show (cf_73 55).toInt = (cf 55).toInt from by first | exact k73_14 | omega), (show (cf_73 59).toInt = (cf 59).toInt from by first | exact k73_15 | omega), (show Ann na ma0 ma_73 from han), (show FrC lo hi ma ma_73 from hfc), (show 0 ≤ x73_3.toInt from by first | exact oz_16d7fa9f32 nc10 k73_21 | omega), (show x73_3.toInt ≤ 4096 from by first | exact k73_19 | omega), (show 0 ≤ x73_3.toInt from by first | exact oz_16d7fa9f32 nc10 k73_21 | omega), (show x73_3.toInt ≤ 4096 from by first | exact k73_19 | omega), (show x73_3.toInt ≤ 4 * x73_3.toInt from by first | exact oz_26cc6bf789 nc10 k73_21 | omega), (show ZAv (upd cf_73 58 x73_3) ta na ma_73 p0 x73_3.toInt from (ZAvF (by first | exact zr_no (by first | with_reducible rfl | with_reducible assumption | omega) | exact zav_0 han (by first | with_reducible rfl | with_reducible assumption | omega) (by have hav0 := hav.k0; omega) | exact zav_2 han (by first | with_reducible rfl | with_reducible assumption | omega) (by first | with_reducible rfl | with_reducible assumption | omega) hrl (by first | with_reducible rfl | with_reducible assumption | omega) (by first | with_reducible rfl | with_reducible assumption | omega) (by first | with_reducible rfl | with_reducible assumption | omega) | exact zav_3 han (by first | with_reducible rfl | with_reducible assumption | omega) (by first | with_reducible rfl | with_reducible assumption | omega) ha_zz (by first | with_reducible rfl | with_reducible assumption | omega))))⟩) d_Mpg_declareArray_208
              · have nc12 : ¬ p1.toInt = (0 : Int) := mt (i_eq (x := p1) (y := 0)).mpr c12
                refine lv_aload_n S.x S.b d_Mpg_declareArray_193 rfl (lv_at hl 0 rfl) ?_
                refine px_get S k_Mpg hT hw 0 0 58 (v := .int x73_3) rfl rfl rfl (by decide) m10_55 d_Mpg_declareArray_194 ?_
                refine lv_iconst (v := 3) S.x S.b d_Mpg_declareArray_197 (by decide) ?_
                refine lv_iadd S.x S.b d_Mpg_declareArray_198 ?_
                refine lv_topi (fun z13 ez13 => ?_)
                have tz13 : z13.toInt = (x73_3.toInt + (3 : Int) + 2147483648) % 4294967296 - 2147483648 := by rw [ez13]; exact i_add x73_3 3
                have lz13 := Int32.le_toInt z13
                have uz13 := Int32.toInt_lt z13
                try replace tz13 : z13.toInt = x73_3.toInt + (3 : Int) := by omega
                refine lv_iconst (v := 4) S.x S.b d_Mpg_declareArray_199 (by decide) ?_
                refine lv_idiv S.x S.b d_Mpg_declareArray_200 (fun hz0 => by have hz1 := i_eq.mp hz0; omega) ?_
                refine lv_topi (fun z14 ez14 => ?_)
                have lz14 := Int32.le_toInt z14
                have uz14 := Int32.toInt_lt z14
                have hd4 := i_div4 ez14 (by first | with_reducible rfl | with_reducible assumption | omega)
                refine lv_goto (tgt := 208) S.x S.b d_Mpg_declareArray_201 (by decide) ?_
                exact px_iret (v := z14) S hr rfl hlk hAe hw (Nat.le_of_ble_eq_true rfl) (Nat.le_of_ble_eq_true rfl) (⟨ma_73, (upd cf_73 58 x73_3), rfl, (show (cf_73 30).toInt = 0 → (cf 30).toInt = 0 from by first | exact k73_0 | omega), (show WrV (upd cf_73 58 x73_3) (tf 6).toInt from (WrV.u hwr (by decide) (by decide))), (show (cf_73 33).toInt = (cf 33).toInt from by first | exact k73_2 | omega), (show (cf_73 37).toInt = (cf 37).toInt from by first | exact k73_3 | omega), (show (cf_73 38).toInt = (cf 38).toInt from by first | exact k73_4 | omega), (show (cf_73 41).toInt = (cf 41).toInt from by first | exact k73_5 | omega), (show (cf_73 42).toInt = (cf 42).toInt from by first | exact k73_6 | omega), (show (cf_73 43).toInt = (cf 43).toInt from by first | exact k73_7 | omega), (show (cf_73 44).toInt = (cf 44).toInt from by first | exact k73_8 | omega), (show (cf_73 45).toInt = (cf 45).toInt from by first | exact k73_9 | omega), (show (cf_73 46).toInt = (cf 46).toInt from by first | exact k73_10 | omega), (show (cf_73 47).toInt = (cf 47).toInt from by first | exact k73_11 | omega), (show (cf_73 48).toInt = (cf 48).toInt from by first | exact k73_12 | omega), (show (cf_73 54).toInt = (cf 54).toInt from by first | exact k73_13 | omega), (show (cf_73 55).toInt = (cf 55).toInt from by first | exact k73_14 | omega), (show (cf_73 59).toInt = (cf 59).toInt from by first | exact k73_15 | omega), (show Ann na ma0 ma_73 from han), (show FrC lo hi ma ma_73 from hfc), (show 0 ≤ x73_3.toInt from by first | exact oz_16d7fa9f32 nc10 k73_21 | omega), (show x73_3.toInt ≤ 4096 from by first | exact k73_19 | omega), (show 0 ≤ z14.toInt from by first | with_reducible rfl | with_reducible assumption | omega), (show z14.toInt ≤ 4096 from by first | with_reducible rfl | with_reducible assumption | omega), (show x73_3.toInt ≤ 4 * z14.toInt from by first | with_reducible rfl | with_reducible assumption | omega), (show ZAv (upd cf_73 58 x73_3) ta na ma_73 p0 x73_3.toInt from (ZAvF (by first | exact zr_no (by first | with_reducible rfl | with_reducible assumption | omega) | exact zav_0 han (by first | with_reducible rfl | with_reducible assumption | omega) (by have hav0 := hav.k0; omega) | exact zav_2 han (by first | with_reducible rfl | with_reducible assumption | omega) (by first | with_reducible rfl | with_reducible assumption | omega) hrl (by first | with_reducible rfl | with_reducible assumption | omega) (by first | with_reducible rfl | with_reducible assumption | omega) (by first | with_reducible rfl | with_reducible assumption | omega) | exact zav_3 han (by first | with_reducible rfl | with_reducible assumption | omega) (by first | with_reducible rfl | with_reducible assumption | omega) ha_zz (by first | with_reducible rfl | with_reducible assumption | omega))))⟩) d_Mpg_declareArray_208
            · have nc11 : ¬ (0 : Int) ≤ x73_3.toInt := mt (i_le (x := 0) (y := x73_3)).mpr c11
              refine lv_iconst (v := 0) S.x S.b d_Mpg_declareArray_181 (by decide) ?_
              refine lv_goto (tgt := 186) S.x S.b d_Mpg_declareArray_182 (by decide) ?_
              refine px_put S k_Mpg hT hw 0 0 58 rfl rfl (by decide) m10_55 rfl rfl rfl (Nat.le_of_ble_eq_true rfl) d_Mpg_declareArray_186 (w' := wdP cs h r g tf ta pf na ma_73 wa (upd cf_73 58 0) ca ef ea xf xa) (ps' := [wdP cs h r g tf ta pf na ma_73 wa (upd cf_73 58 0) ca ef ea xf xa]) rfl rfl (fun H locs hw => ?_)
              refine lv_iload_n S.x S.b d_Mpg_declareArray_189 rfl (lv_at hl 2 rfl) ?_
              refine lv_if_eq (tgt := 204) S.x S.b d_Mpg_declareArray_190 (by decide) (fun c15 => ?_) (fun c15 => ?_)
              · have nc15 : p1.toInt = (0 : Int) := (i_eq (x := p1) (y := 0)).mp c15
                refine lv_aload_n S.x S.b d_Mpg_declareArray_204 rfl (lv_at hl 0 rfl) ?_
                refine px_get S k_Mpg hT hw 0 0 58 (v := .int 0) rfl rfl rfl (by decide) m10_55 d_Mpg_declareArray_205 ?_
                exact px_iret (v := 0) S hr rfl hlk hAe hw (Nat.le_of_ble_eq_true rfl) (Nat.le_of_ble_eq_true rfl) (⟨ma_73, (upd cf_73 58 0), rfl, (show (cf_73 30).toInt = 0 → (cf 30).toInt = 0 from by first | exact k73_0 | omega), (show WrV (upd cf_73 58 0) (tf 6).toInt from (WrV.u hwr (by decide) (by decide))), (show (cf_73 33).toInt = (cf 33).toInt from by first | exact k73_2 | omega), (show (cf_73 37).toInt = (cf 37).toInt from by first | exact k73_3 | omega), (show (cf_73 38).toInt = (cf 38).toInt from by first | exact k73_4 | omega), (show (cf_73 41).toInt = (cf 41).toInt from by first | exact k73_5 | omega), (show (cf_73 42).toInt = (cf 42).toInt from by first | exact k73_6 | omega), (show (cf_73 43).toInt = (cf 43).toInt from by first | exact k73_7 | omega), (show (cf_73 44).toInt = (cf 44).toInt from by first | exact k73_8 | omega), (show (cf_73 45).toInt = (cf 45).toInt from by first | exact k73_9 | omega), (show (cf_73 46).toInt = (cf 46).toInt from by first | exact k73_10 | omega), (show (cf_73 47).toInt = (cf 47).toInt from by first | exact k73_11 | omega), (show (cf_73 48).toInt = (cf 48).toInt from by first | exact k73_12 | omega), (show (cf_73 54).toInt = (cf 54).toInt from by first | exact k73_13 | omega), (show (cf_73 55).toInt = (cf 55).toInt from by first | exact k73_14 | omega), (show (cf_73 59).toInt = (cf 59).toInt from by first | exact k73_15 | omega), (show Ann na ma0 ma_73 from han), (show FrC lo hi ma ma_73 from hfc), (show 0 ≤ (0 : Int) from by first | decide | omega), (show (0 : Int) ≤ 4096 from by first | decide | omega), (show 0 ≤ (0 : Int) from by first | decide | omega), (show (0 : Int) ≤ 4096 from by first | decide | omega), (show (0 : Int) ≤ 4 * (0 : Int) from by first | decide | omega), (show ZAv (upd cf_73 58 0) ta na ma_73 p0 (0 : Int) from (ZAvF (by first | exact zr_no (by first | with_reducible rfl | with_reducible assumption | omega) | exact zav_0 han (by first | with_reducible rfl | with_reducible assumption | omega) (by have hav0 := hav.k0; omega) | exact zav_2 han (by first | with_reducible rfl | with_reducible assumption | omega) (by first | with_reducible rfl | with_reducible assumption | omega) hrl (by first | with_reducible rfl | with_reducible assumption | omega) (by first | with_reducible rfl | with_reducible assumption | omega) (by first | with_reducible rfl | with_reducible assumption | omega) | exact zav_3 han (by first | with_reducible rfl | with_reducible assumption | omega) (by first | with_reducible rfl | with_reducible assumption | omega) ha_zz (by first | with_reducible rfl | with_reducible assumption | omega))))⟩) d_Mpg_declareArray_208
              · have nc15 : ¬ p1.toInt = (0 : Int) := mt (i_eq (x := p1) (y := 0)).mpr c15
                refine lv_aload_n S.x S.b d_Mpg_declareArray_193 rfl (lv_at hl 0 rfl) ?_
                refine px_get S k_Mpg hT hw 0 0 58 (v := .int 0) rfl rfl rfl (by decide) m10_55 d_Mpg_declareArray_194 ?_
                refine lv_iconst (v := 3) S.x S.b d_Mpg_declareArray_197 (by decide) ?_
                refine lv_iadd S.x S.b d_Mpg_declareArray_198 ?_
                refine lv_topi (fun z16 ez16 => ?_)
                have tz16 : z16.toInt = ((0 : Int) + (3 : Int) + 2147483648) % 4294967296 - 2147483648 := by rw [ez16]; exact i_add 0 3
                have lz16 := Int32.le_toInt z16
                have uz16 := Int32.toInt_lt z16
                try replace tz16 : z16.toInt = (0 : Int) + (3 : Int) := by omega
                refine lv_iconst (v := 4) S.x S.b d_Mpg_declareArray_199 (by decide) ?_
                refine lv_idiv S.x S.b d_Mpg_declareArray_200 (fun hz0 => by have hz1 := i_eq.mp hz0; omega) ?_
                refine lv_topi (fun z17 ez17 => ?_)
                have lz17 := Int32.le_toInt z17
                have uz17 := Int32.toInt_lt z17
                have hd4 := i_div4 ez17 (by first | with_reducible rfl | with_reducible assumption | omega)
                refine lv_goto (tgt := 208) S.x S.b d_Mpg_declareArray_201 (by decide) ?_
                exact px_iret (v := z17) S hr rfl hlk hAe hw (Nat.le_of_ble_eq_true rfl) (Nat.le_of_ble_eq_true rfl) (⟨ma_73, (upd cf_73 58 0), rfl, (show (cf_73 30).toInt = 0 → (cf 30).toInt = 0 from by first | exact k73_0 | omega), (show WrV (upd cf_73 58 0) (tf 6).toInt from (WrV.u hwr (by decide) (by decide))), (show (cf_73 33).toInt = (cf 33).toInt from by first | exact k73_2 | omega), (show (cf_73 37).toInt = (cf 37).toInt from by first | exact k73_3 | omega), (show (cf_73 38).toInt = (cf 38).toInt from by first | exact k73_4 | omega), (show (cf_73 41).toInt = (cf 41).toInt from by first | exact k73_5 | omega), (show (cf_73 42).toInt = (cf 42).toInt from by first | exact k73_6 | omega), (show (cf_73 43).toInt = (cf 43).toInt from by first | exact k73_7 | omega), (show (cf_73 44).toInt = (cf 44).toInt from by first | exact k73_8 | omega), (show (cf_73 45).toInt = (cf 45).toInt from by first | exact k73_9 | omega), (show (cf_73 46).toInt = (cf 46).toInt from by first | exact k73_10 | omega), (show (cf_73 47).toInt = (cf 47).toInt from by first | exact k73_11 | omega), (show (cf_73 48).toInt = (cf 48).toInt from by first | exact k73_12 | omega), (show (cf_73 54).toInt = (cf 54).toInt from by first | exact k73_13 | omega), (show (cf_73 55).toInt = (cf 55).toInt from by first | exact k73_14 | omega), (show (cf_73 59).toInt = (cf 59).toInt from by first | exact k73_15 | omega), (show Ann na ma0 ma_73 from han), (show FrC lo hi ma ma_73 from hfc), (show 0 ≤ (0 : Int) from by first | decide | omega), (show (0 : Int) ≤ 4096 from by first | decide | omega), (show 0 ≤ z17.toInt from by first | with_reducible rfl | with_reducible assumption | omega), (show z17.toInt ≤ 4096 from by first | with_reducible rfl | with_reducible assumption | omega), (show (0 : Int) ≤ 4 * z17.toInt from by first | with_reducible rfl | with_reducible assumption | omega), (show ZAv (upd cf_73 58 0) ta na ma_73 p0 (0 : Int) from (ZAvF (by first | exact zr_no (by first | with_reducible rfl | with_reducible assumption | omega) | exact zav_0 han (by first | with_reducible rfl | with_reducible assumption | omega) (by have hav0 := hav.k0; omega) | exact zav_2 han (by first | with_reducible rfl | with_reducible assumption | omega) (by first | with_reducible rfl | with_reducible assumption | omega) hrl (by first | with_reducible rfl | with_reducible assumption | omega) (by first | with_reducible rfl | with_reducible assumption | omega) (by first | with_reducible rfl | with_reducible assumption | omega) | exact zav_3 han (by first | with_reducible rfl | with_reducible assumption | omega) (by first | with_reducible rfl | with_reducible assumption | omega) ha_zz (by first | with_reducible rfl | with_reducible assumption | omega))))⟩) d_Mpg_declareArray_208
          · have nc10 : ¬ x73_4.toInt ≤ x73_3.toInt := mt (i_le (x := x73_4) (y := x73_3)).mpr c10
            refine lv_aload_n S.x S.b d_Mpg_declareArray_110 rfl (lv_at hl 0 rfl) ?_
            refine lv_bipush (v := 8) S.x S.b d_Mpg_declareArray_111 (by decide) ?_
            refine lv_aload_n S.x S.b d_Mpg_declareArray_113 rfl (lv_at hl 0 rfl) ?_
            refine px_get S k_Mpg hT hw 0 0 19 (v := .ref (r 19)) rfl rfl rfl (by decide) m10_5 d_Mpg_declareArray_114 ?_
            refine lv_iload_n S.x S.b d_Mpg_declareArray_117 rfl (lv_at hl 1 rfl) ?_
            refine px_iald S hT hw 0 15 (n := 2100) (f := (ma_73 19)) rfl gp_19 (x := p0) (vp_in_iff.mpr (by first | exact oz_06ab0f2373 hvr.2.2.1 hm1 g1 k73_22 k73_24 g2 nc10 nc2 | (constructor <;> omega))) d_Mpg_declareArray_118 ?_
            refine lv_topi (fun z18 ez18 => ?_)
            have lz18 := Int32.le_toInt z18
            have uz18 := Int32.toInt_lt z18
            have ha_z18 : z18 = ma0 19 p0.toNatClampNeg := ez18.trans (Ann.v19 han (by first | with_reducible rfl | with_reducible assumption | omega)); have hn_z18 : z18.toInt = (ma0 19 p0.toNatClampNeg).toInt := (by rw [ha_z18]); have hk2 := hav.k2 (by first | with_reducible rfl | with_reducible assumption | omega); have hk2b := hk2.2
            refine px_callv (pr := []) (px_runV (As := [.int 8, .int z18]) (rest := []) S (c_mp_bad l D cs h r g tf ta pf na ma_73 wa ca ef ea xf xa cf_73 8 z18  (show 1 ≤ (8 : Int) from by first | decide | omega) (show 0 ≤ z18.toInt from by first | exact oz_f3ebed1ad0 hn_z18 hk2.2.1 | omega) (show z18.toInt < (tf 6).toInt from by first | exact oz_03643ffaec hn_z18 hk2.2.2 | omega) htk hwr _) hT (pr := []) (pcs := [wdP cs h r g tf ta pf na ma_73 wa cf_73 ca ef ea xf xa]) hw px_X.tt (px_recv hT hw 0 0 rfl rfl rfl) m12_173 m12_170 m12_172 ms_11_12 m1_21 q_Mpg_bad ⟨show 0 + 1 ≤ (4 * d + 20) from by first | with_reducible rfl | with_reducible assumption | omega, show 8 + (3 + 11) + 0 ≤ (200 * d + 700) from by first | with_reducible rfl | with_reducible assumption | omega⟩ hl.1 rfl (Nat.le_of_ble_eq_true rfl) d_Mpg_declareArray_119 ⟨Nat.le_of_ble_eq_true rfl, Nat.le_of_ble_eq_true rfl⟩) hw hA (fun p21 H locs hp21 hw => ?_)
            obtain ⟨cf20, rfl, e23, e24, e25, e26, e27, e28, e29, e30, e31, e32, e33, e34, e35, e36, e37, e38, e39, e40, e41⟩ := hp21
            have e23 : KpE cf_73 cf20 := e23
            have hkz_e23 := e23.2
            have e24 : WrV cf20 (tf 6).toInt := e24
            have hwr := e24
            have hw0_e24 := hwr.1
            have e25 : 1 ≤ (cf20 30).toInt := e25
            have e26 : (cf20 33).toInt = (cf_73 33).toInt := e26
            have e27 : (cf20 38).toInt = (cf_73 38).toInt := e27
            have e28 : (cf20 48).toInt = (cf_73 48).toInt := e28
            have e29 : (cf20 46).toInt = (cf_73 46).toInt := e29
            have e30 : (cf20 47).toInt = (cf_73 47).toInt := e30
            have e31 : (cf20 57).toInt = (cf_73 57).toInt := e31
            have e32 : (cf20 37).toInt = (cf_73 37).toInt := e32
            have e33 : (cf20 42).toInt = (cf_73 42).toInt := e33
            have e34 : (cf20 43).toInt = (cf_73 43).toInt := e34
            have e35 : (cf20 44).toInt = (cf_73 44).toInt := e35
            have e36 : (cf20 45).toInt = (cf_73 45).toInt := e36
            have e37 : (cf20 54).toInt = (cf_73 54).toInt := e37
            have e38 : (cf20 55).toInt = (cf_73 55).toInt := e38
            have e39 : (cf20 58).toInt = (cf_73 58).toInt := e39
            have e40 : (cf20 59).toInt = (cf_73 59).toInt := e40
            have e41 : (cf20 41).toInt = (cf_73 41).toInt := e41
            have hw : pw D A s.heap H locs [wdP cs h r g tf ta pf na ma_73 wa cf20 ca ef ea xf xa] := hw
            refine lv_goto (tgt := 176) S.x S.b d_Mpg_declareArray_122 (by decide) ?_
            refine lv_aload_n S.x S.b d_Mpg_declareArray_176 rfl (lv_at hl 0 rfl) ?_
            refine lv_iload_n S.x S.b d_Mpg_declareArray_177 rfl (lv_at hl 3 rfl) ?_
            refine lv_if_ge (tgt := 185) S.x S.b d_Mpg_declareArray_178 (by decide) (fun c42 => ?_) (fun c42 => ?_)
            · have nc42 : (0 : Int) ≤ x73_3.toInt := (i_le (x := 0) (y := x73_3)).mp c42
              refine lv_iload_n S.x S.b d_Mpg_declareArray_185 rfl (lv_at hl 3 rfl) ?_
              refine px_put S k_Mpg hT hw 0 0 58 rfl rfl (by decide) m10_55 rfl rfl rfl (Nat.le_of_ble_eq_true rfl) d_Mpg_declareArray_186 (w' := wdP cs h r g tf ta pf na ma_73 wa (upd cf20 58 x73_3) ca ef ea xf xa) (ps' := [wdP cs h r g tf ta pf na ma_73 wa (upd cf20 58 x73_3) ca ef ea xf xa]) rfl rfl (fun H locs hw => ?_)
              refine lv_iload_n S.x S.b d_Mpg_declareArray_189 rfl (lv_at hl 2 rfl) ?_
              refine lv_if_eq (tgt := 204) S.x S.b d_Mpg_declareArray_190 (by decide) (fun c43 => ?_) (fun c43 => ?_)
              · have nc43 : p1.toInt = (0 : Int) := (i_eq (x := p1) (y := 0)).mp c43
                refine lv_aload_n S.x S.b d_Mpg_declareArray_204 rfl (lv_at hl 0 rfl) ?_
                refine px_get S k_Mpg hT hw 0 0 58 (v := .int x73_3) rfl rfl rfl (by decide) m10_55 d_Mpg_declareArray_205 ?_
                exact px_iret (v := x73_3) S hr rfl hlk hAe hw (Nat.le_of_ble_eq_true rfl) (Nat.le_of_ble_eq_true rfl) (⟨ma_73, (upd cf20 58 x73_3), rfl, (show (cf20 30).toInt = 0 → (cf 30).toInt = 0 from by first | with_reducible rfl | with_reducible assumption | omega), (show WrV (upd cf20 58 x73_3) (tf 6).toInt from (WrV.u hwr (by decide) (by decide))), (show (cf20 33).toInt = (cf 33).toInt from by first | exact oz_1687f4cc65 k73_2 e26 | omega), (show (cf20 37).toInt = (cf 37).toInt from by first | exact oz_1687f4cc65 k73_3 e32 | omega), (show (cf20 38).toInt = (cf 38).toInt from by first | exact oz_1687f4cc65 k73_4 e27 | omega), (show (cf20 41).toInt = (cf 41).toInt from by first | exact oz_1687f4cc65 k73_5 e41 | omega), (show (cf20 42).toInt = (cf 42).toInt from by first | exact oz_1687f4cc65 k73_6 e33 | omega), (show (cf20 43).toInt = (cf 43).toInt from by first | exact oz_1687f4cc65 k73_7 e34 | omega), (show (cf20 44).toInt = (cf 44).toInt from by first | exact oz_1687f4cc65 k73_8 e35 | omega), (show (cf20 45).toInt = (cf 45).toInt from by first | exact oz_1687f4cc65 k73_9 e36 | omega), (show (cf20 46).toInt = (cf 46).toInt from by first | exact oz_1687f4cc65 k73_10 e29 | omega), (show (cf20 47).toInt = (cf 47).toInt from by first | exact oz_1687f4cc65 k73_11 e30 | omega), (show (cf20 48).toInt = (cf 48).toInt from by first | exact oz_1687f4cc65 k73_12 e28 | omega), (show (cf20 54).toInt = (cf 54).toInt from by first | exact oz_1687f4cc65 k73_13 e37 | omega), (show (cf20 55).toInt = (cf 55).toInt from by first | exact oz_1687f4cc65 k73_14 e38 | omega), (show (cf20 59).toInt = (cf 59).toInt from by first | exact oz_1687f4cc65 k73_15 e40 | omega), (show Ann na ma0 ma_73 from han), (show FrC lo hi ma ma_73 from hfc), (show 0 ≤ x73_3.toInt from by first | exact oz_18a5c06a28 nc2 | omega), (show x73_3.toInt ≤ 4096 from by first | exact k73_19 | omega), (show 0 ≤ x73_3.toInt from by first | exact oz_18a5c06a28 nc2 | omega), (show x73_3.toInt ≤ 4096 from by first | exact k73_19 | omega), (show x73_3.toInt ≤ 4 * x73_3.toInt from by first | exact oz_f1bd93de6e nc2 | omega), (show ZAv (upd cf20 58 x73_3) ta na ma_73 p0 x73_3.toInt from (zr_no (by first | omega | (show 1 ≤ _; rw [pk_un (by decide)]; omega))))⟩) d_Mpg_declareArray_208
              · have nc43 : ¬ p1.toInt = (0 : Int) := mt (i_eq (x := p1) (y := 0)).mpr c43
                refine lv_aload_n S.x S.b d_Mpg_declareArray_193 rfl (lv_at hl 0 rfl) ?_
                refine px_get S k_Mpg hT hw 0 0 58 (v := .int x73_3) rfl rfl rfl (by decide) m10_55 d_Mpg_declareArray_194 ?_
                refine lv_iconst (v := 3) S.x S.b d_Mpg_declareArray_197 (by decide) ?_
                refine lv_iadd S.x S.b d_Mpg_declareArray_198 ?_
                refine lv_topi (fun z44 ez44 => ?_)
                have tz44 : z44.toInt = (x73_3.toInt + (3 : Int) + 2147483648) % 4294967296 - 2147483648 := by rw [ez44]; exact i_add x73_3 3
                have lz44 := Int32.le_toInt z44
                have uz44 := Int32.toInt_lt z44
                try replace tz44 : z44.toInt = x73_3.toInt + (3 : Int) := by omega
                refine lv_iconst (v := 4) S.x S.b d_Mpg_declareArray_199 (by decide) ?_
                refine lv_idiv S.x S.b d_Mpg_declareArray_200 (fun hz0 => by have hz1 := i_eq.mp hz0; omega) ?_
                refine lv_topi (fun z45 ez45 => ?_)
                have lz45 := Int32.le_toInt z45
                have uz45 := Int32.toInt_lt z45
                have hd4 := i_div4 ez45 (by first | with_reducible rfl | with_reducible assumption | omega)
                refine lv_goto (tgt := 208) S.x S.b d_Mpg_declareArray_201 (by decide) ?_
                exact px_iret (v := z45) S hr rfl hlk hAe hw (Nat.le_of_ble_eq_true rfl) (Nat.le_of_ble_eq_true rfl) (⟨ma_73, (upd cf20 58 x73_3), rfl, (show (cf20 30).toInt = 0 → (cf 30).toInt = 0 from by first | with_reducible rfl | with_reducible assumption | omega), (show WrV (upd cf20 58 x73_3) (tf 6).toInt from (WrV.u hwr (by decide) (by decide))), (show (cf20 33).toInt = (cf 33).toInt from by first | exact oz_1687f4cc65 k73_2 e26 | omega), (show (cf20 37).toInt = (cf 37).toInt from by first | exact oz_1687f4cc65 k73_3 e32 | omega), (show (cf20 38).toInt = (cf 38).toInt from by first | exact oz_1687f4cc65 k73_4 e27 | omega), (show (cf20 41).toInt = (cf 41).toInt from by first | exact oz_1687f4cc65 k73_5 e41 | omega), (show (cf20 42).toInt = (cf 42).toInt from by first | exact oz_1687f4cc65 k73_6 e33 | omega), (show (cf20 43).toInt = (cf 43).toInt from by first | exact oz_1687f4cc65 k73_7 e34 | omega), (show (cf20 44).toInt = (cf 44).toInt from by first | exact oz_1687f4cc65 k73_8 e35 | omega), (show (cf20 45).toInt = (cf 45).toInt from by first | exact oz_1687f4cc65 k73_9 e36 | omega), (show (cf20 46).toInt = (cf 46).toInt from by first | exact oz_1687f4cc65 k73_10 e29 | omega), (show (cf20 47).toInt = (cf 47).toInt from by first | exact oz_1687f4cc65 k73_11 e30 | omega), (show (cf20 48).toInt = (cf 48).toInt from by first | exact oz_1687f4cc65 k73_12 e28 | omega), (show (cf20 54).toInt = (cf 54).toInt from by first | exact oz_1687f4cc65 k73_13 e37 | omega), (show (cf20 55).toInt = (cf 55).toInt from by first | exact oz_1687f4cc65 k73_14 e38 | omega), (show (cf20 59).toInt = (cf 59).toInt from by first | exact oz_1687f4cc65 k73_15 e40 | omega), (show Ann na ma0 ma_73 from han), (show FrC lo hi ma ma_73 from hfc), (show 0 ≤ x73_3.toInt from by first | exact oz_18a5c06a28 nc2 | omega), (show x73_3.toInt ≤ 4096 from by first | exact k73_19 | omega), (show 0 ≤ z45.toInt from by first | with_reducible rfl | with_reducible assumption | omega), (show z45.toInt ≤ 4096 from by first | with_reducible rfl | with_reducible assumption | omega), (show x73_3.toInt ≤ 4 * z45.toInt from by first | with_reducible rfl | with_reducible assumption | omega), (show ZAv (upd cf20 58 x73_3) ta na ma_73 p0 x73_3.toInt from (zr_no (by first | omega | (show 1 ≤ _; rw [pk_un (by decide)]; omega))))⟩) d_Mpg_declareArray_208
            · have nc42 : ¬ (0 : Int) ≤ x73_3.toInt := mt (i_le (x := 0) (y := x73_3)).mpr c42
              refine lv_iconst (v := 0) S.x S.b d_Mpg_declareArray_181 (by decide) ?_
              refine lv_goto (tgt := 186) S.x S.b d_Mpg_declareArray_182 (by decide) ?_
              refine px_put S k_Mpg hT hw 0 0 58 rfl rfl (by decide) m10_55 rfl rfl rfl (Nat.le_of_ble_eq_true rfl) d_Mpg_declareArray_186 (w' := wdP cs h r g tf ta pf na ma_73 wa (upd cf20 58 0) ca ef ea xf xa) (ps' := [wdP cs h r g tf ta pf na ma_73 wa (upd cf20 58 0) ca ef ea xf xa]) rfl rfl (fun H locs hw => ?_)
              refine lv_iload_n S.x S.b d_Mpg_declareArray_189 rfl (lv_at hl 2 rfl) ?_
              refine lv_if_eq (tgt := 204) S.x S.b d_Mpg_declareArray_190 (by decide) (fun c46 => ?_) (fun c46 => ?_)
              · have nc46 : p1.toInt = (0 : Int) := (i_eq (x := p1) (y := 0)).mp c46
                refine lv_aload_n S.x S.b d_Mpg_declareArray_204 rfl (lv_at hl 0 rfl) ?_
                refine px_get S k_Mpg hT hw 0 0 58 (v := .int 0) rfl rfl rfl (by decide) m10_55 d_Mpg_declareArray_205 ?_
                exact px_iret (v := 0) S hr rfl hlk hAe hw (Nat.le_of_ble_eq_true rfl) (Nat.le_of_ble_eq_true rfl) (⟨ma_73, (upd cf20 58 0), rfl, (show (cf20 30).toInt = 0 → (cf 30).toInt = 0 from by first | with_reducible rfl | with_reducible assumption | omega), (show WrV (upd cf20 58 0) (tf 6).toInt from (WrV.u hwr (by decide) (by decide))), (show (cf20 33).toInt = (cf 33).toInt from by first | exact oz_1687f4cc65 k73_2 e26 | omega), (show (cf20 37).toInt = (cf 37).toInt from by first | exact oz_1687f4cc65 k73_3 e32 | omega), (show (cf20 38).toInt = (cf 38).toInt from by first | exact oz_1687f4cc65 k73_4 e27 | omega), (show (cf20 41).toInt = (cf 41).toInt from by first | exact oz_1687f4cc65 k73_5 e41 | omega), (show (cf20 42).toInt = (cf 42).toInt from by first | exact oz_1687f4cc65 k73_6 e33 | omega), (show (cf20 43).toInt = (cf 43).toInt from by first | exact oz_1687f4cc65 k73_7 e34 | omega), (show (cf20 44).toInt = (cf 44).toInt from by first | exact oz_1687f4cc65 k73_8 e35 | omega), (show (cf20 45).toInt = (cf 45).toInt from by first | exact oz_1687f4cc65 k73_9 e36 | omega), (show (cf20 46).toInt = (cf 46).toInt from by first | exact oz_1687f4cc65 k73_10 e29 | omega), (show (cf20 47).toInt = (cf 47).toInt from by first | exact oz_1687f4cc65 k73_11 e30 | omega), (show (cf20 48).toInt = (cf 48).toInt from by first | exact oz_1687f4cc65 k73_12 e28 | omega), (show (cf20 54).toInt = (cf 54).toInt from by first | exact oz_1687f4cc65 k73_13 e37 | omega), (show (cf20 55).toInt = (cf 55).toInt from by first | exact oz_1687f4cc65 k73_14 e38 | omega), (show (cf20 59).toInt = (cf 59).toInt from by first | exact oz_1687f4cc65 k73_15 e40 | omega), (show Ann na ma0 ma_73 from han), (show FrC lo hi ma ma_73 from hfc), (show 0 ≤ (0 : Int) from by first | decide | omega), (show (0 : Int) ≤ 4096 from by first | decide | omega), (show 0 ≤ (0 : Int) from by first | decide | omega), (show (0 : Int) ≤ 4096 from by first | decide | omega), (show (0 : Int) ≤ 4 * (0 : Int) from by first | decide | omega), (show ZAv (upd cf20 58 0) ta na ma_73 p0 (0 : Int) from (zr_no (by first | omega | (show 1 ≤ _; rw [pk_un (by decide)]; omega))))⟩) d_Mpg_declareArray_208
              · have nc46 : ¬ p1.toInt = (0 : Int) := mt (i_eq (x := p1) (y := 0)).mpr c46
                refine lv_aload_n S.x S.b d_Mpg_declareArray_193 rfl (lv_at hl 0 rfl) ?_
                refine px_get S k_Mpg hT hw 0 0 58 (v := .int 0) rfl rfl rfl (by decide) m10_55 d_Mpg_declareArray_194 ?_
                refine lv_iconst (v := 3) S.x S.b d_Mpg_declareArray_197 (by decide) ?_
                refine lv_iadd S.x S.b d_Mpg_declareArray_198 ?_
                refine lv_topi (fun z47 ez47 => ?_)
                have tz47 : z47.toInt = ((0 : Int) + (3 : Int) + 2147483648) % 4294967296 - 2147483648 := by rw [ez47]; exact i_add 0 3
                have lz47 := Int32.le_toInt z47
                have uz47 := Int32.toInt_lt z47
                try replace tz47 : z47.toInt = (0 : Int) + (3 : Int) := by omega
                refine lv_iconst (v := 4) S.x S.b d_Mpg_declareArray_199 (by decide) ?_
                refine lv_idiv S.x S.b d_Mpg_declareArray_200 (fun hz0 => by have hz1 := i_eq.mp hz0; omega) ?_
                refine lv_topi (fun z48 ez48 => ?_)
                have lz48 := Int32.le_toInt z48
                have uz48 := Int32.toInt_lt z48
                have hd4 := i_div4 ez48 (by first | with_reducible rfl | with_reducible assumption | omega)
                refine lv_goto (tgt := 208) S.x S.b d_Mpg_declareArray_201 (by decide) ?_
                exact px_iret (v := z48) S hr rfl hlk hAe hw (Nat.le_of_ble_eq_true rfl) (Nat.le_of_ble_eq_true rfl) (⟨ma_73, (upd cf20 58 0), rfl, (show (cf20 30).toInt = 0 → (cf 30).toInt = 0 from by first | with_reducible rfl | with_reducible assumption | omega), (show WrV (upd cf20 58 0) (tf 6).toInt from (WrV.u hwr (by decide) (by decide))), (show (cf20 33).toInt = (cf 33).toInt from by first | exact oz_1687f4cc65 k73_2 e26 | omega), (show (cf20 37).toInt = (cf 37).toInt from by first | exact oz_1687f4cc65 k73_3 e32 | omega), (show (cf20 38).toInt = (cf 38).toInt from by first | exact oz_1687f4cc65 k73_4 e27 | omega), (show (cf20 41).toInt = (cf 41).toInt from by first | exact oz_1687f4cc65 k73_5 e41 | omega), (show (cf20 42).toInt = (cf 42).toInt from by first | exact oz_1687f4cc65 k73_6 e33 | omega), (show (cf20 43).toInt = (cf 43).toInt from by first | exact oz_1687f4cc65 k73_7 e34 | omega), (show (cf20 44).toInt = (cf 44).toInt from by first | exact oz_1687f4cc65 k73_8 e35 | omega), (show (cf20 45).toInt = (cf 45).toInt from by first | exact oz_1687f4cc65 k73_9 e36 | omega), (show (cf20 46).toInt = (cf 46).toInt from by first | exact oz_1687f4cc65 k73_10 e29 | omega), (show (cf20 47).toInt = (cf 47).toInt from by first | exact oz_1687f4cc65 k73_11 e30 | omega), (show (cf20 48).toInt = (cf 48).toInt from by first | exact oz_1687f4cc65 k73_12 e28 | omega), (show (cf20 54).toInt = (cf 54).toInt from by first | exact oz_1687f4cc65 k73_13 e37 | omega), (show (cf20 55).toInt = (cf 55).toInt from by first | exact oz_1687f4cc65 k73_14 e38 | omega), (show (cf20 59).toInt = (cf 59).toInt from by first | exact oz_1687f4cc65 k73_15 e40 | omega), (show Ann na ma0 ma_73 from han), (show FrC lo hi ma ma_73 from hfc), (show 0 ≤ (0 : Int) from by first | decide | omega), (show (0 : Int) ≤ 4096 from by first | decide | omega), (show 0 ≤ z48.toInt from by first | with_reducible rfl | with_reducible assumption | omega), (show z48.toInt ≤ 4096 from by first | with_reducible rfl | with_reducible assumption | omega), (show (0 : Int) ≤ 4 * z48.toInt from by first | with_reducible rfl | with_reducible assumption | omega), (show ZAv (upd cf20 58 0) ta na ma_73 p0 (0 : Int) from (zr_no (by first | omega | (show 1 ≤ _; rw [pk_un (by decide)]; omega))))⟩) d_Mpg_declareArray_208
      · have nc1 : ¬ x73_5.toInt < (0 : Int) := mt (i_lt (x := x73_5) (y := 0)).mpr c1
        refine lv_aload_n S.x S.b d_Mpg_declareArray_78 rfl (lv_at hl 0 rfl) ?_
        obtain ⟨md49, wv50, hm1_md49, hm2_md49, hm3_md49, hev_x73_5, hx3_md49, hrv2⟩ := RvE.step hrv (by first | with_reducible rfl | with_reducible assumption | omega); obtain ⟨hec_x73_5, h20_x73_5, hw_x73_5⟩ := hev_x73_5.ec
        refine lv_iload S.x S.b d_Mpg_declareArray_79 (lv_at hl 5 rfl) ?_
        refine px_calli (pr := []) (px_runV (As := [.int x73_5]) (rest := []) S (c_mp_checkConstant l D cs ma0 ys (cf_73 48).toInt nf (cf_73 33).toInt d mid_73 md49 h r g tf ta pf na wa ca ef ea xf xa ma_73 cf_73 x73_5  (show 0 ≤ mid_73 from by first | exact oz_8df2b9da5a k73_23 hm1 hvr.2.2.1 | omega) (show md49 ≤ (pf 13).toInt from by first | exact oz_bbb5b20c1a g1 hm2_md49 | omega) (show (pf 13).toInt ≤ 2100 from by first | exact g2 | omega) (show (tf 6).toInt ≤ 2049 from by first | exact g3 | omega) (show (cf_73 33).toInt = (cf_73 33).toInt from rfl) (show 0 ≤ (cf_73 33).toInt from by first | exact oz_f3ebed1ad0 k73_2 g4 | omega) (show (cf_73 48).toInt = (cf_73 48).toInt from rfl) (show (cf_73 38).toInt = nf from by first | exact oz_1687f4cc65 g9 k73_4 | omega) (show 0 ≤ nf from by first | exact g10 | omega) (show 0 ≤ (cf_73 46).toInt from by first | exact oz_f3ebed1ad0 k73_10 g19 | omega) (show (cf_73 46).toInt ≤ 1 from by first | exact oz_878017becc k73_10 g20 | omega) (show 0 ≤ (cf_73 47).toInt from by first | exact oz_f3ebed1ad0 k73_11 g21 | omega) (show (cf_73 47).toInt ≤ 1 from by first | exact oz_878017becc k73_11 g22 | omega) htk (FsI.le (N' := (pf 13).toInt) hfs (by first | with_reducible rfl | with_reducible assumption | omega)) hwr (KnT.eq hkt (by first | with_reducible rfl | with_reducible assumption | omega)) (FnT.eq hft (by first | with_reducible rfl | with_reducible assumption | omega)) (KnS.eq hks (by first | with_reducible rfl | with_reducible assumption | omega) (by first | with_reducible rfl | with_reducible assumption | omega)) hfp han hec_x73_5 (by first | assumption | omega) _) hT (pr := []) (pcs := [wdP cs h r g tf ta pf na ma_73 wa cf_73 ca ef ea xf xa]) hw (oX_call (P := (fun A U H => (oP A g U H))) (pr := []) oG_P hw hA hP) (px_recv hT hw 0 0 rfl rfl rfl) m12_237 m12_234 m12_236 ms_12_12 m1_21 q_Mpg_checkConstant ⟨show (4 * d + 18) + 1 ≤ (4 * d + 20) from by first | with_reducible rfl | with_reducible assumption | omega, show 8 + (5 + 11) + (200 * d + 640) ≤ (200 * d + 700) from by first | with_reducible rfl | with_reducible assumption | omega⟩ hl.1 rfl (Nat.le_of_ble_eq_true rfl) d_Mpg_declareArray_81 ⟨Nat.le_of_ble_eq_true rfl, Nat.le_of_ble_eq_true rfl⟩) hw hA (fun v56 p55 H locs hp55 hw => ?_)
        obtain ⟨ma53, cf54, rfl, e57, e58, e59, e60, e61, e62, e63, e64, e65, e66, e67⟩ := hp55
        have e57 : KpE cf_73 cf54 := e57
        have hkz_e57 := e57.2
        have hkk37_e57 : (cf54 37).toInt = (cf_73 37).toInt := (by rw [e57.1 37 (by decide) (by decide) (by decide) (by decide) (by decide)] <;> rfl)
        have hkk43_e57 : (cf54 43).toInt = (cf_73 43).toInt := (by rw [e57.1 43 (by decide) (by decide) (by decide) (by decide) (by decide)] <;> rfl)
        have hkk44_e57 : (cf54 44).toInt = (cf_73 44).toInt := (by rw [e57.1 44 (by decide) (by decide) (by decide) (by decide) (by decide)] <;> rfl)
        have hkk45_e57 : (cf54 45).toInt = (cf_73 45).toInt := (by rw [e57.1 45 (by decide) (by decide) (by decide) (by decide) (by decide)] <;> rfl)
        have hkk41_e57 : (cf54 41).toInt = (cf_73 41).toInt := (by rw [e57.1 41 (by decide) (by decide) (by decide) (by decide) (by decide)] <;> rfl)
        have hkk55_e57 : (cf54 55).toInt = (cf_73 55).toInt := (by rw [e57.1 55 (by decide) (by decide) (by decide) (by decide) (by decide)] <;> rfl)
        have hkk59_e57 : (cf54 59).toInt = (cf_73 59).toInt := (by rw [e57.1 59 (by decide) (by decide) (by decide) (by decide) (by decide)] <;> rfl)
        have hkk42_e57 : (cf54 42).toInt = (cf_73 42).toInt := (by rw [e57.1 42 (by decide) (by decide) (by decide) (by decide) (by decide)] <;> rfl)
        have hkk54_e57 : (cf54 54).toInt = (cf_73 54).toInt := (by rw [e57.1 54 (by decide) (by decide) (by decide) (by decide) (by decide)] <;> rfl)
        have hkk58_e57 : (cf54 58).toInt = (cf_73 58).toInt := (by rw [e57.1 58 (by decide) (by decide) (by decide) (by decide) (by decide)] <;> rfl)
        have e58 : WrV cf54 (tf 6).toInt := e58
        have hwr := e58
        have hw0_e58 := hwr.1
        have e59 : (cf54 33).toInt = (cf_73 33).toInt := e59
        have e60 : (cf54 38).toInt = (cf_73 38).toInt := e60
        have e61 : (cf54 48).toInt = (cf_73 48).toInt := e61
        have e62 : (cf54 46).toInt = (cf_73 46).toInt := e62
        have e63 : (cf54 47).toInt = (cf_73 47).toInt := e63
        have e64 : Ann na ma0 ma53 := e64
        have han := e64
        have e65 : FrC mid_73 md49 ma_73 ma53 := e65
        have hfc := hfc.tr e65 (by first | with_reducible rfl | with_reducible assumption | omega) (by first | with_reducible rfl | with_reducible assumption | omega)
        have e66 := z_rng e66
        have e67 : v56.toInt = 0 → 1 ≤ (cf54 30).toInt := e67
        have hw : pw D A s.heap H locs [wdP cs h r g tf ta pf na ma53 wa cf54 ca ef ea xf xa] := hw
        have lv56 := Int32.le_toInt v56
        have uv56 := Int32.toInt_lt v56
        refine lv_pop S.x S.b d_Mpg_declareArray_84 rfl ?_
        obtain ⟨z68, ez68⟩ : ∃ y : Int32, y = x73_4 + 1 := ⟨_, rfl⟩
        have tz68 : z68.toInt = (x73_4.toInt + 1 + 2147483648) % 4294967296 - 2147483648 := by rw [ez68]; exact i_add x73_4 1
        have lz68 := Int32.le_toInt z68
        have uz68 := Int32.toInt_lt z68
        try replace tz68 : z68.toInt = x73_4.toInt + 1 := by omega
        refine lv_iinc (v := z68) (lv' := [(4, .int z68), (0, .ref h), (1, .int p0), (2, .int p1), (3, .int x73_3), (5, .int x73_5)]) S.x S.b d_Mpg_declareArray_85 hl (k := 4) rfl (by rw [ez68]; rfl) (by decide) rfl (fun ls hl => ?_)
        refine lv_aload_n S.x S.b d_Mpg_declareArray_88 rfl (lv_at hl 1 rfl) ?_
        refine px_get S k_Mpg hT hw 0 0 21 (v := .ref (r 21)) rfl rfl rfl (by decide) m10_7 d_Mpg_declareArray_89 ?_
        refine lv_iload S.x S.b d_Mpg_declareArray_92 (lv_at hl 5 rfl) ?_
        refine px_iald S hT hw 0 17 (n := 2100) (f := (na 21)) rfl gp_21 (x := x73_5) (vp_in_iff.mpr (by constructor <;> omega)) d_Mpg_declareArray_94 ?_
        refine lv_topi (fun z69 ez69 => ?_)
        have lz69 := Int32.le_toInt z69
        have uz69 := Int32.toInt_lt z69
        refine lv_istore (lv' := [(5, .int z69), (4, .int z68), (0, .ref h), (1, .int p0), (2, .int p1), (3, .int x73_3)]) S.x S.b d_Mpg_declareArray_95 hl (by decide) rfl (fun ls hl => ?_)
        refine lv_goto (tgt := 73) S.x S.b d_Mpg_declareArray_97 (by decide) ?_
        exact ih73 ma53 cf54 md49 (wr_73 - wv50) x73_3 z68 z69 _ _ ls (show (cf54 30).toInt = 0 → (cf 30).toInt = 0 from by first | with_reducible rfl | with_reducible assumption | omega) (show WrV cf54 (tf 6).toInt from hwr) (show (cf54 33).toInt = (cf 33).toInt from by first | exact oz_1687f4cc65 k73_2 e59 | omega) (show (cf54 37).toInt = (cf 37).toInt from by first | exact oz_1687f4cc65 k73_3 hkk37_e57 | omega) (show (cf54 38).toInt = (cf 38).toInt from by first | exact oz_1687f4cc65 k73_4 e60 | omega) (show (cf54 41).toInt = (cf 41).toInt from by first | exact oz_1687f4cc65 k73_5 hkk41_e57 | omega) (show (cf54 42).toInt = (cf 42).toInt from by first | exact oz_1687f4cc65 k73_6 hkk42_e57 | omega) (show (cf54 43).toInt = (cf 43).toInt from by first | exact oz_1687f4cc65 k73_7 hkk43_e57 | omega) (show (cf54 44).toInt = (cf 44).toInt from by first | exact oz_1687f4cc65 k73_8 hkk44_e57 | omega) (show (cf54 45).toInt = (cf 45).toInt from by first | exact oz_1687f4cc65 k73_9 hkk45_e57 | omega) (show (cf54 46).toInt = (cf 46).toInt from by first | exact oz_1687f4cc65 k73_10 e62 | omega) (show (cf54 47).toInt = (cf 47).toInt from by first | exact oz_1687f4cc65 k73_11 e63 | omega) (show (cf54 48).toInt = (cf 48).toInt from by first | exact oz_1687f4cc65 k73_12 e61 | omega) (show (cf54 54).toInt = (cf 54).toInt from by first | exact oz_1687f4cc65 k73_13 hkk54_e57 | omega) (show (cf54 55).toInt = (cf 55).toInt from by first | exact oz_1687f4cc65 k73_14 hkk55_e57 | omega) (show (cf54 59).toInt = (cf 59).toInt from by first | exact oz_1687f4cc65 k73_15 hkk59_e57 | omega) (show Ann na ma0 ma53 from han) (show FrC lo hi ma ma53 from hfc) (show -1 ≤ x73_3.toInt from by first | exact k73_18 | omega) (show x73_3.toInt ≤ 4096 from by first | exact k73_19 | omega) (show x73_3.toInt = -1 → 1 ≤ (cf54 30).toInt from by first | with_reducible rfl | with_reducible assumption | omega) (show 0 ≤ z68.toInt from by first | exact oz_ae613611c0 tz68 k73_21 | omega) (show z68.toInt + m1 ≤ md49 from by first | with_reducible rfl | with_reducible assumption | omega) (show m1 ≤ md49 from by first | with_reducible rfl | with_reducible assumption | omega) (show md49 ≤ hi from by first | exact hm2_md49 | omega) (show (ma0 22 p0.toNatClampNeg).toInt = 2 from by first | exact k73_25 | omega) (show RvI ta (tf 6).toInt na ma0 d md49 hi (wr_73 - wv50) z69 from (by rw [ez69]; exact hrv2)) (show RlC na (ma0 18 p0.toNatClampNeg) z69 z68.toInt from (RlC.nx hrl (by first | with_reducible rfl | with_reducible assumption | omega) (by first | with_reducible rfl | with_reducible assumption | omega) ez69 (by first | with_reducible rfl | with_reducible assumption | omega))) (show hi - md49 < (n_73 : Int) from by first | with_reducible rfl | with_reducible assumption | omega) hw (lv_sub hl [2, 3, 4, 5, 1, 0] rfl)
  refine lv_iconst (v := (-1)) S.x S.b d_Mpg_declareArray_0 (by decide) ?_
  refine lv_istore_n (lv' := [(3, .int (-1)), (0, .ref h), (1, .int p0), (2, .int p1)]) S.x S.b d_Mpg_declareArray_1 rfl hl (by decide) rfl (fun ls hl => ?_)
  refine lv_aload_n S.x S.b d_Mpg_declareArray_2 rfl (lv_at hl 1 rfl) ?_
  refine lv_aload_n S.x S.b d_Mpg_declareArray_3 rfl (lv_at hl 1 rfl) ?_
  refine px_get S k_Mpg hT hw 0 0 17 (v := .ref (r 17)) rfl rfl rfl (by decide) m10_1 d_Mpg_declareArray_4 ?_
  refine lv_iload_n S.x S.b d_Mpg_declareArray_7 rfl (lv_at hl 2 rfl) ?_
  refine px_iald S hT hw 0 13 (n := 2100) (f := (na 17)) rfl gp_17 (x := p0) (vp_in_iff.mpr (by first | exact oz_a7e05de1cd hvr.2.2.1 hvr.2.1 g1 g2 | (constructor <;> omega))) d_Mpg_declareArray_8 ?_
  refine lv_topi (fun z70 ez70 => ?_)
  have lz70 := Int32.le_toInt z70
  have uz70 := Int32.toInt_lt z70
  have rz70 : z70.toInt = (na 17 p0.toNatClampNeg).toInt := by rw [ez70]
  have hec_z70 : EcV ta (tf 6).toInt na ma0 d (p0.toInt + 1) m1 z70 := (by rw [ez70]; exact hec_a); have h20_z70 : (ma0 20 z70.toNatClampNeg).toInt < 0 := (by rw [ez70]; exact h20_a)
  refine px_calli (pr := []) (px_runV (As := [.int z70]) (rest := []) S (c_mp_checkConstant l D cs ma0 ys (cf 48).toInt nf (cf 33).toInt d (p0.toInt + 1) m1 h r g tf ta pf na wa ca ef ea xf xa ma cf z70  (show 0 ≤ (p0.toInt + 1) from by first | exact oz_c12c169b81 hvr.2.2.1 | omega) (show m1 ≤ (pf 13).toInt from by first | exact oz_bbb5b20c1a g1 hm2 | omega) (show (pf 13).toInt ≤ 2100 from by first | exact g2 | omega) (show (tf 6).toInt ≤ 2049 from by first | exact g3 | omega) (show (cf 33).toInt = (cf 33).toInt from rfl) (show 0 ≤ (cf 33).toInt from by first | exact g4 | omega) (show (cf 48).toInt = (cf 48).toInt from rfl) (show (cf 38).toInt = nf from by first | exact g9 | omega) (show 0 ≤ nf from by first | exact g10 | omega) (show 0 ≤ (cf 46).toInt from by first | exact g19 | omega) (show (cf 46).toInt ≤ 1 from by first | exact g20 | omega) (show 0 ≤ (cf 47).toInt from by first | exact g21 | omega) (show (cf 47).toInt ≤ 1 from by first | exact g22 | omega) htk (FsI.le (N' := (pf 13).toInt) hfs (by first | with_reducible rfl | with_reducible assumption | omega)) hwr (KnT.eq hkt (by first | with_reducible rfl | with_reducible assumption | omega)) (FnT.eq hft (by first | with_reducible rfl | with_reducible assumption | omega)) (KnS.eq hks (by first | with_reducible rfl | with_reducible assumption | omega) (by first | with_reducible rfl | with_reducible assumption | omega)) hfp han hec_z70 (by first | assumption | omega) _) hT (pr := []) (pcs := [wdP cs h r g tf ta pf na ma wa cf ca ef ea xf xa]) hw (oX_call (P := (fun A U H => (oP A g U H))) (pr := []) oG_P hw hA hP) (px_recv hT hw 0 0 rfl rfl rfl) m12_237 m12_234 m12_236 ms_12_12 m1_21 q_Mpg_checkConstant ⟨show (4 * d + 18) + 1 ≤ (4 * d + 20) from by first | with_reducible rfl | with_reducible assumption | omega, show 8 + (5 + 11) + (200 * d + 640) ≤ (200 * d + 700) from by first | with_reducible rfl | with_reducible assumption | omega⟩ hl.1 rfl (Nat.le_of_ble_eq_true rfl) d_Mpg_declareArray_9 ⟨Nat.le_of_ble_eq_true rfl, Nat.le_of_ble_eq_true rfl⟩) hw hA (fun v76 p75 H locs hp75 hw => ?_)
  obtain ⟨ma73, cf74, rfl, e77, e78, e79, e80, e81, e82, e83, e84, e85, e86, e87⟩ := hp75
  have e77 : KpE cf cf74 := e77
  have hkz_e77 := e77.2
  have hkk37_e77 : (cf74 37).toInt = (cf 37).toInt := (by rw [e77.1 37 (by decide) (by decide) (by decide) (by decide) (by decide)] <;> rfl)
  have hkk43_e77 : (cf74 43).toInt = (cf 43).toInt := (by rw [e77.1 43 (by decide) (by decide) (by decide) (by decide) (by decide)] <;> rfl)
  have hkk44_e77 : (cf74 44).toInt = (cf 44).toInt := (by rw [e77.1 44 (by decide) (by decide) (by decide) (by decide) (by decide)] <;> rfl)
  have hkk45_e77 : (cf74 45).toInt = (cf 45).toInt := (by rw [e77.1 45 (by decide) (by decide) (by decide) (by decide) (by decide)] <;> rfl)
  have hkk41_e77 : (cf74 41).toInt = (cf 41).toInt := (by rw [e77.1 41 (by decide) (by decide) (by decide) (by decide) (by decide)] <;> rfl)
  have hkk55_e77 : (cf74 55).toInt = (cf 55).toInt := (by rw [e77.1 55 (by decide) (by decide) (by decide) (by decide) (by decide)] <;> rfl)
  have hkk59_e77 : (cf74 59).toInt = (cf 59).toInt := (by rw [e77.1 59 (by decide) (by decide) (by decide) (by decide) (by decide)] <;> rfl)
  have hkk42_e77 : (cf74 42).toInt = (cf 42).toInt := (by rw [e77.1 42 (by decide) (by decide) (by decide) (by decide) (by decide)] <;> rfl)
  have hkk54_e77 : (cf74 54).toInt = (cf 54).toInt := (by rw [e77.1 54 (by decide) (by decide) (by decide) (by decide) (by decide)] <;> rfl)
  have hkk58_e77 : (cf74 58).toInt = (cf 58).toInt := (by rw [e77.1 58 (by decide) (by decide) (by decide) (by decide) (by decide)] <;> rfl)
  have e78 : WrV cf74 (tf 6).toInt := e78
  have hwr := e78
  have hw0_e78 := hwr.1
  have e79 : (cf74 33).toInt = (cf 33).toInt := e79
  have e80 : (cf74 38).toInt = (cf 38).toInt := e80
  have e81 : (cf74 48).toInt = (cf 48).toInt := e81
  have e82 : (cf74 46).toInt = (cf 46).toInt := e82
  have e83 : (cf74 47).toInt = (cf 47).toInt := e83
  have e84 : Ann na ma0 ma73 := e84
  have han := e84
  have e85 : FrC (p0.toInt + 1) m1 ma ma73 := e85
  have hfc := hfc.tr e85 (by first | with_reducible rfl | with_reducible assumption | omega) (by first | with_reducible rfl | with_reducible assumption | omega)
  have e86 := z_rng e86
  have e87 : v76.toInt = 0 → 1 ≤ (cf74 30).toInt := e87
  have hw : pw D A s.heap H locs [wdP cs h r g tf ta pf na ma73 wa cf74 ca ef ea xf xa] := hw
  have lv76 := Int32.le_toInt v76
  have uv76 := Int32.toInt_lt v76
  refine lv_if_eq (tgt := 52) S.x S.b d_Mpg_declareArray_12 (by decide) (fun c88 => ?_) (fun c88 => ?_)
  · have nc88 : v76.toInt = (0 : Int) := (i_eq (x := v76) (y := 0)).mp c88
    refine lv_aload_n S.x S.b d_Mpg_declareArray_52 rfl (lv_at hl 1 rfl) ?_
    refine px_get S k_Mpg hT hw 0 0 22 (v := .ref (r 22)) rfl rfl rfl (by decide) m10_9 d_Mpg_declareArray_53 ?_
    refine lv_iload_n S.x S.b d_Mpg_declareArray_56 rfl (lv_at hl 2 rfl) ?_
    refine px_iald S hT hw 0 18 (n := 2100) (f := (ma73 22)) rfl gp_22 (x := p0) (vp_in_iff.mpr (by first | exact oz_a7e05de1cd hvr.2.2.1 hvr.2.1 g1 g2 | (constructor <;> omega))) d_Mpg_declareArray_57 ?_
    refine lv_topi (fun z89 ez89 => ?_)
    have lz89 := Int32.le_toInt z89
    have uz89 := Int32.toInt_lt z89
    have rz89 : z89.toInt = (ma0 22 p0.toNatClampNeg).toInt := (by rw [ez89, Ann.v22 han (by first | with_reducible rfl | with_reducible assumption | omega)])
    refine lv_iconst (v := 2) S.x S.b d_Mpg_declareArray_58 (by decide) ?_
    refine lv_icmp_ne (tgt := 125) S.x S.b d_Mpg_declareArray_59 (by decide) (fun c90 => ?_) (fun c90 => ?_)
    · have nc90 : ¬ z89.toInt = (2 : Int) := mt (i_eq (x := z89) (y := 2)).mpr c90
      refine lv_aload_n S.x S.b d_Mpg_declareArray_125 rfl (lv_at hl 1 rfl) ?_
      refine px_get S k_Mpg hT hw 0 0 22 (v := .ref (r 22)) rfl rfl rfl (by decide) m10_9 d_Mpg_declareArray_126 ?_
      refine lv_iload_n S.x S.b d_Mpg_declareArray_129 rfl (lv_at hl 2 rfl) ?_
      refine px_iald S hT hw 0 18 (n := 2100) (f := (ma73 22)) rfl gp_22 (x := p0) (vp_in_iff.mpr (by first | exact oz_a7e05de1cd hvr.2.2.1 hvr.2.1 g1 g2 | (constructor <;> omega))) d_Mpg_declareArray_130 ?_
      refine lv_topi (fun z91 ez91 => ?_)
      have lz91 := Int32.le_toInt z91
      have uz91 := Int32.toInt_lt z91
      have rz91 : z91.toInt = (ma0 22 p0.toNatClampNeg).toInt := (by rw [ez91, Ann.v22 han (by first | with_reducible rfl | with_reducible assumption | omega)])
      refine lv_iconst (v := 3) S.x S.b d_Mpg_declareArray_131 (by decide) ?_
      refine lv_icmp_ne (tgt := 176) S.x S.b d_Mpg_declareArray_132 (by decide) (fun c92 => ?_) (fun c92 => ?_)
      · have nc92 : ¬ z91.toInt = (3 : Int) := mt (i_eq (x := z91) (y := 3)).mpr c92
        refine lv_aload_n S.x S.b d_Mpg_declareArray_176 rfl (lv_at hl 1 rfl) ?_
        refine lv_iload_n S.x S.b d_Mpg_declareArray_177 rfl (lv_at hl 0 rfl) ?_
        refine lv_if_ge (tgt := 185) S.x S.b d_Mpg_declareArray_178 (by decide) (fun c93 => ?_) (fun c93 => ?_)
        · exact absurd c93 (by decide)
        ·
          refine lv_iconst (v := 0) S.x S.b d_Mpg_declareArray_181 (by decide) ?_
          refine lv_goto (tgt := 186) S.x S.b d_Mpg_declareArray_182 (by decide) ?_
          refine px_put S k_Mpg hT hw 0 0 58 rfl rfl (by decide) m10_55 rfl rfl rfl (Nat.le_of_ble_eq_true rfl) d_Mpg_declareArray_186 (w' := wdP cs h r g tf ta pf na ma73 wa (upd cf74 58 0) ca ef ea xf xa) (ps' := [wdP cs h r g tf ta pf na ma73 wa (upd cf74 58 0) ca ef ea xf xa]) rfl rfl (fun H locs hw => ?_)
          refine lv_iload_n S.x S.b d_Mpg_declareArray_189 rfl (lv_at hl 3 rfl) ?_
          refine lv_if_eq (tgt := 204) S.x S.b d_Mpg_declareArray_190 (by decide) (fun c94 => ?_) (fun c94 => ?_)
          · have nc94 : p1.toInt = (0 : Int) := (i_eq (x := p1) (y := 0)).mp c94
            refine lv_aload_n S.x S.b d_Mpg_declareArray_204 rfl (lv_at hl 1 rfl) ?_
            refine px_get S k_Mpg hT hw 0 0 58 (v := .int 0) rfl rfl rfl (by decide) m10_55 d_Mpg_declareArray_205 ?_
            exact px_iret (v := 0) S hr rfl hlk hAe hw (Nat.le_of_ble_eq_true rfl) (Nat.le_of_ble_eq_true rfl) (⟨ma73, (upd cf74 58 0), rfl, (show (cf74 30).toInt = 0 → (cf 30).toInt = 0 from by first | exact hkz_e77 | omega), (show WrV (upd cf74 58 0) (tf 6).toInt from (WrV.u hwr (by decide) (by decide))), (show (cf74 33).toInt = (cf 33).toInt from by first | exact e79 | omega), (show (cf74 37).toInt = (cf 37).toInt from by first | exact hkk37_e77 | omega), (show (cf74 38).toInt = (cf 38).toInt from by first | exact e80 | omega), (show (cf74 41).toInt = (cf 41).toInt from by first | exact hkk41_e77 | omega), (show (cf74 42).toInt = (cf 42).toInt from by first | exact hkk42_e77 | omega), (show (cf74 43).toInt = (cf 43).toInt from by first | exact hkk43_e77 | omega), (show (cf74 44).toInt = (cf 44).toInt from by first | exact hkk44_e77 | omega), (show (cf74 45).toInt = (cf 45).toInt from by first | exact hkk45_e77 | omega), (show (cf74 46).toInt = (cf 46).toInt from by first | exact e82 | omega), (show (cf74 47).toInt = (cf 47).toInt from by first | exact e83 | omega), (show (cf74 48).toInt = (cf 48).toInt from by first | exact e81 | omega), (show (cf74 54).toInt = (cf 54).toInt from by first | exact hkk54_e77 | omega), (show (cf74 55).toInt = (cf 55).toInt from by first | exact hkk55_e77 | omega), (show (cf74 59).toInt = (cf 59).toInt from by first | exact hkk59_e77 | omega), (show Ann na ma0 ma73 from han), (show FrC lo hi ma ma73 from hfc), (show 0 ≤ (0 : Int) from by first | decide | omega), (show (0 : Int) ≤ 4096 from by first | decide | omega), (show 0 ≤ (0 : Int) from by first | decide | omega), (show (0 : Int) ≤ 4096 from by first | decide | omega), (show (0 : Int) ≤ 4 * (0 : Int) from by first | decide | omega), (show ZAv (upd cf74 58 0) ta na ma73 p0 (0 : Int) from (ZAvF (by first | exact zr_no (by first | with_reducible rfl | with_reducible assumption | omega) | exact zav_0 han (by first | with_reducible rfl | with_reducible assumption | omega) (by have hav0 := hav.k0; omega) | exact zav_2 han (by first | with_reducible rfl | with_reducible assumption | omega) (by first | with_reducible rfl | with_reducible assumption | omega) hrl (by first | with_reducible rfl | with_reducible assumption | omega) (by first | with_reducible rfl | with_reducible assumption | omega) (by first | with_reducible rfl | with_reducible assumption | omega) | exact zav_3 han (by first | with_reducible rfl | with_reducible assumption | omega) (by first | with_reducible rfl | with_reducible assumption | omega) ha_zz (by first | with_reducible rfl | with_reducible assumption | omega))))⟩) d_Mpg_declareArray_208
          · have nc94 : ¬ p1.toInt = (0 : Int) := mt (i_eq (x := p1) (y := 0)).mpr c94
            refine lv_aload_n S.x S.b d_Mpg_declareArray_193 rfl (lv_at hl 1 rfl) ?_
            refine px_get S k_Mpg hT hw 0 0 58 (v := .int 0) rfl rfl rfl (by decide) m10_55 d_Mpg_declareArray_194 ?_
            refine lv_iconst (v := 3) S.x S.b d_Mpg_declareArray_197 (by decide) ?_
            refine lv_iadd S.x S.b d_Mpg_declareArray_198 ?_
            refine lv_topi (fun z95 ez95 => ?_)
            have tz95 : z95.toInt = ((0 : Int) + (3 : Int) + 2147483648) % 4294967296 - 2147483648 := by rw [ez95]; exact i_add 0 3
            have lz95 := Int32.le_toInt z95
            have uz95 := Int32.toInt_lt z95
            try replace tz95 : z95.toInt = (0 : Int) + (3 : Int) := by omega
            refine lv_iconst (v := 4) S.x S.b d_Mpg_declareArray_199 (by decide) ?_
            refine lv_idiv S.x S.b d_Mpg_declareArray_200 (fun hz0 => by have hz1 := i_eq.mp hz0; omega) ?_
            refine lv_topi (fun z96 ez96 => ?_)
            have lz96 := Int32.le_toInt z96
            have uz96 := Int32.toInt_lt z96
            have hd4 := i_div4 ez96 (by first | with_reducible rfl | with_reducible assumption | omega)
            refine lv_goto (tgt := 208) S.x S.b d_Mpg_declareArray_201 (by decide) ?_
            exact px_iret (v := z96) S hr rfl hlk hAe hw (Nat.le_of_ble_eq_true rfl) (Nat.le_of_ble_eq_true rfl) (⟨ma73, (upd cf74 58 0), rfl, (show (cf74 30).toInt = 0 → (cf 30).toInt = 0 from by first | exact hkz_e77 | omega), (show WrV (upd cf74 58 0) (tf 6).toInt from (WrV.u hwr (by decide) (by decide))), (show (cf74 33).toInt = (cf 33).toInt from by first | exact e79 | omega), (show (cf74 37).toInt = (cf 37).toInt from by first | exact hkk37_e77 | omega), (show (cf74 38).toInt = (cf 38).toInt from by first | exact e80 | omega), (show (cf74 41).toInt = (cf 41).toInt from by first | exact hkk41_e77 | omega), (show (cf74 42).toInt = (cf 42).toInt from by first | exact hkk42_e77 | omega), (show (cf74 43).toInt = (cf 43).toInt from by first | exact hkk43_e77 | omega), (show (cf74 44).toInt = (cf 44).toInt from by first | exact hkk44_e77 | omega), (show (cf74 45).toInt = (cf 45).toInt from by first | exact hkk45_e77 | omega), (show (cf74 46).toInt = (cf 46).toInt from by first | exact e82 | omega), (show (cf74 47).toInt = (cf 47).toInt from by first | exact e83 | omega), (show (cf74 48).toInt = (cf 48).toInt from by first | exact e81 | omega), (show (cf74 54).toInt = (cf 54).toInt from by first | exact hkk54_e77 | omega), (show (cf74 55).toInt = (cf 55).toInt from by first | exact hkk55_e77 | omega), (show (cf74 59).toInt = (cf 59).toInt from by first | exact hkk59_e77 | omega), (show Ann na ma0 ma73 from han), (show FrC lo hi ma ma73 from hfc), (show 0 ≤ (0 : Int) from by first | decide | omega), (show (0 : Int) ≤ 4096 from by first | decide | omega), (show 0 ≤ z96.toInt from by first | with_reducible rfl | with_reducible assumption | omega), (show z96.toInt ≤ 4096 from by first | with_reducible rfl | with_reducible assumption | omega), (show (0 : Int) ≤ 4 * z96.toInt from by first | with_reducible rfl | with_reducible assumption | omega), (show ZAv (upd cf74 58 0) ta na ma73 p0 (0 : Int) from (ZAvF (by first | exact zr_no (by first | with_reducible rfl | with_reducible assumption | omega) | exact zav_0 han (by first | with_reducible rfl | with_reducible assumption | omega) (by have hav0 := hav.k0; omega) | exact zav_2 han (by first | with_reducible rfl | with_reducible assumption | omega) (by first | with_reducible rfl | with_reducible assumption | omega) hrl (by first | with_reducible rfl | with_reducible assumption | omega) (by first | with_reducible rfl | with_reducible assumption | omega) (by first | with_reducible rfl | with_reducible assumption | omega) | exact zav_3 han (by first | with_reducible rfl | with_reducible assumption | omega) (by first | with_reducible rfl | with_reducible assumption | omega) ha_zz (by first | with_reducible rfl | with_reducible assumption | omega))))⟩) d_Mpg_declareArray_208
      · have nc92 : z91.toInt = (3 : Int) := (i_eq (x := z91) (y := 3)).mp c92
        refine lv_aload_n S.x S.b d_Mpg_declareArray_135 rfl (lv_at hl 1 rfl) ?_
        refine px_get S k_Mpg hT hw 0 0 10 (v := .ref (r 10)) rfl rfl rfl (by decide) m9_234 d_Mpg_declareArray_136 ?_
        refine lv_aload_n S.x S.b d_Mpg_declareArray_139 rfl (lv_at hl 1 rfl) ?_
        refine px_get S k_Mpg hT hw 0 0 19 (v := .ref (r 19)) rfl rfl rfl (by decide) m10_5 d_Mpg_declareArray_140 ?_
        refine lv_iload_n S.x S.b d_Mpg_declareArray_143 rfl (lv_at hl 2 rfl) ?_
        refine px_iald S hT hw 0 15 (n := 2100) (f := (ma73 19)) rfl gp_19 (x := p0) (vp_in_iff.mpr (by first | exact oz_a7e05de1cd hvr.2.2.1 hvr.2.1 g1 g2 | (constructor <;> omega))) d_Mpg_declareArray_144 ?_
        refine lv_topi (fun z97 ez97 => ?_)
        have lz97 := Int32.le_toInt z97
        have uz97 := Int32.toInt_lt z97
        have ha_z97 : z97 = ma0 19 p0.toNatClampNeg := ez97.trans (Ann.v19 han (by first | with_reducible rfl | with_reducible assumption | omega)); have hn_z97 : z97.toInt = (ma0 19 p0.toNatClampNeg).toInt := (by rw [ha_z97]); have hk3 := hav.k3 (by first | with_reducible rfl | with_reducible assumption | omega); rw [← ha_z97] at hk3
        refine px_iald S hT hw 0 9 (n := 2060) (f := (ta 10)) rfl gp_10 (x := z97) (vp_in_iff.mpr (by first | exact oz_8859ebd461 hn_z97 hk3.1 hk3.2.1 g3 | (constructor <;> omega))) d_Mpg_declareArray_145 ?_
        refine lv_topi (fun z98 ez98 => ?_)
        have lz98 := Int32.le_toInt z98
        have uz98 := Int32.toInt_lt z98
        have rz98 : z98.toInt = wh ta z97 := by rw [ez98]; rfl
        have hw4 := tk_w4 htk (x := z97) (by first | with_reducible rfl | with_reducible assumption | omega) (by first | with_reducible rfl | with_reducible assumption | omega) ez98 (by first | with_reducible rfl | with_reducible assumption | omega)
        refine lv_iconst (v := 1) S.x S.b d_Mpg_declareArray_146 (by decide) ?_
        refine lv_iadd S.x S.b d_Mpg_declareArray_147 ?_
        refine lv_topi (fun z99 ez99 => ?_)
        have tz99 : z99.toInt = (z98.toInt + (1 : Int) + 2147483648) % 4294967296 - 2147483648 := by rw [ez99]; exact i_add z98 1
        have lz99 := Int32.le_toInt z99
        have uz99 := Int32.toInt_lt z99
        try replace tz99 : z99.toInt = z98.toInt + (1 : Int) := by omega
        refine lv_istore (lv' := [(4, .int z99), (3, .int (-1)), (0, .ref h), (1, .int p0), (2, .int p1)]) S.x S.b d_Mpg_declareArray_148 hl (by decide) rfl (fun ls hl => ?_)
        refine lv_iload_n S.x S.b d_Mpg_declareArray_150 rfl (lv_at hl 4 rfl) ?_
        refine lv_if_eq (tgt := 164) S.x S.b d_Mpg_declareArray_151 (by decide) (fun c100 => ?_) (fun c100 => ?_)
        · have nc100 : p1.toInt = (0 : Int) := (i_eq (x := p1) (y := 0)).mp c100
          refine lv_aload_n S.x S.b d_Mpg_declareArray_164 rfl (lv_at hl 2 rfl) ?_
          refine lv_bipush (v := 8) S.x S.b d_Mpg_declareArray_165 (by decide) ?_
          refine lv_aload_n S.x S.b d_Mpg_declareArray_167 rfl (lv_at hl 2 rfl) ?_
          refine px_get S k_Mpg hT hw 0 0 19 (v := .ref (r 19)) rfl rfl rfl (by decide) m10_5 d_Mpg_declareArray_168 ?_
          refine lv_iload_n S.x S.b d_Mpg_declareArray_171 rfl (lv_at hl 3 rfl) ?_
          refine px_iald S hT hw 0 15 (n := 2100) (f := (ma73 19)) rfl gp_19 (x := p0) (vp_in_iff.mpr (by first | exact oz_a7e05de1cd hvr.2.2.1 hvr.2.1 g1 g2 | (constructor <;> omega))) d_Mpg_declareArray_172 ?_
          refine lv_topi (fun z101 ez101 => ?_)
          have lz101 := Int32.le_toInt z101
          have uz101 := Int32.toInt_lt z101
          have ha_z101 : z101 = ma0 19 p0.toNatClampNeg := ez101.trans (Ann.v19 han (by first | with_reducible rfl | with_reducible assumption | omega)); have hn_z101 : z101.toInt = (ma0 19 p0.toNatClampNeg).toInt := (by rw [ha_z101]); have hk3 := hav.k3 (by first | with_reducible rfl | with_reducible assumption | omega); rw [← ha_z101] at hk3
          refine px_callv (pr := []) (px_runV (As := [.int 8, .int z101]) (rest := []) S (c_mp_bad l D cs h r g tf ta pf na ma73 wa ca ef ea xf xa cf74 8 z101  (show 1 ≤ (8 : Int) from by first | decide | omega) (show 0 ≤ z101.toInt from by first | exact oz_f3ebed1ad0 hn_z101 hk3.1 | omega) (show z101.toInt < (tf 6).toInt from by first | exact oz_b0a61accca hk3.2.1 hn_z101 | omega) htk hwr _) hT (pr := []) (pcs := [wdP cs h r g tf ta pf na ma73 wa cf74 ca ef ea xf xa]) hw px_X.tt (px_recv hT hw 0 0 rfl rfl rfl) m12_173 m12_170 m12_172 ms_11_12 m1_21 q_Mpg_bad ⟨show 0 + 1 ≤ (4 * d + 20) from by first | with_reducible rfl | with_reducible assumption | omega, show 8 + (3 + 11) + 0 ≤ (200 * d + 700) from by first | with_reducible rfl | with_reducible assumption | omega⟩ hl.1 rfl (Nat.le_of_ble_eq_true rfl) d_Mpg_declareArray_173 ⟨Nat.le_of_ble_eq_true rfl, Nat.le_of_ble_eq_true rfl⟩) hw hA (fun p104 H locs hp104 hw => ?_)
          obtain ⟨cf103, rfl, e106, e107, e108, e109, e110, e111, e112, e113, e114, e115, e116, e117, e118, e119, e120, e121, e122, e123, e124⟩ := hp104
          have e106 : KpE cf74 cf103 := e106
          have hkz_e106 := e106.2
          have e107 : WrV cf103 (tf 6).toInt := e107
          have hwr := e107
          have hw0_e107 := hwr.1
          have e108 : 1 ≤ (cf103 30).toInt := e108
          have e109 : (cf103 33).toInt = (cf74 33).toInt := e109
          have e110 : (cf103 38).toInt = (cf74 38).toInt := e110
          have e111 : (cf103 48).toInt = (cf74 48).toInt := e111
          have e112 : (cf103 46).toInt = (cf74 46).toInt := e112
          have e113 : (cf103 47).toInt = (cf74 47).toInt := e113
          have e114 : (cf103 57).toInt = (cf74 57).toInt := e114
          have e115 : (cf103 37).toInt = (cf74 37).toInt := e115
          have e116 : (cf103 42).toInt = (cf74 42).toInt := e116
          have e117 : (cf103 43).toInt = (cf74 43).toInt := e117
          have e118 : (cf103 44).toInt = (cf74 44).toInt := e118
          have e119 : (cf103 45).toInt = (cf74 45).toInt := e119
          have e120 : (cf103 54).toInt = (cf74 54).toInt := e120
          have e121 : (cf103 55).toInt = (cf74 55).toInt := e121
          have e122 : (cf103 58).toInt = (cf74 58).toInt := e122
          have e123 : (cf103 59).toInt = (cf74 59).toInt := e123
          have e124 : (cf103 41).toInt = (cf74 41).toInt := e124
          have hw : pw D A s.heap H locs [wdP cs h r g tf ta pf na ma73 wa cf103 ca ef ea xf xa] := hw
          refine lv_aload_n S.x S.b d_Mpg_declareArray_176 rfl (lv_at hl 2 rfl) ?_
          refine lv_iload_n S.x S.b d_Mpg_declareArray_177 rfl (lv_at hl 1 rfl) ?_
          refine lv_if_ge (tgt := 185) S.x S.b d_Mpg_declareArray_178 (by decide) (fun c125 => ?_) (fun c125 => ?_)
          · exact absurd c125 (by decide)
          ·
            refine lv_iconst (v := 0) S.x S.b d_Mpg_declareArray_181 (by decide) ?_
            refine lv_goto (tgt := 186) S.x S.b d_Mpg_declareArray_182 (by decide) ?_
            refine px_put S k_Mpg hT hw 0 0 58 rfl rfl (by decide) m10_55 rfl rfl rfl (Nat.le_of_ble_eq_true rfl) d_Mpg_declareArray_186 (w' := wdP cs h r g tf ta pf na ma73 wa (upd cf103 58 0) ca ef ea xf xa) (ps' := [wdP cs h r g tf ta pf na ma73 wa (upd cf103 58 0) ca ef ea xf xa]) rfl rfl (fun H locs hw => ?_)
            refine lv_iload_n S.x S.b d_Mpg_declareArray_189 rfl (lv_at hl 4 rfl) ?_
            refine lv_if_eq (tgt := 204) S.x S.b d_Mpg_declareArray_190 (by decide) (fun c126 => ?_) (fun c126 => ?_)
            · have nc126 : p1.toInt = (0 : Int) := (i_eq (x := p1) (y := 0)).mp c126
              refine lv_aload_n S.x S.b d_Mpg_declareArray_204 rfl (lv_at hl 2 rfl) ?_
              refine px_get S k_Mpg hT hw 0 0 58 (v := .int 0) rfl rfl rfl (by decide) m10_55 d_Mpg_declareArray_205 ?_
              exact px_iret (v := 0) S hr rfl hlk hAe hw (Nat.le_of_ble_eq_true rfl) (Nat.le_of_ble_eq_true rfl) (⟨ma73, (upd cf103 58 0), rfl, (show (cf103 30).toInt = 0 → (cf 30).toInt = 0 from by first | with_reducible rfl | with_reducible assumption | omega), (show WrV (upd cf103 58 0) (tf 6).toInt from (WrV.u hwr (by decide) (by decide))), (show (cf103 33).toInt = (cf 33).toInt from by first | exact oz_1687f4cc65 e79 e109 | omega), (show (cf103 37).toInt = (cf 37).toInt from by first | exact oz_1687f4cc65 hkk37_e77 e115 | omega), (show (cf103 38).toInt = (cf 38).toInt from by first | exact oz_1687f4cc65 e80 e110 | omega), (show (cf103 41).toInt = (cf 41).toInt from by first | exact oz_1687f4cc65 hkk41_e77 e124 | omega), (show (cf103 42).toInt = (cf 42).toInt from by first | exact oz_1687f4cc65 hkk42_e77 e116 | omega), (show (cf103 43).toInt = (cf 43).toInt from by first | exact oz_1687f4cc65 hkk43_e77 e117 | omega), (show (cf103 44).toInt = (cf 44).toInt from by first | exact oz_1687f4cc65 hkk44_e77 e118 | omega), (show (cf103 45).toInt = (cf 45).toInt from by first | exact oz_1687f4cc65 hkk45_e77 e119 | omega), (show (cf103 46).toInt = (cf 46).toInt from by first | exact oz_1687f4cc65 e82 e112 | omega), (show (cf103 47).toInt = (cf 47).toInt from by first | exact oz_1687f4cc65 e83 e113 | omega), (show (cf103 48).toInt = (cf 48).toInt from by first | exact oz_1687f4cc65 e81 e111 | omega), (show (cf103 54).toInt = (cf 54).toInt from by first | exact oz_1687f4cc65 hkk54_e77 e120 | omega), (show (cf103 55).toInt = (cf 55).toInt from by first | exact oz_1687f4cc65 hkk55_e77 e121 | omega), (show (cf103 59).toInt = (cf 59).toInt from by first | exact oz_1687f4cc65 hkk59_e77 e123 | omega), (show Ann na ma0 ma73 from han), (show FrC lo hi ma ma73 from hfc), (show 0 ≤ (0 : Int) from by first | decide | omega), (show (0 : Int) ≤ 4096 from by first | decide | omega), (show 0 ≤ (0 : Int) from by first | decide | omega), (show (0 : Int) ≤ 4096 from by first | decide | omega), (show (0 : Int) ≤ 4 * (0 : Int) from by first | decide | omega), (show ZAv (upd cf103 58 0) ta na ma73 p0 (0 : Int) from (zr_no (by first | omega | (show 1 ≤ _; rw [pk_un (by decide)]; omega))))⟩) d_Mpg_declareArray_208
            · have nc126 : ¬ p1.toInt = (0 : Int) := mt (i_eq (x := p1) (y := 0)).mpr c126
              refine lv_aload_n S.x S.b d_Mpg_declareArray_193 rfl (lv_at hl 2 rfl) ?_
              refine px_get S k_Mpg hT hw 0 0 58 (v := .int 0) rfl rfl rfl (by decide) m10_55 d_Mpg_declareArray_194 ?_
              refine lv_iconst (v := 3) S.x S.b d_Mpg_declareArray_197 (by decide) ?_
              refine lv_iadd S.x S.b d_Mpg_declareArray_198 ?_
              refine lv_topi (fun z127 ez127 => ?_)
              have tz127 : z127.toInt = ((0 : Int) + (3 : Int) + 2147483648) % 4294967296 - 2147483648 := by rw [ez127]; exact i_add 0 3
              have lz127 := Int32.le_toInt z127
              have uz127 := Int32.toInt_lt z127
              try replace tz127 : z127.toInt = (0 : Int) + (3 : Int) := by omega
              refine lv_iconst (v := 4) S.x S.b d_Mpg_declareArray_199 (by decide) ?_
              refine lv_idiv S.x S.b d_Mpg_declareArray_200 (fun hz0 => by have hz1 := i_eq.mp hz0; omega) ?_
              refine lv_topi (fun z128 ez128 => ?_)
              have lz128 := Int32.le_toInt z128
              have uz128 := Int32.toInt_lt z128
              have hd4 := i_div4 ez128 (by first | with_reducible rfl | with_reducible assumption | omega)
              refine lv_goto (tgt := 208) S.x S.b d_Mpg_declareArray_201 (by decide) ?_
              exact px_iret (v := z128) S hr rfl hlk hAe hw (Nat.le_of_ble_eq_true rfl) (Nat.le_of_ble_eq_true rfl) (⟨ma73, (upd cf103 58 0), rfl, (show (cf103 30).toInt = 0 → (cf 30).toInt = 0 from by first | with_reducible rfl | with_reducible assumption | omega), (show WrV (upd cf103 58 0) (tf 6).toInt from (WrV.u hwr (by decide) (by decide))), (show (cf103 33).toInt = (cf 33).toInt from by first | exact oz_1687f4cc65 e79 e109 | omega), (show (cf103 37).toInt = (cf 37).toInt from by first | exact oz_1687f4cc65 hkk37_e77 e115 | omega), (show (cf103 38).toInt = (cf 38).toInt from by first | exact oz_1687f4cc65 e80 e110 | omega), (show (cf103 41).toInt = (cf 41).toInt from by first | exact oz_1687f4cc65 hkk41_e77 e124 | omega), (show (cf103 42).toInt = (cf 42).toInt from by first | exact oz_1687f4cc65 hkk42_e77 e116 | omega), (show (cf103 43).toInt = (cf 43).toInt from by first | exact oz_1687f4cc65 hkk43_e77 e117 | omega), (show (cf103 44).toInt = (cf 44).toInt from by first | exact oz_1687f4cc65 hkk44_e77 e118 | omega), (show (cf103 45).toInt = (cf 45).toInt from by first | exact oz_1687f4cc65 hkk45_e77 e119 | omega), (show (cf103 46).toInt = (cf 46).toInt from by first | exact oz_1687f4cc65 e82 e112 | omega), (show (cf103 47).toInt = (cf 47).toInt from by first | exact oz_1687f4cc65 e83 e113 | omega), (show (cf103 48).toInt = (cf 48).toInt from by first | exact oz_1687f4cc65 e81 e111 | omega), (show (cf103 54).toInt = (cf 54).toInt from by first | exact oz_1687f4cc65 hkk54_e77 e120 | omega), (show (cf103 55).toInt = (cf 55).toInt from by first | exact oz_1687f4cc65 hkk55_e77 e121 | omega), (show (cf103 59).toInt = (cf 59).toInt from by first | exact oz_1687f4cc65 hkk59_e77 e123 | omega), (show Ann na ma0 ma73 from han), (show FrC lo hi ma ma73 from hfc), (show 0 ≤ (0 : Int) from by first | decide | omega), (show (0 : Int) ≤ 4096 from by first | decide | omega), (show 0 ≤ z128.toInt from by first | with_reducible rfl | with_reducible assumption | omega), (show z128.toInt ≤ 4096 from by first | with_reducible rfl | with_reducible assumption | omega), (show (0 : Int) ≤ 4 * z128.toInt from by first | with_reducible rfl | with_reducible assumption | omega), (show ZAv (upd cf103 58 0) ta na ma73 p0 (0 : Int) from (zr_no (by first | omega | (show 1 ≤ _; rw [pk_un (by decide)]; omega))))⟩) d_Mpg_declareArray_208
        · have nc100 : ¬ p1.toInt = (0 : Int) := mt (i_eq (x := p1) (y := 0)).mpr c100
          refine lv_iload_n S.x S.b d_Mpg_declareArray_154 rfl (lv_at hl 1 rfl) ?_
          refine lv_if_lt (tgt := 176) S.x S.b d_Mpg_declareArray_155 (by decide) (fun c129 => ?_) (fun c129 => ?_)
          ·
            refine lv_aload_n S.x S.b d_Mpg_declareArray_176 rfl (lv_at hl 2 rfl) ?_
            refine lv_iload_n S.x S.b d_Mpg_declareArray_177 rfl (lv_at hl 1 rfl) ?_
            refine lv_if_ge (tgt := 185) S.x S.b d_Mpg_declareArray_178 (by decide) (fun c130 => ?_) (fun c130 => ?_)
            · exact absurd c130 (by decide)
            ·
              refine lv_iconst (v := 0) S.x S.b d_Mpg_declareArray_181 (by decide) ?_
              refine lv_goto (tgt := 186) S.x S.b d_Mpg_declareArray_182 (by decide) ?_
              refine px_put S k_Mpg hT hw 0 0 58 rfl rfl (by decide) m10_55 rfl rfl rfl (Nat.le_of_ble_eq_true rfl) d_Mpg_declareArray_186 (w' := wdP cs h r g tf ta pf na ma73 wa (upd cf74 58 0) ca ef ea xf xa) (ps' := [wdP cs h r g tf ta pf na ma73 wa (upd cf74 58 0) ca ef ea xf xa]) rfl rfl (fun H locs hw => ?_)
              refine lv_iload_n S.x S.b d_Mpg_declareArray_189 rfl (lv_at hl 4 rfl) ?_
              refine lv_if_eq (tgt := 204) S.x S.b d_Mpg_declareArray_190 (by decide) (fun c131 => ?_) (fun c131 => ?_)
              · have nc131 : p1.toInt = (0 : Int) := (i_eq (x := p1) (y := 0)).mp c131
                refine lv_aload_n S.x S.b d_Mpg_declareArray_204 rfl (lv_at hl 2 rfl) ?_
                refine px_get S k_Mpg hT hw 0 0 58 (v := .int 0) rfl rfl rfl (by decide) m10_55 d_Mpg_declareArray_205 ?_
                exact px_iret (v := 0) S hr rfl hlk hAe hw (Nat.le_of_ble_eq_true rfl) (Nat.le_of_ble_eq_true rfl) (⟨ma73, (upd cf74 58 0), rfl, (show (cf74 30).toInt = 0 → (cf 30).toInt = 0 from by first | exact hkz_e77 | omega), (show WrV (upd cf74 58 0) (tf 6).toInt from (WrV.u hwr (by decide) (by decide))), (show (cf74 33).toInt = (cf 33).toInt from by first | exact e79 | omega), (show (cf74 37).toInt = (cf 37).toInt from by first | exact hkk37_e77 | omega), (show (cf74 38).toInt = (cf 38).toInt from by first | exact e80 | omega), (show (cf74 41).toInt = (cf 41).toInt from by first | exact hkk41_e77 | omega), (show (cf74 42).toInt = (cf 42).toInt from by first | exact hkk42_e77 | omega), (show (cf74 43).toInt = (cf 43).toInt from by first | exact hkk43_e77 | omega), (show (cf74 44).toInt = (cf 44).toInt from by first | exact hkk44_e77 | omega), (show (cf74 45).toInt = (cf 45).toInt from by first | exact hkk45_e77 | omega), (show (cf74 46).toInt = (cf 46).toInt from by first | exact e82 | omega), (show (cf74 47).toInt = (cf 47).toInt from by first | exact e83 | omega), (show (cf74 48).toInt = (cf 48).toInt from by first | exact e81 | omega), (show (cf74 54).toInt = (cf 54).toInt from by first | exact hkk54_e77 | omega), (show (cf74 55).toInt = (cf 55).toInt from by first | exact hkk55_e77 | omega), (show (cf74 59).toInt = (cf 59).toInt from by first | exact hkk59_e77 | omega), (show Ann na ma0 ma73 from han), (show FrC lo hi ma ma73 from hfc), (show 0 ≤ (0 : Int) from by first | decide | omega), (show (0 : Int) ≤ 4096 from by first | decide | omega), (show 0 ≤ (0 : Int) from by first | decide | omega), (show (0 : Int) ≤ 4096 from by first | decide | omega), (show (0 : Int) ≤ 4 * (0 : Int) from by first | decide | omega), (show ZAv (upd cf74 58 0) ta na ma73 p0 (0 : Int) from (ZAvF (by first | exact zr_no (by first | with_reducible rfl | with_reducible assumption | omega) | exact zav_0 han (by first | with_reducible rfl | with_reducible assumption | omega) (by have hav0 := hav.k0; omega) | exact zav_2 han (by first | with_reducible rfl | with_reducible assumption | omega) (by first | with_reducible rfl | with_reducible assumption | omega) hrl (by first | with_reducible rfl | with_reducible assumption | omega) (by first | with_reducible rfl | with_reducible assumption | omega) (by first | with_reducible rfl | with_reducible assumption | omega) | exact zav_3 han (by first | with_reducible rfl | with_reducible assumption | omega) (by first | with_reducible rfl | with_reducible assumption | omega) ha_z97 (by first | with_reducible rfl | with_reducible assumption | omega))))⟩) d_Mpg_declareArray_208
              · have nc131 : ¬ p1.toInt = (0 : Int) := mt (i_eq (x := p1) (y := 0)).mpr c131
                refine lv_aload_n S.x S.b d_Mpg_declareArray_193 rfl (lv_at hl 2 rfl) ?_
                refine px_get S k_Mpg hT hw 0 0 58 (v := .int 0) rfl rfl rfl (by decide) m10_55 d_Mpg_declareArray_194 ?_
                refine lv_iconst (v := 3) S.x S.b d_Mpg_declareArray_197 (by decide) ?_
                refine lv_iadd S.x S.b d_Mpg_declareArray_198 ?_
                refine lv_topi (fun z132 ez132 => ?_)
                have tz132 : z132.toInt = ((0 : Int) + (3 : Int) + 2147483648) % 4294967296 - 2147483648 := by rw [ez132]; exact i_add 0 3
                have lz132 := Int32.le_toInt z132
                have uz132 := Int32.toInt_lt z132
                try replace tz132 : z132.toInt = (0 : Int) + (3 : Int) := by omega
                refine lv_iconst (v := 4) S.x S.b d_Mpg_declareArray_199 (by decide) ?_
                refine lv_idiv S.x S.b d_Mpg_declareArray_200 (fun hz0 => by have hz1 := i_eq.mp hz0; omega) ?_
                refine lv_topi (fun z133 ez133 => ?_)
                have lz133 := Int32.le_toInt z133
                have uz133 := Int32.toInt_lt z133
                have hd4 := i_div4 ez133 (by first | with_reducible rfl | with_reducible assumption | omega)
                refine lv_goto (tgt := 208) S.x S.b d_Mpg_declareArray_201 (by decide) ?_
                exact px_iret (v := z133) S hr rfl hlk hAe hw (Nat.le_of_ble_eq_true rfl) (Nat.le_of_ble_eq_true rfl) (⟨ma73, (upd cf74 58 0), rfl, (show (cf74 30).toInt = 0 → (cf 30).toInt = 0 from by first | exact hkz_e77 | omega), (show WrV (upd cf74 58 0) (tf 6).toInt from (WrV.u hwr (by decide) (by decide))), (show (cf74 33).toInt = (cf 33).toInt from by first | exact e79 | omega), (show (cf74 37).toInt = (cf 37).toInt from by first | exact hkk37_e77 | omega), (show (cf74 38).toInt = (cf 38).toInt from by first | exact e80 | omega), (show (cf74 41).toInt = (cf 41).toInt from by first | exact hkk41_e77 | omega), (show (cf74 42).toInt = (cf 42).toInt from by first | exact hkk42_e77 | omega), (show (cf74 43).toInt = (cf 43).toInt from by first | exact hkk43_e77 | omega), (show (cf74 44).toInt = (cf 44).toInt from by first | exact hkk44_e77 | omega), (show (cf74 45).toInt = (cf 45).toInt from by first | exact hkk45_e77 | omega), (show (cf74 46).toInt = (cf 46).toInt from by first | exact e82 | omega), (show (cf74 47).toInt = (cf 47).toInt from by first | exact e83 | omega), (show (cf74 48).toInt = (cf 48).toInt from by first | exact e81 | omega), (show (cf74 54).toInt = (cf 54).toInt from by first | exact hkk54_e77 | omega), (show (cf74 55).toInt = (cf 55).toInt from by first | exact hkk55_e77 | omega), (show (cf74 59).toInt = (cf 59).toInt from by first | exact hkk59_e77 | omega), (show Ann na ma0 ma73 from han), (show FrC lo hi ma ma73 from hfc), (show 0 ≤ (0 : Int) from by first | decide | omega), (show (0 : Int) ≤ 4096 from by first | decide | omega), (show 0 ≤ z133.toInt from by first | with_reducible rfl | with_reducible assumption | omega), (show z133.toInt ≤ 4096 from by first | with_reducible rfl | with_reducible assumption | omega), (show (0 : Int) ≤ 4 * z133.toInt from by first | with_reducible rfl | with_reducible assumption | omega), (show ZAv (upd cf74 58 0) ta na ma73 p0 (0 : Int) from (ZAvF (by first | exact zr_no (by first | with_reducible rfl | with_reducible assumption | omega) | exact zav_0 han (by first | with_reducible rfl | with_reducible assumption | omega) (by have hav0 := hav.k0; omega) | exact zav_2 han (by first | with_reducible rfl | with_reducible assumption | omega) (by first | with_reducible rfl | with_reducible assumption | omega) hrl (by first | with_reducible rfl | with_reducible assumption | omega) (by first | with_reducible rfl | with_reducible assumption | omega) (by first | with_reducible rfl | with_reducible assumption | omega) | exact zav_3 han (by first | with_reducible rfl | with_reducible assumption | omega) (by first | with_reducible rfl | with_reducible assumption | omega) ha_z97 (by first | with_reducible rfl | with_reducible assumption | omega))))⟩) d_Mpg_declareArray_208
          · exact absurd c129 (by decide)
    · have nc90 : z89.toInt = (2 : Int) := (i_eq (x := z89) (y := 2)).mp c90
      refine lv_iconst (v := 0) S.x S.b d_Mpg_declareArray_62 (by decide) ?_
      refine lv_istore (lv' := [(4, .int 0), (3, .int (-1)), (0, .ref h), (1, .int p0), (2, .int p1)]) S.x S.b d_Mpg_declareArray_63 hl (by decide) rfl (fun ls hl => ?_)
      refine lv_aload_n S.x S.b d_Mpg_declareArray_65 rfl (lv_at hl 2 rfl) ?_
      refine px_get S k_Mpg hT hw 0 0 18 (v := .ref (r 18)) rfl rfl rfl (by decide) m10_3 d_Mpg_declareArray_66 ?_
      refine lv_iload_n S.x S.b d_Mpg_declareArray_69 rfl (lv_at hl 3 rfl) ?_
      refine px_iald S hT hw 0 14 (n := 2100) (f := (ma73 18)) rfl gp_18 (x := p0) (vp_in_iff.mpr (by first | exact oz_a7e05de1cd hvr.2.2.1 hvr.2.1 g1 g2 | (constructor <;> omega))) d_Mpg_declareArray_70 ?_
      refine lv_topi (fun z134 ez134 => ?_)
      have lz134 := Int32.le_toInt z134
      have uz134 := Int32.toInt_lt z134
      obtain ⟨⟨wr, hrv, hwr9⟩, h19a, h19b⟩ := hav.k2 (by first | with_reducible rfl | with_reducible assumption | omega); have ha_z134 : z134 = ma0 18 p0.toNatClampNeg := ez134.trans (Ann.v18 han (by first | with_reducible rfl | with_reducible assumption | omega))
      refine lv_istore (lv' := [(5, .int z134), (4, .int 0), (3, .int (-1)), (0, .ref h), (1, .int p0), (2, .int p1)]) S.x S.b d_Mpg_declareArray_71 hl (by decide) rfl (fun ls hl => ?_)
      exact J73 ((hi - m1).toNat + 1) ma73 cf74 m1 wr (-1) (0 : Int32) z134 _ _ ls (show (cf74 30).toInt = 0 → (cf 30).toInt = 0 from by first | exact hkz_e77 | omega) (show WrV cf74 (tf 6).toInt from hwr) (show (cf74 33).toInt = (cf 33).toInt from by first | exact e79 | omega) (show (cf74 37).toInt = (cf 37).toInt from by first | exact hkk37_e77 | omega) (show (cf74 38).toInt = (cf 38).toInt from by first | exact e80 | omega) (show (cf74 41).toInt = (cf 41).toInt from by first | exact hkk41_e77 | omega) (show (cf74 42).toInt = (cf 42).toInt from by first | exact hkk42_e77 | omega) (show (cf74 43).toInt = (cf 43).toInt from by first | exact hkk43_e77 | omega) (show (cf74 44).toInt = (cf 44).toInt from by first | exact hkk44_e77 | omega) (show (cf74 45).toInt = (cf 45).toInt from by first | exact hkk45_e77 | omega) (show (cf74 46).toInt = (cf 46).toInt from by first | exact e82 | omega) (show (cf74 47).toInt = (cf 47).toInt from by first | exact e83 | omega) (show (cf74 48).toInt = (cf 48).toInt from by first | exact e81 | omega) (show (cf74 54).toInt = (cf 54).toInt from by first | exact hkk54_e77 | omega) (show (cf74 55).toInt = (cf 55).toInt from by first | exact hkk55_e77 | omega) (show (cf74 59).toInt = (cf 59).toInt from by first | exact hkk59_e77 | omega) (show Ann na ma0 ma73 from han) (show FrC lo hi ma ma73 from hfc) (show -1 ≤ (-1 : Int) from by first | decide | omega) (show (-1 : Int) ≤ 4096 from by first | decide | omega) (show (-1 : Int) = -1 → 1 ≤ (cf74 30).toInt from by first | with_reducible rfl | with_reducible assumption | omega) (show 0 ≤ (0 : Int) from by first | decide | omega) (show (0 : Int) + m1 ≤ m1 from by first | exact oz_05158eb67a | omega) (show m1 ≤ m1 from by first | exact oz_1cb5f934a5 | omega) (show m1 ≤ hi from by first | exact hm2 | omega) (show (ma0 22 p0.toNatClampNeg).toInt = 2 from by first | exact oz_70422203cd rz89 nc90 | omega) (show RvI ta (tf 6).toInt na ma0 d m1 hi wr z134 from (by rw [ha_z134]; exact hrv)) (show RlC na (ma0 18 p0.toNatClampNeg) z134 (0 : Int) from (by rw [ha_z134]; exact rlc_0)) (show hi - m1 < ((((hi - m1).toNat + 1 : Nat) : Int) : Int) from by first | exact oz_natlt | omega) hw (lv_sub hl [3, 4, 5, 2, 1, 0] rfl)
  · have nc88 : ¬ v76.toInt = (0 : Int) := mt (i_eq (x := v76) (y := 0)).mpr c88
    refine lv_aload_n S.x S.b d_Mpg_declareArray_15 rfl (lv_at hl 1 rfl) ?_
    refine px_get S k_Mpg hT hw 0 0 57 (v := .int (cf74 57)) rfl rfl rfl (by decide) m10_54 d_Mpg_declareArray_16 ?_
    refine lv_istore_n (lv' := [(3, .int (cf74 57)), (0, .ref h), (1, .int p0), (2, .int p1)]) S.x S.b d_Mpg_declareArray_19 rfl hl (by decide) rfl (fun ls hl => ?_)
    refine lv_iload_n S.x S.b d_Mpg_declareArray_20 rfl (lv_at hl 0 rfl) ?_
    refine lv_iconst (v := 1) S.x S.b d_Mpg_declareArray_21 (by decide) ?_
    refine lv_icmp_lt (tgt := 32) S.x S.b d_Mpg_declareArray_22 (by decide) (fun c135 => ?_) (fun c135 => ?_)
    · have nc135 : (cf74 57).toInt < (1 : Int) := (i_lt (x := (cf74 57)) (y := 1)).mp c135
      refine lv_aload_n S.x S.b d_Mpg_declareArray_32 rfl (lv_at hl 1 rfl) ?_
      refine lv_bipush (v := 8) S.x S.b d_Mpg_declareArray_33 (by decide) ?_
      refine lv_aload_n S.x S.b d_Mpg_declareArray_35 rfl (lv_at hl 1 rfl) ?_
      refine lv_aload_n S.x S.b d_Mpg_declareArray_36 rfl (lv_at hl 1 rfl) ?_
      refine px_get S k_Mpg hT hw 0 0 17 (v := .ref (r 17)) rfl rfl rfl (by decide) m10_1 d_Mpg_declareArray_37 ?_
      refine lv_iload_n S.x S.b d_Mpg_declareArray_40 rfl (lv_at hl 2 rfl) ?_
      refine px_iald S hT hw 0 13 (n := 2100) (f := (na 17)) rfl gp_17 (x := p0) (vp_in_iff.mpr (by first | exact oz_a7e05de1cd hvr.2.2.1 hvr.2.1 g1 g2 | (constructor <;> omega))) d_Mpg_declareArray_41 ?_
      refine lv_topi (fun z136 ez136 => ?_)
      have lz136 := Int32.le_toInt z136
      have uz136 := Int32.toInt_lt z136
      have rz136 : z136.toInt = (na 17 p0.toNatClampNeg).toInt := by rw [ez136]
      have hqz136 : z136.toInt = (na 17 p0.toNatClampNeg).toInt := (by rw [ez136])
      refine px_calli (pr := []) (px_runV (As := [.int z136]) (rest := [.int 8, .ref h]) S (c_mp_first l D cs h r g tf ta pf na ma73 wa cf74 ca ef ea xf xa z136  (show 0 ≤ z136.toInt from by first | exact oz_f3ebed1ad0 rz136 g23 | omega) (show z136.toInt < (pf 13).toInt from by first | with_reducible rfl | with_reducible assumption | omega) (show (pf 13).toInt ≤ 2100 from by first | exact g2 | omega) htk (FsI.le (N' := (pf 13).toInt) hfs (by first | with_reducible rfl | with_reducible assumption | omega)) _) hT (pr := []) (pcs := [wdP cs h r g tf ta pf na ma73 wa cf74 ca ef ea xf xa]) hw px_X.tt (px_recv hT hw 0 0 rfl rfl rfl) m13_9 m13_6 m13_8 ms_12_15 m1_21 q_Mpg_first ⟨show 0 + 1 ≤ (4 * d + 20) from by first | with_reducible rfl | with_reducible assumption | omega, show 8 + (2 + 11) + 0 ≤ (200 * d + 700) from by first | with_reducible rfl | with_reducible assumption | omega⟩ hl.1 rfl (Nat.le_of_ble_eq_true rfl) d_Mpg_declareArray_42 ⟨Nat.le_of_ble_eq_true rfl, Nat.le_of_ble_eq_true rfl⟩) hw hA (fun v138 p137 H locs hp137 hw => ?_)
      obtain ⟨rfl, e139, e140⟩ := hp137
      have e139 : 0 ≤ v138.toInt := e139
      have e140 : v138.toInt < (tf 6).toInt := e140
      have hw : pw D A s.heap H locs [wdP cs h r g tf ta pf na ma73 wa cf74 ca ef ea xf xa] := hw
      have lv138 := Int32.le_toInt v138
      have uv138 := Int32.toInt_lt v138
      refine px_callv (pr := []) (px_runV (As := [.int 8, .int v138]) (rest := []) S (c_mp_bad l D cs h r g tf ta pf na ma73 wa ca ef ea xf xa cf74 8 v138  (show 1 ≤ (8 : Int) from by first | decide | omega) (show 0 ≤ v138.toInt from by first | exact e139 | omega) (show v138.toInt < (tf 6).toInt from by first | exact e140 | omega) htk hwr _) hT (pr := []) (pcs := [wdP cs h r g tf ta pf na ma73 wa cf74 ca ef ea xf xa]) hw px_X.tt (px_recv hT hw 0 0 rfl rfl rfl) m12_173 m12_170 m12_172 ms_11_12 m1_21 q_Mpg_bad ⟨show 0 + 1 ≤ (4 * d + 20) from by first | with_reducible rfl | with_reducible assumption | omega, show 8 + (3 + 11) + 0 ≤ (200 * d + 700) from by first | with_reducible rfl | with_reducible assumption | omega⟩ hl.1 rfl (Nat.le_of_ble_eq_true rfl) d_Mpg_declareArray_45 ⟨Nat.le_of_ble_eq_true rfl, Nat.le_of_ble_eq_true rfl⟩) hw hA (fun p143 H locs hp143 hw => ?_)
      obtain ⟨cf142, rfl, e145, e146, e147, e148, e149, e150, e151, e152, e153, e154, e155, e156, e157, e158, e159, e160, e161, e162, e163⟩ := hp143
      have e145 : KpE cf74 cf142 := e145
      have hkz_e145 := e145.2
      have e146 : WrV cf142 (tf 6).toInt := e146
      have hwr := e146
      have hw0_e146 := hwr.1
      have e147 : 1 ≤ (cf142 30).toInt := e147
      have e148 : (cf142 33).toInt = (cf74 33).toInt := e148
      have e149 : (cf142 38).toInt = (cf74 38).toInt := e149
      have e150 : (cf142 48).toInt = (cf74 48).toInt := e150
      have e151 : (cf142 46).toInt = (cf74 46).toInt := e151
      have e152 : (cf142 47).toInt = (cf74 47).toInt := e152
      have e153 : (cf142 57).toInt = (cf74 57).toInt := e153
      have e154 : (cf142 37).toInt = (cf74 37).toInt := e154
      have e155 : (cf142 42).toInt = (cf74 42).toInt := e155
      have e156 : (cf142 43).toInt = (cf74 43).toInt := e156
      have e157 : (cf142 44).toInt = (cf74 44).toInt := e157
      have e158 : (cf142 45).toInt = (cf74 45).toInt := e158
      have e159 : (cf142 54).toInt = (cf74 54).toInt := e159
      have e160 : (cf142 55).toInt = (cf74 55).toInt := e160
      have e161 : (cf142 58).toInt = (cf74 58).toInt := e161
      have e162 : (cf142 59).toInt = (cf74 59).toInt := e162
      have e163 : (cf142 41).toInt = (cf74 41).toInt := e163
      have hw : pw D A s.heap H locs [wdP cs h r g tf ta pf na ma73 wa cf142 ca ef ea xf xa] := hw
      refine lv_sipush (v := 4096) S.x S.b d_Mpg_declareArray_48 (by decide) ?_
      refine lv_istore_n (lv' := [(3, .int 4096), (0, .ref h), (1, .int p0), (2, .int p1)]) S.x S.b d_Mpg_declareArray_51 rfl hl (by decide) rfl (fun ls hl => ?_)
      refine lv_aload_n S.x S.b d_Mpg_declareArray_52 rfl (lv_at hl 1 rfl) ?_
      refine px_get S k_Mpg hT hw 0 0 22 (v := .ref (r 22)) rfl rfl rfl (by decide) m10_9 d_Mpg_declareArray_53 ?_
      refine lv_iload_n S.x S.b d_Mpg_declareArray_56 rfl (lv_at hl 2 rfl) ?_
      refine px_iald S hT hw 0 18 (n := 2100) (f := (ma73 22)) rfl gp_22 (x := p0) (vp_in_iff.mpr (by first | exact oz_a7e05de1cd hvr.2.2.1 hvr.2.1 g1 g2 | (constructor <;> omega))) d_Mpg_declareArray_57 ?_
      refine lv_topi (fun z164 ez164 => ?_)
      have lz164 := Int32.le_toInt z164
      have uz164 := Int32.toInt_lt z164
      have rz164 : z164.toInt = (ma0 22 p0.toNatClampNeg).toInt := (by rw [ez164, Ann.v22 han (by first | with_reducible rfl | with_reducible assumption | omega)])
      refine lv_iconst (v := 2) S.x S.b d_Mpg_declareArray_58 (by decide) ?_
      refine lv_icmp_ne (tgt := 125) S.x S.b d_Mpg_declareArray_59 (by decide) (fun c165 => ?_) (fun c165 => ?_)
      · have nc165 : ¬ z164.toInt = (2 : Int) := mt (i_eq (x := z164) (y := 2)).mpr c165
        refine lv_aload_n S.x S.b d_Mpg_declareArray_125 rfl (lv_at hl 1 rfl) ?_
        refine px_get S k_Mpg hT hw 0 0 22 (v := .ref (r 22)) rfl rfl rfl (by decide) m10_9 d_Mpg_declareArray_126 ?_
        refine lv_iload_n S.x S.b d_Mpg_declareArray_129 rfl (lv_at hl 2 rfl) ?_
        refine px_iald S hT hw 0 18 (n := 2100) (f := (ma73 22)) rfl gp_22 (x := p0) (vp_in_iff.mpr (by first | exact oz_a7e05de1cd hvr.2.2.1 hvr.2.1 g1 g2 | (constructor <;> omega))) d_Mpg_declareArray_130 ?_
        refine lv_topi (fun z166 ez166 => ?_)
        have lz166 := Int32.le_toInt z166
        have uz166 := Int32.toInt_lt z166
        have rz166 : z166.toInt = (ma0 22 p0.toNatClampNeg).toInt := (by rw [ez166, Ann.v22 han (by first | with_reducible rfl | with_reducible assumption | omega)])
        refine lv_iconst (v := 3) S.x S.b d_Mpg_declareArray_131 (by decide) ?_
        refine lv_icmp_ne (tgt := 176) S.x S.b d_Mpg_declareArray_132 (by decide) (fun c167 => ?_) (fun c167 => ?_)
        · have nc167 : ¬ z166.toInt = (3 : Int) := mt (i_eq (x := z166) (y := 3)).mpr c167
          refine lv_aload_n S.x S.b d_Mpg_declareArray_176 rfl (lv_at hl 1 rfl) ?_
          refine lv_iload_n S.x S.b d_Mpg_declareArray_177 rfl (lv_at hl 0 rfl) ?_
          refine lv_if_ge (tgt := 185) S.x S.b d_Mpg_declareArray_178 (by decide) (fun c168 => ?_) (fun c168 => ?_)
          ·
            refine lv_iload_n S.x S.b d_Mpg_declareArray_185 rfl (lv_at hl 0 rfl) ?_
            refine px_put S k_Mpg hT hw 0 0 58 rfl rfl (by decide) m10_55 rfl rfl rfl (Nat.le_of_ble_eq_true rfl) d_Mpg_declareArray_186 (w' := wdP cs h r g tf ta pf na ma73 wa (upd cf142 58 4096) ca ef ea xf xa) (ps' := [wdP cs h r g tf ta pf na ma73 wa (upd cf142 58 4096) ca ef ea xf xa]) rfl rfl (fun H locs hw => ?_)
            refine lv_iload_n S.x S.b d_Mpg_declareArray_189 rfl (lv_at hl 3 rfl) ?_
            refine lv_if_eq (tgt := 204) S.x S.b d_Mpg_declareArray_190 (by decide) (fun c169 => ?_) (fun c169 => ?_)
            · have nc169 : p1.toInt = (0 : Int) := (i_eq (x := p1) (y := 0)).mp c169
              refine lv_aload_n S.x S.b d_Mpg_declareArray_204 rfl (lv_at hl 1 rfl) ?_
              refine px_get S k_Mpg hT hw 0 0 58 (v := .int 4096) rfl rfl rfl (by decide) m10_55 d_Mpg_declareArray_205 ?_
              exact px_iret (v := 4096) S hr rfl hlk hAe hw (Nat.le_of_ble_eq_true rfl) (Nat.le_of_ble_eq_true rfl) (⟨ma73, (upd cf142 58 4096), rfl, (show (cf142 30).toInt = 0 → (cf 30).toInt = 0 from by first | with_reducible rfl | with_reducible assumption | omega), (show WrV (upd cf142 58 4096) (tf 6).toInt from (WrV.u hwr (by decide) (by decide))), (show (cf142 33).toInt = (cf 33).toInt from by first | exact oz_1687f4cc65 e79 e148 | omega), (show (cf142 37).toInt = (cf 37).toInt from by first | exact oz_1687f4cc65 hkk37_e77 e154 | omega), (show (cf142 38).toInt = (cf 38).toInt from by first | exact oz_1687f4cc65 e80 e149 | omega), (show (cf142 41).toInt = (cf 41).toInt from by first | exact oz_1687f4cc65 hkk41_e77 e163 | omega), (show (cf142 42).toInt = (cf 42).toInt from by first | exact oz_1687f4cc65 hkk42_e77 e155 | omega), (show (cf142 43).toInt = (cf 43).toInt from by first | exact oz_1687f4cc65 hkk43_e77 e156 | omega), (show (cf142 44).toInt = (cf 44).toInt from by first | exact oz_1687f4cc65 hkk44_e77 e157 | omega), (show (cf142 45).toInt = (cf 45).toInt from by first | exact oz_1687f4cc65 hkk45_e77 e158 | omega), (show (cf142 46).toInt = (cf 46).toInt from by first | exact oz_1687f4cc65 e82 e151 | omega), (show (cf142 47).toInt = (cf 47).toInt from by first | exact oz_1687f4cc65 e83 e152 | omega), (show (cf142 48).toInt = (cf 48).toInt from by first | exact oz_1687f4cc65 e81 e150 | omega), (show (cf142 54).toInt = (cf 54).toInt from by first | exact oz_1687f4cc65 hkk54_e77 e159 | omega), (show (cf142 55).toInt = (cf 55).toInt from by first | exact oz_1687f4cc65 hkk55_e77 e160 | omega), (show (cf142 59).toInt = (cf 59).toInt from by first | exact oz_1687f4cc65 hkk59_e77 e162 | omega), (show Ann na ma0 ma73 from han), (show FrC lo hi ma ma73 from hfc), (show 0 ≤ (4096 : Int) from by first | decide | omega), (show (4096 : Int) ≤ 4096 from by first | decide | omega), (show 0 ≤ (4096 : Int) from by first | decide | omega), (show (4096 : Int) ≤ 4096 from by first | decide | omega), (show (4096 : Int) ≤ 4 * (4096 : Int) from by first | decide | omega), (show ZAv (upd cf142 58 4096) ta na ma73 p0 (4096 : Int) from (zr_no (by first | omega | (show 1 ≤ _; rw [pk_un (by decide)]; omega))))⟩) d_Mpg_declareArray_208
            · have nc169 : ¬ p1.toInt = (0 : Int) := mt (i_eq (x := p1) (y := 0)).mpr c169
              refine lv_aload_n S.x S.b d_Mpg_declareArray_193 rfl (lv_at hl 1 rfl) ?_
              refine px_get S k_Mpg hT hw 0 0 58 (v := .int 4096) rfl rfl rfl (by decide) m10_55 d_Mpg_declareArray_194 ?_
              refine lv_iconst (v := 3) S.x S.b d_Mpg_declareArray_197 (by decide) ?_
              refine lv_iadd S.x S.b d_Mpg_declareArray_198 ?_
              refine lv_topi (fun z170 ez170 => ?_)
              have tz170 : z170.toInt = ((4096 : Int) + (3 : Int) + 2147483648) % 4294967296 - 2147483648 := by rw [ez170]; exact i_add 4096 3
              have lz170 := Int32.le_toInt z170
              have uz170 := Int32.toInt_lt z170
              try replace tz170 : z170.toInt = (4096 : Int) + (3 : Int) := by omega
              refine lv_iconst (v := 4) S.x S.b d_Mpg_declareArray_199 (by decide) ?_
              refine lv_idiv S.x S.b d_Mpg_declareArray_200 (fun hz0 => by have hz1 := i_eq.mp hz0; omega) ?_
              refine lv_topi (fun z171 ez171 => ?_)
              have lz171 := Int32.le_toInt z171
              have uz171 := Int32.toInt_lt z171
              have hd4 := i_div4 ez171 (by first | with_reducible rfl | with_reducible assumption | omega)
              refine lv_goto (tgt := 208) S.x S.b d_Mpg_declareArray_201 (by decide) ?_
              exact px_iret (v := z171) S hr rfl hlk hAe hw (Nat.le_of_ble_eq_true rfl) (Nat.le_of_ble_eq_true rfl) (⟨ma73, (upd cf142 58 4096), rfl, (show (cf142 30).toInt = 0 → (cf 30).toInt = 0 from by first | with_reducible rfl | with_reducible assumption | omega), (show WrV (upd cf142 58 4096) (tf 6).toInt from (WrV.u hwr (by decide) (by decide))), (show (cf142 33).toInt = (cf 33).toInt from by first | exact oz_1687f4cc65 e79 e148 | omega), (show (cf142 37).toInt = (cf 37).toInt from by first | exact oz_1687f4cc65 hkk37_e77 e154 | omega), (show (cf142 38).toInt = (cf 38).toInt from by first | exact oz_1687f4cc65 e80 e149 | omega), (show (cf142 41).toInt = (cf 41).toInt from by first | exact oz_1687f4cc65 hkk41_e77 e163 | omega), (show (cf142 42).toInt = (cf 42).toInt from by first | exact oz_1687f4cc65 hkk42_e77 e155 | omega), (show (cf142 43).toInt = (cf 43).toInt from by first | exact oz_1687f4cc65 hkk43_e77 e156 | omega), (show (cf142 44).toInt = (cf 44).toInt from by first | exact oz_1687f4cc65 hkk44_e77 e157 | omega), (show (cf142 45).toInt = (cf 45).toInt from by first | exact oz_1687f4cc65 hkk45_e77 e158 | omega), (show (cf142 46).toInt = (cf 46).toInt from by first | exact oz_1687f4cc65 e82 e151 | omega), (show (cf142 47).toInt = (cf 47).toInt from by first | exact oz_1687f4cc65 e83 e152 | omega), (show (cf142 48).toInt = (cf 48).toInt from by first | exact oz_1687f4cc65 e81 e150 | omega), (show (cf142 54).toInt = (cf 54).toInt from by first | exact oz_1687f4cc65 hkk54_e77 e159 | omega), (show (cf142 55).toInt = (cf 55).toInt from by first | exact oz_1687f4cc65 hkk55_e77 e160 | omega), (show (cf142 59).toInt = (cf 59).toInt from by first | exact oz_1687f4cc65 hkk59_e77 e162 | omega), (show Ann na ma0 ma73 from han), (show FrC lo hi ma ma73 from hfc), (show 0 ≤ (4096 : Int) from by first | decide | omega), (show (4096 : Int) ≤ 4096 from by first | decide | omega), (show 0 ≤ z171.toInt from by first | with_reducible rfl | with_reducible assumption | omega), (show z171.toInt ≤ 4096 from by first | with_reducible rfl | with_reducible assumption | omega), (show (4096 : Int) ≤ 4 * z171.toInt from by first | with_reducible rfl | with_reducible assumption | omega), (show ZAv (upd cf142 58 4096) ta na ma73 p0 (4096 : Int) from (zr_no (by first | omega | (show 1 ≤ _; rw [pk_un (by decide)]; omega))))⟩) d_Mpg_declareArray_208
          · exact absurd c168 (by decide)
        · have nc167 : z166.toInt = (3 : Int) := (i_eq (x := z166) (y := 3)).mp c167
          refine lv_aload_n S.x S.b d_Mpg_declareArray_135 rfl (lv_at hl 1 rfl) ?_
          refine px_get S k_Mpg hT hw 0 0 10 (v := .ref (r 10)) rfl rfl rfl (by decide) m9_234 d_Mpg_declareArray_136 ?_
          refine lv_aload_n S.x S.b d_Mpg_declareArray_139 rfl (lv_at hl 1 rfl) ?_
          refine px_get S k_Mpg hT hw 0 0 19 (v := .ref (r 19)) rfl rfl rfl (by decide) m10_5 d_Mpg_declareArray_140 ?_
          refine lv_iload_n S.x S.b d_Mpg_declareArray_143 rfl (lv_at hl 2 rfl) ?_
          refine px_iald S hT hw 0 15 (n := 2100) (f := (ma73 19)) rfl gp_19 (x := p0) (vp_in_iff.mpr (by first | exact oz_a7e05de1cd hvr.2.2.1 hvr.2.1 g1 g2 | (constructor <;> omega))) d_Mpg_declareArray_144 ?_
          refine lv_topi (fun z172 ez172 => ?_)
          have lz172 := Int32.le_toInt z172
          have uz172 := Int32.toInt_lt z172
          have ha_z172 : z172 = ma0 19 p0.toNatClampNeg := ez172.trans (Ann.v19 han (by first | with_reducible rfl | with_reducible assumption | omega)); have hn_z172 : z172.toInt = (ma0 19 p0.toNatClampNeg).toInt := (by rw [ha_z172]); have hk3 := hav.k3 (by first | with_reducible rfl | with_reducible assumption | omega); rw [← ha_z172] at hk3
          refine px_iald S hT hw 0 9 (n := 2060) (f := (ta 10)) rfl gp_10 (x := z172) (vp_in_iff.mpr (by first | exact oz_8859ebd461 hn_z172 hk3.1 hk3.2.1 g3 | (constructor <;> omega))) d_Mpg_declareArray_145 ?_
          refine lv_topi (fun z173 ez173 => ?_)
          have lz173 := Int32.le_toInt z173
          have uz173 := Int32.toInt_lt z173
          have rz173 : z173.toInt = wh ta z172 := by rw [ez173]; rfl
          have hw4 := tk_w4 htk (x := z172) (by first | with_reducible rfl | with_reducible assumption | omega) (by first | with_reducible rfl | with_reducible assumption | omega) ez173 (by first | with_reducible rfl | with_reducible assumption | omega)
          refine lv_iconst (v := 1) S.x S.b d_Mpg_declareArray_146 (by decide) ?_
          refine lv_iadd S.x S.b d_Mpg_declareArray_147 ?_
          refine lv_topi (fun z174 ez174 => ?_)
          have tz174 : z174.toInt = (z173.toInt + (1 : Int) + 2147483648) % 4294967296 - 2147483648 := by rw [ez174]; exact i_add z173 1
          have lz174 := Int32.le_toInt z174
          have uz174 := Int32.toInt_lt z174
          try replace tz174 : z174.toInt = z173.toInt + (1 : Int) := by omega
          refine lv_istore (lv' := [(4, .int z174), (3, .int 4096), (0, .ref h), (1, .int p0), (2, .int p1)]) S.x S.b d_Mpg_declareArray_148 hl (by decide) rfl (fun ls hl => ?_)
          refine lv_iload_n S.x S.b d_Mpg_declareArray_150 rfl (lv_at hl 4 rfl) ?_
          refine lv_if_eq (tgt := 164) S.x S.b d_Mpg_declareArray_151 (by decide) (fun c175 => ?_) (fun c175 => ?_)
          · have nc175 : p1.toInt = (0 : Int) := (i_eq (x := p1) (y := 0)).mp c175
            refine lv_aload_n S.x S.b d_Mpg_declareArray_164 rfl (lv_at hl 2 rfl) ?_
            refine lv_bipush (v := 8) S.x S.b d_Mpg_declareArray_165 (by decide) ?_
            refine lv_aload_n S.x S.b d_Mpg_declareArray_167 rfl (lv_at hl 2 rfl) ?_
            refine px_get S k_Mpg hT hw 0 0 19 (v := .ref (r 19)) rfl rfl rfl (by decide) m10_5 d_Mpg_declareArray_168 ?_
            refine lv_iload_n S.x S.b d_Mpg_declareArray_171 rfl (lv_at hl 3 rfl) ?_
            refine px_iald S hT hw 0 15 (n := 2100) (f := (ma73 19)) rfl gp_19 (x := p0) (vp_in_iff.mpr (by first | exact oz_a7e05de1cd hvr.2.2.1 hvr.2.1 g1 g2 | (constructor <;> omega))) d_Mpg_declareArray_172 ?_
            refine lv_topi (fun z176 ez176 => ?_)
            have lz176 := Int32.le_toInt z176
            have uz176 := Int32.toInt_lt z176
            have ha_z176 : z176 = ma0 19 p0.toNatClampNeg := ez176.trans (Ann.v19 han (by first | with_reducible rfl | with_reducible assumption | omega)); have hn_z176 : z176.toInt = (ma0 19 p0.toNatClampNeg).toInt := (by rw [ha_z176]); have hk3 := hav.k3 (by first | with_reducible rfl | with_reducible assumption | omega); rw [← ha_z176] at hk3
            refine px_callv (pr := []) (px_runV (As := [.int 8, .int z176]) (rest := []) S (c_mp_bad l D cs h r g tf ta pf na ma73 wa ca ef ea xf xa cf142 8 z176  (show 1 ≤ (8 : Int) from by first | decide | omega) (show 0 ≤ z176.toInt from by first | exact oz_f3ebed1ad0 hn_z176 hk3.1 | omega) (show z176.toInt < (tf 6).toInt from by first | exact oz_b0a61accca hk3.2.1 hn_z176 | omega) htk hwr _) hT (pr := []) (pcs := [wdP cs h r g tf ta pf na ma73 wa cf142 ca ef ea xf xa]) hw px_X.tt (px_recv hT hw 0 0 rfl rfl rfl) m12_173 m12_170 m12_172 ms_11_12 m1_21 q_Mpg_bad ⟨show 0 + 1 ≤ (4 * d + 20) from by first | with_reducible rfl | with_reducible assumption | omega, show 8 + (3 + 11) + 0 ≤ (200 * d + 700) from by first | with_reducible rfl | with_reducible assumption | omega⟩ hl.1 rfl (Nat.le_of_ble_eq_true rfl) d_Mpg_declareArray_173 ⟨Nat.le_of_ble_eq_true rfl, Nat.le_of_ble_eq_true rfl⟩) hw hA (fun p179 H locs hp179 hw => ?_)
            obtain ⟨cf178, rfl, e181, e182, e183, e184, e185, e186, e187, e188, e189, e190, e191, e192, e193, e194, e195, e196, e197, e198, e199⟩ := hp179
            have e181 : KpE cf142 cf178 := e181
            have hkz_e181 := e181.2
            have e182 : WrV cf178 (tf 6).toInt := e182
            have hwr := e182
            have hw0_e182 := hwr.1
            have e183 : 1 ≤ (cf178 30).toInt := e183
            have e184 : (cf178 33).toInt = (cf142 33).toInt := e184
            have e185 : (cf178 38).toInt = (cf142 38).toInt := e185
            have e186 : (cf178 48).toInt = (cf142 48).toInt := e186
            have e187 : (cf178 46).toInt = (cf142 46).toInt := e187
            have e188 : (cf178 47).toInt = (cf142 47).toInt := e188
            have e189 : (cf178 57).toInt = (cf142 57).toInt := e189
            have e190 : (cf178 37).toInt = (cf142 37).toInt := e190
            have e191 : (cf178 42).toInt = (cf142 42).toInt := e191
            have e192 : (cf178 43).toInt = (cf142 43).toInt := e192
            have e193 : (cf178 44).toInt = (cf142 44).toInt := e193
            have e194 : (cf178 45).toInt = (cf142 45).toInt := e194
            have e195 : (cf178 54).toInt = (cf142 54).toInt := e195
            have e196 : (cf178 55).toInt = (cf142 55).toInt := e196
            have e197 : (cf178 58).toInt = (cf142 58).toInt := e197
            have e198 : (cf178 59).toInt = (cf142 59).toInt := e198
            have e199 : (cf178 41).toInt = (cf142 41).toInt := e199
            have hw : pw D A s.heap H locs [wdP cs h r g tf ta pf na ma73 wa cf178 ca ef ea xf xa] := hw
            refine lv_aload_n S.x S.b d_Mpg_declareArray_176 rfl (lv_at hl 2 rfl) ?_
            refine lv_iload_n S.x S.b d_Mpg_declareArray_177 rfl (lv_at hl 1 rfl) ?_
            refine lv_if_ge (tgt := 185) S.x S.b d_Mpg_declareArray_178 (by decide) (fun c200 => ?_) (fun c200 => ?_)
            ·
              refine lv_iload_n S.x S.b d_Mpg_declareArray_185 rfl (lv_at hl 1 rfl) ?_
              refine px_put S k_Mpg hT hw 0 0 58 rfl rfl (by decide) m10_55 rfl rfl rfl (Nat.le_of_ble_eq_true rfl) d_Mpg_declareArray_186 (w' := wdP cs h r g tf ta pf na ma73 wa (upd cf178 58 4096) ca ef ea xf xa) (ps' := [wdP cs h r g tf ta pf na ma73 wa (upd cf178 58 4096) ca ef ea xf xa]) rfl rfl (fun H locs hw => ?_)
              refine lv_iload_n S.x S.b d_Mpg_declareArray_189 rfl (lv_at hl 4 rfl) ?_
              refine lv_if_eq (tgt := 204) S.x S.b d_Mpg_declareArray_190 (by decide) (fun c201 => ?_) (fun c201 => ?_)
              · have nc201 : p1.toInt = (0 : Int) := (i_eq (x := p1) (y := 0)).mp c201
                refine lv_aload_n S.x S.b d_Mpg_declareArray_204 rfl (lv_at hl 2 rfl) ?_
                refine px_get S k_Mpg hT hw 0 0 58 (v := .int 4096) rfl rfl rfl (by decide) m10_55 d_Mpg_declareArray_205 ?_
                exact px_iret (v := 4096) S hr rfl hlk hAe hw (Nat.le_of_ble_eq_true rfl) (Nat.le_of_ble_eq_true rfl) (⟨ma73, (upd cf178 58 4096), rfl, (show (cf178 30).toInt = 0 → (cf 30).toInt = 0 from by first | with_reducible rfl | with_reducible assumption | omega), (show WrV (upd cf178 58 4096) (tf 6).toInt from (WrV.u hwr (by decide) (by decide))), (show (cf178 33).toInt = (cf 33).toInt from by first | exact oz_e13fc83238 e79 e184 e148 | omega), (show (cf178 37).toInt = (cf 37).toInt from by first | exact oz_e13fc83238 hkk37_e77 e190 e154 | omega), (show (cf178 38).toInt = (cf 38).toInt from by first | exact oz_e13fc83238 e80 e185 e149 | omega), (show (cf178 41).toInt = (cf 41).toInt from by first | exact oz_e13fc83238 hkk41_e77 e199 e163 | omega), (show (cf178 42).toInt = (cf 42).toInt from by first | exact oz_e13fc83238 hkk42_e77 e191 e155 | omega), (show (cf178 43).toInt = (cf 43).toInt from by first | exact oz_e13fc83238 hkk43_e77 e192 e156 | omega), (show (cf178 44).toInt = (cf 44).toInt from by first | exact oz_e13fc83238 hkk44_e77 e193 e157 | omega), (show (cf178 45).toInt = (cf 45).toInt from by first | exact oz_e13fc83238 hkk45_e77 e194 e158 | omega), (show (cf178 46).toInt = (cf 46).toInt from by first | exact oz_e13fc83238 e82 e187 e151 | omega), (show (cf178 47).toInt = (cf 47).toInt from by first | exact oz_e13fc83238 e83 e188 e152 | omega), (show (cf178 48).toInt = (cf 48).toInt from by first | exact oz_e13fc83238 e81 e186 e150 | omega), (show (cf178 54).toInt = (cf 54).toInt from by first | exact oz_e13fc83238 hkk54_e77 e195 e159 | omega), (show (cf178 55).toInt = (cf 55).toInt from by first | exact oz_e13fc83238 hkk55_e77 e196 e160 | omega), (show (cf178 59).toInt = (cf 59).toInt from by first | exact oz_e13fc83238 hkk59_e77 e198 e162 | omega), (show Ann na ma0 ma73 from han), (show FrC lo hi ma ma73 from hfc), (show 0 ≤ (4096 : Int) from by first | decide | omega), (show (4096 : Int) ≤ 4096 from by first | decide | omega), (show 0 ≤ (4096 : Int) from by first | decide | omega), (show (4096 : Int) ≤ 4096 from by first | decide | omega), (show (4096 : Int) ≤ 4 * (4096 : Int) from by first | decide | omega), (show ZAv (upd cf178 58 4096) ta na ma73 p0 (4096 : Int) from (zr_no (by first | omega | (show 1 ≤ _; rw [pk_un (by decide)]; omega))))⟩) d_Mpg_declareArray_208
              · have nc201 : ¬ p1.toInt = (0 : Int) := mt (i_eq (x := p1) (y := 0)).mpr c201
                refine lv_aload_n S.x S.b d_Mpg_declareArray_193 rfl (lv_at hl 2 rfl) ?_
                refine px_get S k_Mpg hT hw 0 0 58 (v := .int 4096) rfl rfl rfl (by decide) m10_55 d_Mpg_declareArray_194 ?_
                refine lv_iconst (v := 3) S.x S.b d_Mpg_declareArray_197 (by decide) ?_
                refine lv_iadd S.x S.b d_Mpg_declareArray_198 ?_
                refine lv_topi (fun z202 ez202 => ?_)
                have tz202 : z202.toInt = ((4096 : Int) + (3 : Int) + 2147483648) % 4294967296 - 2147483648 := by rw [ez202]; exact i_add 4096 3
                have lz202 := Int32.le_toInt z202
                have uz202 := Int32.toInt_lt z202
                try replace tz202 : z202.toInt = (4096 : Int) + (3 : Int) := by omega
                refine lv_iconst (v := 4) S.x S.b d_Mpg_declareArray_199 (by decide) ?_
                refine lv_idiv S.x S.b d_Mpg_declareArray_200 (fun hz0 => by have hz1 := i_eq.mp hz0; omega) ?_
                refine lv_topi (fun z203 ez203 => ?_)
                have lz203 := Int32.le_toInt z203
                have uz203 := Int32.toInt_lt z203
                have hd4 := i_div4 ez203 (by first | with_reducible rfl | with_reducible assumption | omega)
                refine lv_goto (tgt := 208) S.x S.b d_Mpg_declareArray_201 (by decide) ?_
                exact px_iret (v := z203) S hr rfl hlk hAe hw (Nat.le_of_ble_eq_true rfl) (Nat.le_of_ble_eq_true rfl) (⟨ma73, (upd cf178 58 4096), rfl, (show (cf178 30).toInt = 0 → (cf 30).toInt = 0 from by first | with_reducible rfl | with_reducible assumption | omega), (show WrV (upd cf178 58 4096) (tf 6).toInt from (WrV.u hwr (by decide) (by decide))), (show (cf178 33).toInt = (cf 33).toInt from by first | exact oz_e13fc83238 e79 e184 e148 | omega), (show (cf178 37).toInt = (cf 37).toInt from by first | exact oz_e13fc83238 hkk37_e77 e190 e154 | omega), (show (cf178 38).toInt = (cf 38).toInt from by first | exact oz_e13fc83238 e80 e185 e149 | omega), (show (cf178 41).toInt = (cf 41).toInt from by first | exact oz_e13fc83238 hkk41_e77 e199 e163 | omega), (show (cf178 42).toInt = (cf 42).toInt from by first | exact oz_e13fc83238 hkk42_e77 e191 e155 | omega), (show (cf178 43).toInt = (cf 43).toInt from by first | exact oz_e13fc83238 hkk43_e77 e192 e156 | omega), (show (cf178 44).toInt = (cf 44).toInt from by first | exact oz_e13fc83238 hkk44_e77 e193 e157 | omega), (show (cf178 45).toInt = (cf 45).toInt from by first | exact oz_e13fc83238 hkk45_e77 e194 e158 | omega), (show (cf178 46).toInt = (cf 46).toInt from by first | exact oz_e13fc83238 e82 e187 e151 | omega), (show (cf178 47).toInt = (cf 47).toInt from by first | exact oz_e13fc83238 e83 e188 e152 | omega), (show (cf178 48).toInt = (cf 48).toInt from by first | exact oz_e13fc83238 e81 e186 e150 | omega), (show (cf178 54).toInt = (cf 54).toInt from by first | exact oz_e13fc83238 hkk54_e77 e195 e159 | omega), (show (cf178 55).toInt = (cf 55).toInt from by first | exact oz_e13fc83238 hkk55_e77 e196 e160 | omega), (show (cf178 59).toInt = (cf 59).toInt from by first | exact oz_e13fc83238 hkk59_e77 e198 e162 | omega), (show Ann na ma0 ma73 from han), (show FrC lo hi ma ma73 from hfc), (show 0 ≤ (4096 : Int) from by first | decide | omega), (show (4096 : Int) ≤ 4096 from by first | decide | omega), (show 0 ≤ z203.toInt from by first | with_reducible rfl | with_reducible assumption | omega), (show z203.toInt ≤ 4096 from by first | with_reducible rfl | with_reducible assumption | omega), (show (4096 : Int) ≤ 4 * z203.toInt from by first | with_reducible rfl | with_reducible assumption | omega), (show ZAv (upd cf178 58 4096) ta na ma73 p0 (4096 : Int) from (zr_no (by first | omega | (show 1 ≤ _; rw [pk_un (by decide)]; omega))))⟩) d_Mpg_declareArray_208
            · exact absurd c200 (by decide)
          · have nc175 : ¬ p1.toInt = (0 : Int) := mt (i_eq (x := p1) (y := 0)).mpr c175
            refine lv_iload_n S.x S.b d_Mpg_declareArray_154 rfl (lv_at hl 1 rfl) ?_
            refine lv_if_lt (tgt := 176) S.x S.b d_Mpg_declareArray_155 (by decide) (fun c204 => ?_) (fun c204 => ?_)
            · exact absurd c204 (by decide)
            ·
              refine lv_iload S.x S.b d_Mpg_declareArray_158 (lv_at hl 0 rfl) ?_
              refine lv_iload_n S.x S.b d_Mpg_declareArray_160 rfl (lv_at hl 1 rfl) ?_
              refine lv_icmp_le (tgt := 176) S.x S.b d_Mpg_declareArray_161 (by decide) (fun c205 => ?_) (fun c205 => ?_)
              · have nc205 : z174.toInt ≤ (4096 : Int) := (i_le (x := z174) (y := 4096)).mp c205
                refine lv_aload_n S.x S.b d_Mpg_declareArray_176 rfl (lv_at hl 2 rfl) ?_
                refine lv_iload_n S.x S.b d_Mpg_declareArray_177 rfl (lv_at hl 1 rfl) ?_
                refine lv_if_ge (tgt := 185) S.x S.b d_Mpg_declareArray_178 (by decide) (fun c206 => ?_) (fun c206 => ?_)
                ·
                  refine lv_iload_n S.x S.b d_Mpg_declareArray_185 rfl (lv_at hl 1 rfl) ?_
                  refine px_put S k_Mpg hT hw 0 0 58 rfl rfl (by decide) m10_55 rfl rfl rfl (Nat.le_of_ble_eq_true rfl) d_Mpg_declareArray_186 (w' := wdP cs h r g tf ta pf na ma73 wa (upd cf142 58 4096) ca ef ea xf xa) (ps' := [wdP cs h r g tf ta pf na ma73 wa (upd cf142 58 4096) ca ef ea xf xa]) rfl rfl (fun H locs hw => ?_)
                  refine lv_iload_n S.x S.b d_Mpg_declareArray_189 rfl (lv_at hl 4 rfl) ?_
                  refine lv_if_eq (tgt := 204) S.x S.b d_Mpg_declareArray_190 (by decide) (fun c207 => ?_) (fun c207 => ?_)
                  · have nc207 : p1.toInt = (0 : Int) := (i_eq (x := p1) (y := 0)).mp c207
                    refine lv_aload_n S.x S.b d_Mpg_declareArray_204 rfl (lv_at hl 2 rfl) ?_
                    refine px_get S k_Mpg hT hw 0 0 58 (v := .int 4096) rfl rfl rfl (by decide) m10_55 d_Mpg_declareArray_205 ?_
                    exact px_iret (v := 4096) S hr rfl hlk hAe hw (Nat.le_of_ble_eq_true rfl) (Nat.le_of_ble_eq_true rfl) (⟨ma73, (upd cf142 58 4096), rfl, (show (cf142 30).toInt = 0 → (cf 30).toInt = 0 from by first | with_reducible rfl | with_reducible assumption | omega), (show WrV (upd cf142 58 4096) (tf 6).toInt from (WrV.u hwr (by decide) (by decide))), (show (cf142 33).toInt = (cf 33).toInt from by first | exact oz_1687f4cc65 e79 e148 | omega), (show (cf142 37).toInt = (cf 37).toInt from by first | exact oz_1687f4cc65 hkk37_e77 e154 | omega), (show (cf142 38).toInt = (cf 38).toInt from by first | exact oz_1687f4cc65 e80 e149 | omega), (show (cf142 41).toInt = (cf 41).toInt from by first | exact oz_1687f4cc65 hkk41_e77 e163 | omega), (show (cf142 42).toInt = (cf 42).toInt from by first | exact oz_1687f4cc65 hkk42_e77 e155 | omega), (show (cf142 43).toInt = (cf 43).toInt from by first | exact oz_1687f4cc65 hkk43_e77 e156 | omega), (show (cf142 44).toInt = (cf 44).toInt from by first | exact oz_1687f4cc65 hkk44_e77 e157 | omega), (show (cf142 45).toInt = (cf 45).toInt from by first | exact oz_1687f4cc65 hkk45_e77 e158 | omega), (show (cf142 46).toInt = (cf 46).toInt from by first | exact oz_1687f4cc65 e82 e151 | omega), (show (cf142 47).toInt = (cf 47).toInt from by first | exact oz_1687f4cc65 e83 e152 | omega), (show (cf142 48).toInt = (cf 48).toInt from by first | exact oz_1687f4cc65 e81 e150 | omega), (show (cf142 54).toInt = (cf 54).toInt from by first | exact oz_1687f4cc65 hkk54_e77 e159 | omega), (show (cf142 55).toInt = (cf 55).toInt from by first | exact oz_1687f4cc65 hkk55_e77 e160 | omega), (show (cf142 59).toInt = (cf 59).toInt from by first | exact oz_1687f4cc65 hkk59_e77 e162 | omega), (show Ann na ma0 ma73 from han), (show FrC lo hi ma ma73 from hfc), (show 0 ≤ (4096 : Int) from by first | decide | omega), (show (4096 : Int) ≤ 4096 from by first | decide | omega), (show 0 ≤ (4096 : Int) from by first | decide | omega), (show (4096 : Int) ≤ 4096 from by first | decide | omega), (show (4096 : Int) ≤ 4 * (4096 : Int) from by first | decide | omega), (show ZAv (upd cf142 58 4096) ta na ma73 p0 (4096 : Int) from (zr_no (by first | omega | (show 1 ≤ _; rw [pk_un (by decide)]; omega))))⟩) d_Mpg_declareArray_208
                  · have nc207 : ¬ p1.toInt = (0 : Int) := mt (i_eq (x := p1) (y := 0)).mpr c207
                    refine lv_aload_n S.x S.b d_Mpg_declareArray_193 rfl (lv_at hl 2 rfl) ?_
                    refine px_get S k_Mpg hT hw 0 0 58 (v := .int 4096) rfl rfl rfl (by decide) m10_55 d_Mpg_declareArray_194 ?_
                    refine lv_iconst (v := 3) S.x S.b d_Mpg_declareArray_197 (by decide) ?_
                    refine lv_iadd S.x S.b d_Mpg_declareArray_198 ?_
                    refine lv_topi (fun z208 ez208 => ?_)
                    have tz208 : z208.toInt = ((4096 : Int) + (3 : Int) + 2147483648) % 4294967296 - 2147483648 := by rw [ez208]; exact i_add 4096 3
                    have lz208 := Int32.le_toInt z208
                    have uz208 := Int32.toInt_lt z208
                    try replace tz208 : z208.toInt = (4096 : Int) + (3 : Int) := by omega
                    refine lv_iconst (v := 4) S.x S.b d_Mpg_declareArray_199 (by decide) ?_
                    refine lv_idiv S.x S.b d_Mpg_declareArray_200 (fun hz0 => by have hz1 := i_eq.mp hz0; omega) ?_
                    refine lv_topi (fun z209 ez209 => ?_)
                    have lz209 := Int32.le_toInt z209
                    have uz209 := Int32.toInt_lt z209
                    have hd4 := i_div4 ez209 (by first | with_reducible rfl | with_reducible assumption | omega)
                    refine lv_goto (tgt := 208) S.x S.b d_Mpg_declareArray_201 (by decide) ?_
                    exact px_iret (v := z209) S hr rfl hlk hAe hw (Nat.le_of_ble_eq_true rfl) (Nat.le_of_ble_eq_true rfl) (⟨ma73, (upd cf142 58 4096), rfl, (show (cf142 30).toInt = 0 → (cf 30).toInt = 0 from by first | with_reducible rfl | with_reducible assumption | omega), (show WrV (upd cf142 58 4096) (tf 6).toInt from (WrV.u hwr (by decide) (by decide))), (show (cf142 33).toInt = (cf 33).toInt from by first | exact oz_1687f4cc65 e79 e148 | omega), (show (cf142 37).toInt = (cf 37).toInt from by first | exact oz_1687f4cc65 hkk37_e77 e154 | omega), (show (cf142 38).toInt = (cf 38).toInt from by first | exact oz_1687f4cc65 e80 e149 | omega), (show (cf142 41).toInt = (cf 41).toInt from by first | exact oz_1687f4cc65 hkk41_e77 e163 | omega), (show (cf142 42).toInt = (cf 42).toInt from by first | exact oz_1687f4cc65 hkk42_e77 e155 | omega), (show (cf142 43).toInt = (cf 43).toInt from by first | exact oz_1687f4cc65 hkk43_e77 e156 | omega), (show (cf142 44).toInt = (cf 44).toInt from by first | exact oz_1687f4cc65 hkk44_e77 e157 | omega), (show (cf142 45).toInt = (cf 45).toInt from by first | exact oz_1687f4cc65 hkk45_e77 e158 | omega), (show (cf142 46).toInt = (cf 46).toInt from by first | exact oz_1687f4cc65 e82 e151 | omega), (show (cf142 47).toInt = (cf 47).toInt from by first | exact oz_1687f4cc65 e83 e152 | omega), (show (cf142 48).toInt = (cf 48).toInt from by first | exact oz_1687f4cc65 e81 e150 | omega), (show (cf142 54).toInt = (cf 54).toInt from by first | exact oz_1687f4cc65 hkk54_e77 e159 | omega), (show (cf142 55).toInt = (cf 55).toInt from by first | exact oz_1687f4cc65 hkk55_e77 e160 | omega), (show (cf142 59).toInt = (cf 59).toInt from by first | exact oz_1687f4cc65 hkk59_e77 e162 | omega), (show Ann na ma0 ma73 from han), (show FrC lo hi ma ma73 from hfc), (show 0 ≤ (4096 : Int) from by first | decide | omega), (show (4096 : Int) ≤ 4096 from by first | decide | omega), (show 0 ≤ z209.toInt from by first | with_reducible rfl | with_reducible assumption | omega), (show z209.toInt ≤ 4096 from by first | with_reducible rfl | with_reducible assumption | omega), (show (4096 : Int) ≤ 4 * z209.toInt from by first | with_reducible rfl | with_reducible assumption | omega), (show ZAv (upd cf142 58 4096) ta na ma73 p0 (4096 : Int) from (zr_no (by first | omega | (show 1 ≤ _; rw [pk_un (by decide)]; omega))))⟩) d_Mpg_declareArray_208
                · exact absurd c206 (by decide)
              · have nc205 : ¬ z174.toInt ≤ (4096 : Int) := mt (i_le (x := z174) (y := 4096)).mpr c205
                refine lv_aload_n S.x S.b d_Mpg_declareArray_164 rfl (lv_at hl 2 rfl) ?_
                refine lv_bipush (v := 8) S.x S.b d_Mpg_declareArray_165 (by decide) ?_
                refine lv_aload_n S.x S.b d_Mpg_declareArray_167 rfl (lv_at hl 2 rfl) ?_
                refine px_get S k_Mpg hT hw 0 0 19 (v := .ref (r 19)) rfl rfl rfl (by decide) m10_5 d_Mpg_declareArray_168 ?_
                refine lv_iload_n S.x S.b d_Mpg_declareArray_171 rfl (lv_at hl 3 rfl) ?_
                refine px_iald S hT hw 0 15 (n := 2100) (f := (ma73 19)) rfl gp_19 (x := p0) (vp_in_iff.mpr (by first | exact oz_a7e05de1cd hvr.2.2.1 hvr.2.1 g1 g2 | (constructor <;> omega))) d_Mpg_declareArray_172 ?_
                refine lv_topi (fun z210 ez210 => ?_)
                have lz210 := Int32.le_toInt z210
                have uz210 := Int32.toInt_lt z210
                have ha_z210 : z210 = ma0 19 p0.toNatClampNeg := ez210.trans (Ann.v19 han (by first | with_reducible rfl | with_reducible assumption | omega)); have hn_z210 : z210.toInt = (ma0 19 p0.toNatClampNeg).toInt := (by rw [ha_z210]); have hk3 := hav.k3 (by first | with_reducible rfl | with_reducible assumption | omega); rw [← ha_z210] at hk3
                refine px_callv (pr := []) (px_runV (As := [.int 8, .int z210]) (rest := []) S (c_mp_bad l D cs h r g tf ta pf na ma73 wa ca ef ea xf xa cf142 8 z210  (show 1 ≤ (8 : Int) from by first | decide | omega) (show 0 ≤ z210.toInt from by first | exact oz_f3ebed1ad0 hn_z210 hk3.1 | omega) (show z210.toInt < (tf 6).toInt from by first | exact oz_b0a61accca hk3.2.1 hn_z210 | omega) htk hwr _) hT (pr := []) (pcs := [wdP cs h r g tf ta pf na ma73 wa cf142 ca ef ea xf xa]) hw px_X.tt (px_recv hT hw 0 0 rfl rfl rfl) m12_173 m12_170 m12_172 ms_11_12 m1_21 q_Mpg_bad ⟨show 0 + 1 ≤ (4 * d + 20) from by first | with_reducible rfl | with_reducible assumption | omega, show 8 + (3 + 11) + 0 ≤ (200 * d + 700) from by first | with_reducible rfl | with_reducible assumption | omega⟩ hl.1 rfl (Nat.le_of_ble_eq_true rfl) d_Mpg_declareArray_173 ⟨Nat.le_of_ble_eq_true rfl, Nat.le_of_ble_eq_true rfl⟩) hw hA (fun p213 H locs hp213 hw => ?_)
                obtain ⟨cf212, rfl, e215, e216, e217, e218, e219, e220, e221, e222, e223, e224, e225, e226, e227, e228, e229, e230, e231, e232, e233⟩ := hp213
                have e215 : KpE cf142 cf212 := e215
                have hkz_e215 := e215.2
                have e216 : WrV cf212 (tf 6).toInt := e216
                have hwr := e216
                have hw0_e216 := hwr.1
                have e217 : 1 ≤ (cf212 30).toInt := e217
                have e218 : (cf212 33).toInt = (cf142 33).toInt := e218
                have e219 : (cf212 38).toInt = (cf142 38).toInt := e219
                have e220 : (cf212 48).toInt = (cf142 48).toInt := e220
                have e221 : (cf212 46).toInt = (cf142 46).toInt := e221
                have e222 : (cf212 47).toInt = (cf142 47).toInt := e222
                have e223 : (cf212 57).toInt = (cf142 57).toInt := e223
                have e224 : (cf212 37).toInt = (cf142 37).toInt := e224
                have e225 : (cf212 42).toInt = (cf142 42).toInt := e225
                have e226 : (cf212 43).toInt = (cf142 43).toInt := e226
                have e227 : (cf212 44).toInt = (cf142 44).toInt := e227
                have e228 : (cf212 45).toInt = (cf142 45).toInt := e228
                have e229 : (cf212 54).toInt = (cf142 54).toInt := e229
                have e230 : (cf212 55).toInt = (cf142 55).toInt := e230
                have e231 : (cf212 58).toInt = (cf142 58).toInt := e231
                have e232 : (cf212 59).toInt = (cf142 59).toInt := e232
                have e233 : (cf212 41).toInt = (cf142 41).toInt := e233
                have hw : pw D A s.heap H locs [wdP cs h r g tf ta pf na ma73 wa cf212 ca ef ea xf xa] := hw
                refine lv_aload_n S.x S.b d_Mpg_declareArray_176 rfl (lv_at hl 2 rfl) ?_
                refine lv_iload_n S.x S.b d_Mpg_declareArray_177 rfl (lv_at hl 1 rfl) ?_
                refine lv_if_ge (tgt := 185) S.x S.b d_Mpg_declareArray_178 (by decide) (fun c234 => ?_) (fun c234 => ?_)
                ·
                  refine lv_iload_n S.x S.b d_Mpg_declareArray_185 rfl (lv_at hl 1 rfl) ?_
                  refine px_put S k_Mpg hT hw 0 0 58 rfl rfl (by decide) m10_55 rfl rfl rfl (Nat.le_of_ble_eq_true rfl) d_Mpg_declareArray_186 (w' := wdP cs h r g tf ta pf na ma73 wa (upd cf212 58 4096) ca ef ea xf xa) (ps' := [wdP cs h r g tf ta pf na ma73 wa (upd cf212 58 4096) ca ef ea xf xa]) rfl rfl (fun H locs hw => ?_)
                  refine lv_iload_n S.x S.b d_Mpg_declareArray_189 rfl (lv_at hl 4 rfl) ?_
                  refine lv_if_eq (tgt := 204) S.x S.b d_Mpg_declareArray_190 (by decide) (fun c235 => ?_) (fun c235 => ?_)
                  · have nc235 : p1.toInt = (0 : Int) := (i_eq (x := p1) (y := 0)).mp c235
                    refine lv_aload_n S.x S.b d_Mpg_declareArray_204 rfl (lv_at hl 2 rfl) ?_
                    refine px_get S k_Mpg hT hw 0 0 58 (v := .int 4096) rfl rfl rfl (by decide) m10_55 d_Mpg_declareArray_205 ?_
                    exact px_iret (v := 4096) S hr rfl hlk hAe hw (Nat.le_of_ble_eq_true rfl) (Nat.le_of_ble_eq_true rfl) (⟨ma73, (upd cf212 58 4096), rfl, (show (cf212 30).toInt = 0 → (cf 30).toInt = 0 from by first | with_reducible rfl | with_reducible assumption | omega), (show WrV (upd cf212 58 4096) (tf 6).toInt from (WrV.u hwr (by decide) (by decide))), (show (cf212 33).toInt = (cf 33).toInt from by first | exact oz_e13fc83238 e79 e218 e148 | omega), (show (cf212 37).toInt = (cf 37).toInt from by first | exact oz_e13fc83238 hkk37_e77 e224 e154 | omega), (show (cf212 38).toInt = (cf 38).toInt from by first | exact oz_e13fc83238 e80 e219 e149 | omega), (show (cf212 41).toInt = (cf 41).toInt from by first | exact oz_e13fc83238 hkk41_e77 e233 e163 | omega), (show (cf212 42).toInt = (cf 42).toInt from by first | exact oz_e13fc83238 hkk42_e77 e225 e155 | omega), (show (cf212 43).toInt = (cf 43).toInt from by first | exact oz_e13fc83238 hkk43_e77 e226 e156 | omega), (show (cf212 44).toInt = (cf 44).toInt from by first | exact oz_e13fc83238 hkk44_e77 e227 e157 | omega), (show (cf212 45).toInt = (cf 45).toInt from by first | exact oz_e13fc83238 hkk45_e77 e228 e158 | omega), (show (cf212 46).toInt = (cf 46).toInt from by first | exact oz_e13fc83238 e82 e221 e151 | omega), (show (cf212 47).toInt = (cf 47).toInt from by first | exact oz_e13fc83238 e83 e222 e152 | omega), (show (cf212 48).toInt = (cf 48).toInt from by first | exact oz_e13fc83238 e81 e220 e150 | omega), (show (cf212 54).toInt = (cf 54).toInt from by first | exact oz_e13fc83238 hkk54_e77 e229 e159 | omega), (show (cf212 55).toInt = (cf 55).toInt from by first | exact oz_e13fc83238 hkk55_e77 e230 e160 | omega), (show (cf212 59).toInt = (cf 59).toInt from by first | exact oz_e13fc83238 hkk59_e77 e232 e162 | omega), (show Ann na ma0 ma73 from han), (show FrC lo hi ma ma73 from hfc), (show 0 ≤ (4096 : Int) from by first | decide | omega), (show (4096 : Int) ≤ 4096 from by first | decide | omega), (show 0 ≤ (4096 : Int) from by first | decide | omega), (show (4096 : Int) ≤ 4096 from by first | decide | omega), (show (4096 : Int) ≤ 4 * (4096 : Int) from by first | decide | omega), (show ZAv (upd cf212 58 4096) ta na ma73 p0 (4096 : Int) from (zr_no (by first | omega | (show 1 ≤ _; rw [pk_un (by decide)]; omega))))⟩) d_Mpg_declareArray_208
                  · have nc235 : ¬ p1.toInt = (0 : Int) := mt (i_eq (x := p1) (y := 0)).mpr c235
                    refine lv_aload_n S.x S.b d_Mpg_declareArray_193 rfl (lv_at hl 2 rfl) ?_
                    refine px_get S k_Mpg hT hw 0 0 58 (v := .int 4096) rfl rfl rfl (by decide) m10_55 d_Mpg_declareArray_194 ?_
                    refine lv_iconst (v := 3) S.x S.b d_Mpg_declareArray_197 (by decide) ?_
                    refine lv_iadd S.x S.b d_Mpg_declareArray_198 ?_
                    refine lv_topi (fun z236 ez236 => ?_)
                    have tz236 : z236.toInt = ((4096 : Int) + (3 : Int) + 2147483648) % 4294967296 - 2147483648 := by rw [ez236]; exact i_add 4096 3
                    have lz236 := Int32.le_toInt z236
                    have uz236 := Int32.toInt_lt z236
                    try replace tz236 : z236.toInt = (4096 : Int) + (3 : Int) := by omega
                    refine lv_iconst (v := 4) S.x S.b d_Mpg_declareArray_199 (by decide) ?_
                    refine lv_idiv S.x S.b d_Mpg_declareArray_200 (fun hz0 => by have hz1 := i_eq.mp hz0; omega) ?_
                    refine lv_topi (fun z237 ez237 => ?_)
                    have lz237 := Int32.le_toInt z237
                    have uz237 := Int32.toInt_lt z237
                    have hd4 := i_div4 ez237 (by first | with_reducible rfl | with_reducible assumption | omega)
                    refine lv_goto (tgt := 208) S.x S.b d_Mpg_declareArray_201 (by decide) ?_
                    exact px_iret (v := z237) S hr rfl hlk hAe hw (Nat.le_of_ble_eq_true rfl) (Nat.le_of_ble_eq_true rfl) (⟨ma73, (upd cf212 58 4096), rfl, (show (cf212 30).toInt = 0 → (cf 30).toInt = 0 from by first | with_reducible rfl | with_reducible assumption | omega), (show WrV (upd cf212 58 4096) (tf 6).toInt from (WrV.u hwr (by decide) (by decide))), (show (cf212 33).toInt = (cf 33).toInt from by first | exact oz_e13fc83238 e79 e218 e148 | omega), (show (cf212 37).toInt = (cf 37).toInt from by first | exact oz_e13fc83238 hkk37_e77 e224 e154 | omega), (show (cf212 38).toInt = (cf 38).toInt from by first | exact oz_e13fc83238 e80 e219 e149 | omega), (show (cf212 41).toInt = (cf 41).toInt from by first | exact oz_e13fc83238 hkk41_e77 e233 e163 | omega), (show (cf212 42).toInt = (cf 42).toInt from by first | exact oz_e13fc83238 hkk42_e77 e225 e155 | omega), (show (cf212 43).toInt = (cf 43).toInt from by first | exact oz_e13fc83238 hkk43_e77 e226 e156 | omega), (show (cf212 44).toInt = (cf 44).toInt from by first | exact oz_e13fc83238 hkk44_e77 e227 e157 | omega), (show (cf212 45).toInt = (cf 45).toInt from by first | exact oz_e13fc83238 hkk45_e77 e228 e158 | omega), (show (cf212 46).toInt = (cf 46).toInt from by first | exact oz_e13fc83238 e82 e221 e151 | omega), (show (cf212 47).toInt = (cf 47).toInt from by first | exact oz_e13fc83238 e83 e222 e152 | omega), (show (cf212 48).toInt = (cf 48).toInt from by first | exact oz_e13fc83238 e81 e220 e150 | omega), (show (cf212 54).toInt = (cf 54).toInt from by first | exact oz_e13fc83238 hkk54_e77 e229 e159 | omega), (show (cf212 55).toInt = (cf 55).toInt from by first | exact oz_e13fc83238 hkk55_e77 e230 e160 | omega), (show (cf212 59).toInt = (cf 59).toInt from by first | exact oz_e13fc83238 hkk59_e77 e232 e162 | omega), (show Ann na ma0 ma73 from han), (show FrC lo hi ma ma73 from hfc), (show 0 ≤ (4096 : Int) from by first | decide | omega), (show (4096 : Int) ≤ 4096 from by first | decide | omega), (show 0 ≤ z237.toInt from by first | with_reducible rfl | with_reducible assumption | omega), (show z237.toInt ≤ 4096 from by first | with_reducible rfl | with_reducible assumption | omega), (show (4096 : Int) ≤ 4 * z237.toInt from by first | with_reducible rfl | with_reducible assumption | omega), (show ZAv (upd cf212 58 4096) ta na ma73 p0 (4096 : Int) from (zr_no (by first | omega | (show 1 ≤ _; rw [pk_un (by decide)]; omega))))⟩) d_Mpg_declareArray_208
                · exact absurd c234 (by decide)
      · have nc165 : z164.toInt = (2 : Int) := (i_eq (x := z164) (y := 2)).mp c165
        refine lv_iconst (v := 0) S.x S.b d_Mpg_declareArray_62 (by decide) ?_
        refine lv_istore (lv' := [(4, .int 0), (3, .int 4096), (0, .ref h), (1, .int p0), (2, .int p1)]) S.x S.b d_Mpg_declareArray_63 hl (by decide) rfl (fun ls hl => ?_)
        refine lv_aload_n S.x S.b d_Mpg_declareArray_65 rfl (lv_at hl 2 rfl) ?_
        refine px_get S k_Mpg hT hw 0 0 18 (v := .ref (r 18)) rfl rfl rfl (by decide) m10_3 d_Mpg_declareArray_66 ?_
        refine lv_iload_n S.x S.b d_Mpg_declareArray_69 rfl (lv_at hl 3 rfl) ?_
        refine px_iald S hT hw 0 14 (n := 2100) (f := (ma73 18)) rfl gp_18 (x := p0) (vp_in_iff.mpr (by first | exact oz_a7e05de1cd hvr.2.2.1 hvr.2.1 g1 g2 | (constructor <;> omega))) d_Mpg_declareArray_70 ?_
        refine lv_topi (fun z238 ez238 => ?_)
        have lz238 := Int32.le_toInt z238
        have uz238 := Int32.toInt_lt z238
        obtain ⟨⟨wr, hrv, hwr9⟩, h19a, h19b⟩ := hav.k2 (by first | with_reducible rfl | with_reducible assumption | omega); have ha_z238 : z238 = ma0 18 p0.toNatClampNeg := ez238.trans (Ann.v18 han (by first | with_reducible rfl | with_reducible assumption | omega))
        refine lv_istore (lv' := [(5, .int z238), (4, .int 0), (3, .int 4096), (0, .ref h), (1, .int p0), (2, .int p1)]) S.x S.b d_Mpg_declareArray_71 hl (by decide) rfl (fun ls hl => ?_)
        exact J73 ((hi - m1).toNat + 1) ma73 cf142 m1 wr (4096 : Int32) (0 : Int32) z238 _ _ ls (show (cf142 30).toInt = 0 → (cf 30).toInt = 0 from by first | with_reducible rfl | with_reducible assumption | omega) (show WrV cf142 (tf 6).toInt from hwr) (show (cf142 33).toInt = (cf 33).toInt from by first | exact oz_1687f4cc65 e79 e148 | omega) (show (cf142 37).toInt = (cf 37).toInt from by first | exact oz_1687f4cc65 hkk37_e77 e154 | omega) (show (cf142 38).toInt = (cf 38).toInt from by first | exact oz_1687f4cc65 e80 e149 | omega) (show (cf142 41).toInt = (cf 41).toInt from by first | exact oz_1687f4cc65 hkk41_e77 e163 | omega) (show (cf142 42).toInt = (cf 42).toInt from by first | exact oz_1687f4cc65 hkk42_e77 e155 | omega) (show (cf142 43).toInt = (cf 43).toInt from by first | exact oz_1687f4cc65 hkk43_e77 e156 | omega) (show (cf142 44).toInt = (cf 44).toInt from by first | exact oz_1687f4cc65 hkk44_e77 e157 | omega) (show (cf142 45).toInt = (cf 45).toInt from by first | exact oz_1687f4cc65 hkk45_e77 e158 | omega) (show (cf142 46).toInt = (cf 46).toInt from by first | exact oz_1687f4cc65 e82 e151 | omega) (show (cf142 47).toInt = (cf 47).toInt from by first | exact oz_1687f4cc65 e83 e152 | omega) (show (cf142 48).toInt = (cf 48).toInt from by first | exact oz_1687f4cc65 e81 e150 | omega) (show (cf142 54).toInt = (cf 54).toInt from by first | exact oz_1687f4cc65 hkk54_e77 e159 | omega) (show (cf142 55).toInt = (cf 55).toInt from by first | exact oz_1687f4cc65 hkk55_e77 e160 | omega) (show (cf142 59).toInt = (cf 59).toInt from by first | exact oz_1687f4cc65 hkk59_e77 e162 | omega) (show Ann na ma0 ma73 from han) (show FrC lo hi ma ma73 from hfc) (show -1 ≤ (4096 : Int) from by first | decide | omega) (show (4096 : Int) ≤ 4096 from by first | decide | omega) (show (4096 : Int) = -1 → 1 ≤ (cf142 30).toInt from by first | with_reducible rfl | with_reducible assumption | omega) (show 0 ≤ (0 : Int) from by first | decide | omega) (show (0 : Int) + m1 ≤ m1 from by first | exact oz_05158eb67a | omega) (show m1 ≤ m1 from by first | exact oz_1cb5f934a5 | omega) (show m1 ≤ hi from by first | exact hm2 | omega) (show (ma0 22 p0.toNatClampNeg).toInt = 2 from by first | exact oz_70422203cd rz164 nc165 | omega) (show RvI ta (tf 6).toInt na ma0 d m1 hi wr z238 from (by rw [ha_z238]; exact hrv)) (show RlC na (ma0 18 p0.toNatClampNeg) z238 (0 : Int) from (by rw [ha_z238]; exact rlc_0)) (show hi - m1 < ((((hi - m1).toNat + 1 : Nat) : Int) : Int) from by first | exact oz_natlt | omega) hw (lv_sub hl [3, 4, 5, 2, 1, 0] rfl)
    · have nc135 : ¬ (cf74 57).toInt < (1 : Int) := mt (i_lt (x := (cf74 57)) (y := 1)).mpr c135
      refine lv_iload_n S.x S.b d_Mpg_declareArray_25 rfl (lv_at hl 0 rfl) ?_
      refine lv_sipush (v := 4096) S.x S.b d_Mpg_declareArray_26 (by decide) ?_
      refine lv_icmp_le (tgt := 52) S.x S.b d_Mpg_declareArray_29 (by decide) (fun c239 => ?_) (fun c239 => ?_)
      · have nc239 : (cf74 57).toInt ≤ (4096 : Int) := (i_le (x := (cf74 57)) (y := 4096)).mp c239
        refine lv_aload_n S.x S.b d_Mpg_declareArray_52 rfl (lv_at hl 1 rfl) ?_
        refine px_get S k_Mpg hT hw 0 0 22 (v := .ref (r 22)) rfl rfl rfl (by decide) m10_9 d_Mpg_declareArray_53 ?_
        refine lv_iload_n S.x S.b d_Mpg_declareArray_56 rfl (lv_at hl 2 rfl) ?_
        refine px_iald S hT hw 0 18 (n := 2100) (f := (ma73 22)) rfl gp_22 (x := p0) (vp_in_iff.mpr (by first | exact oz_a7e05de1cd hvr.2.2.1 hvr.2.1 g1 g2 | (constructor <;> omega))) d_Mpg_declareArray_57 ?_
        refine lv_topi (fun z240 ez240 => ?_)
        have lz240 := Int32.le_toInt z240
        have uz240 := Int32.toInt_lt z240
        have rz240 : z240.toInt = (ma0 22 p0.toNatClampNeg).toInt := (by rw [ez240, Ann.v22 han (by first | with_reducible rfl | with_reducible assumption | omega)])
        refine lv_iconst (v := 2) S.x S.b d_Mpg_declareArray_58 (by decide) ?_
        refine lv_icmp_ne (tgt := 125) S.x S.b d_Mpg_declareArray_59 (by decide) (fun c241 => ?_) (fun c241 => ?_)
        · have nc241 : ¬ z240.toInt = (2 : Int) := mt (i_eq (x := z240) (y := 2)).mpr c241
          refine lv_aload_n S.x S.b d_Mpg_declareArray_125 rfl (lv_at hl 1 rfl) ?_
          refine px_get S k_Mpg hT hw 0 0 22 (v := .ref (r 22)) rfl rfl rfl (by decide) m10_9 d_Mpg_declareArray_126 ?_
          refine lv_iload_n S.x S.b d_Mpg_declareArray_129 rfl (lv_at hl 2 rfl) ?_
          refine px_iald S hT hw 0 18 (n := 2100) (f := (ma73 22)) rfl gp_22 (x := p0) (vp_in_iff.mpr (by first | exact oz_a7e05de1cd hvr.2.2.1 hvr.2.1 g1 g2 | (constructor <;> omega))) d_Mpg_declareArray_130 ?_
          refine lv_topi (fun z242 ez242 => ?_)
          have lz242 := Int32.le_toInt z242
          have uz242 := Int32.toInt_lt z242
          have rz242 : z242.toInt = (ma0 22 p0.toNatClampNeg).toInt := (by rw [ez242, Ann.v22 han (by first | with_reducible rfl | with_reducible assumption | omega)])
          refine lv_iconst (v := 3) S.x S.b d_Mpg_declareArray_131 (by decide) ?_
          refine lv_icmp_ne (tgt := 176) S.x S.b d_Mpg_declareArray_132 (by decide) (fun c243 => ?_) (fun c243 => ?_)
          · have nc243 : ¬ z242.toInt = (3 : Int) := mt (i_eq (x := z242) (y := 3)).mpr c243
            refine lv_aload_n S.x S.b d_Mpg_declareArray_176 rfl (lv_at hl 1 rfl) ?_
            refine lv_iload_n S.x S.b d_Mpg_declareArray_177 rfl (lv_at hl 0 rfl) ?_
            refine lv_if_ge (tgt := 185) S.x S.b d_Mpg_declareArray_178 (by decide) (fun c244 => ?_) (fun c244 => ?_)
            · have nc244 : (0 : Int) ≤ (cf74 57).toInt := (i_le (x := 0) (y := (cf74 57))).mp c244
              refine lv_iload_n S.x S.b d_Mpg_declareArray_185 rfl (lv_at hl 0 rfl) ?_
              refine px_put S k_Mpg hT hw 0 0 58 rfl rfl (by decide) m10_55 rfl rfl rfl (Nat.le_of_ble_eq_true rfl) d_Mpg_declareArray_186 (w' := wdP cs h r g tf ta pf na ma73 wa (upd cf74 58 (cf74 57)) ca ef ea xf xa) (ps' := [wdP cs h r g tf ta pf na ma73 wa (upd cf74 58 (cf74 57)) ca ef ea xf xa]) rfl rfl (fun H locs hw => ?_)
              refine lv_iload_n S.x S.b d_Mpg_declareArray_189 rfl (lv_at hl 3 rfl) ?_
              refine lv_if_eq (tgt := 204) S.x S.b d_Mpg_declareArray_190 (by decide) (fun c245 => ?_) (fun c245 => ?_)
              · have nc245 : p1.toInt = (0 : Int) := (i_eq (x := p1) (y := 0)).mp c245
                refine lv_aload_n S.x S.b d_Mpg_declareArray_204 rfl (lv_at hl 1 rfl) ?_
                refine px_get S k_Mpg hT hw 0 0 58 (v := .int (cf74 57)) rfl rfl rfl (by decide) m10_55 d_Mpg_declareArray_205 ?_
                exact px_iret (v := (cf74 57)) S hr rfl hlk hAe hw (Nat.le_of_ble_eq_true rfl) (Nat.le_of_ble_eq_true rfl) (⟨ma73, (upd cf74 58 (cf74 57)), rfl, (show (cf74 30).toInt = 0 → (cf 30).toInt = 0 from by first | exact hkz_e77 | omega), (show WrV (upd cf74 58 (cf74 57)) (tf 6).toInt from (WrV.u hwr (by decide) (by decide))), (show (cf74 33).toInt = (cf 33).toInt from by first | exact e79 | omega), (show (cf74 37).toInt = (cf 37).toInt from by first | exact hkk37_e77 | omega), (show (cf74 38).toInt = (cf 38).toInt from by first | exact e80 | omega), (show (cf74 41).toInt = (cf 41).toInt from by first | exact hkk41_e77 | omega), (show (cf74 42).toInt = (cf 42).toInt from by first | exact hkk42_e77 | omega), (show (cf74 43).toInt = (cf 43).toInt from by first | exact hkk43_e77 | omega), (show (cf74 44).toInt = (cf 44).toInt from by first | exact hkk44_e77 | omega), (show (cf74 45).toInt = (cf 45).toInt from by first | exact hkk45_e77 | omega), (show (cf74 46).toInt = (cf 46).toInt from by first | exact e82 | omega), (show (cf74 47).toInt = (cf 47).toInt from by first | exact e83 | omega), (show (cf74 48).toInt = (cf 48).toInt from by first | exact e81 | omega), (show (cf74 54).toInt = (cf 54).toInt from by first | exact hkk54_e77 | omega), (show (cf74 55).toInt = (cf 55).toInt from by first | exact hkk55_e77 | omega), (show (cf74 59).toInt = (cf 59).toInt from by first | exact hkk59_e77 | omega), (show Ann na ma0 ma73 from han), (show FrC lo hi ma ma73 from hfc), (show 0 ≤ (cf74 57).toInt from by first | exact oz_0184fb6be8 nc135 | omega), (show (cf74 57).toInt ≤ 4096 from by first | exact oz_d819beab09 nc239 | omega), (show 0 ≤ (cf74 57).toInt from by first | exact oz_0184fb6be8 nc135 | omega), (show (cf74 57).toInt ≤ 4096 from by first | exact oz_d819beab09 nc239 | omega), (show (cf74 57).toInt ≤ 4 * (cf74 57).toInt from by first | exact oz_404e7427cb nc135 | omega), (show ZAv (upd cf74 58 (cf74 57)) ta na ma73 p0 (cf74 57).toInt from (ZAvF (by first | exact zr_no (by first | with_reducible rfl | with_reducible assumption | omega) | exact zav_0 han (by first | with_reducible rfl | with_reducible assumption | omega) (by have hav0 := hav.k0; omega) | exact zav_2 han (by first | with_reducible rfl | with_reducible assumption | omega) (by first | with_reducible rfl | with_reducible assumption | omega) hrl (by first | with_reducible rfl | with_reducible assumption | omega) (by first | with_reducible rfl | with_reducible assumption | omega) (by first | with_reducible rfl | with_reducible assumption | omega) | exact zav_3 han (by first | with_reducible rfl | with_reducible assumption | omega) (by first | with_reducible rfl | with_reducible assumption | omega) ha_z172 (by first | with_reducible rfl | with_reducible assumption | omega))))⟩) d_Mpg_declareArray_208
              · have nc245 : ¬ p1.toInt = (0 : Int) := mt (i_eq (x := p1) (y := 0)).mpr c245
                refine lv_aload_n S.x S.b d_Mpg_declareArray_193 rfl (lv_at hl 1 rfl) ?_
                refine px_get S k_Mpg hT hw 0 0 58 (v := .int (cf74 57)) rfl rfl rfl (by decide) m10_55 d_Mpg_declareArray_194 ?_
                refine lv_iconst (v := 3) S.x S.b d_Mpg_declareArray_197 (by decide) ?_
                refine lv_iadd S.x S.b d_Mpg_declareArray_198 ?_
                have lr246 := Int32.le_toInt (cf74 57)
                have ur246 := Int32.toInt_lt (cf74 57)
                refine lv_topi (fun z247 ez247 => ?_)
                have tz247 : z247.toInt = ((cf74 57).toInt + (3 : Int) + 2147483648) % 4294967296 - 2147483648 := by rw [ez247]; exact i_add (cf74 57) 3
                have lz247 := Int32.le_toInt z247
                have uz247 := Int32.toInt_lt z247
                try replace tz247 : z247.toInt = (cf74 57).toInt + (3 : Int) := by omega
                refine lv_iconst (v := 4) S.x S.b d_Mpg_declareArray_199 (by decide) ?_
                refine lv_idiv S.x S.b d_Mpg_declareArray_200 (fun hz0 => by have hz1 := i_eq.mp hz0; omega) ?_
                refine lv_topi (fun z248 ez248 => ?_)
                have lz248 := Int32.le_toInt z248
                have uz248 := Int32.toInt_lt z248
                have hd4 := i_div4 ez248 (by first | with_reducible rfl | with_reducible assumption | omega)
                refine lv_goto (tgt := 208) S.x S.b d_Mpg_declareArray_201 (by decide) ?_
                exact px_iret (v := z248) S hr rfl hlk hAe hw (Nat.le_of_ble_eq_true rfl) (Nat.le_of_ble_eq_true rfl) (⟨ma73, (upd cf74 58 (cf74 57)), rfl, (show (cf74 30).toInt = 0 → (cf 30).toInt = 0 from by first | exact hkz_e77 | omega), (show WrV (upd cf74 58 (cf74 57)) (tf 6).toInt from (WrV.u hwr (by decide) (by decide))), (show (cf74 33).toInt = (cf 33).toInt from by first | exact e79 | omega), (show (cf74 37).toInt = (cf 37).toInt from by first | exact hkk37_e77 | omega), (show (cf74 38).toInt = (cf 38).toInt from by first | exact e80 | omega), (show (cf74 41).toInt = (cf 41).toInt from by first | exact hkk41_e77 | omega), (show (cf74 42).toInt = (cf 42).toInt from by first | exact hkk42_e77 | omega), (show (cf74 43).toInt = (cf 43).toInt from by first | exact hkk43_e77 | omega), (show (cf74 44).toInt = (cf 44).toInt from by first | exact hkk44_e77 | omega), (show (cf74 45).toInt = (cf 45).toInt from by first | exact hkk45_e77 | omega), (show (cf74 46).toInt = (cf 46).toInt from by first | exact e82 | omega), (show (cf74 47).toInt = (cf 47).toInt from by first | exact e83 | omega), (show (cf74 48).toInt = (cf 48).toInt from by first | exact e81 | omega), (show (cf74 54).toInt = (cf 54).toInt from by first | exact hkk54_e77 | omega), (show (cf74 55).toInt = (cf 55).toInt from by first | exact hkk55_e77 | omega), (show (cf74 59).toInt = (cf 59).toInt from by first | exact hkk59_e77 | omega), (show Ann na ma0 ma73 from han), (show FrC lo hi ma ma73 from hfc), (show 0 ≤ (cf74 57).toInt from by first | exact oz_0184fb6be8 nc135 | omega), (show (cf74 57).toInt ≤ 4096 from by first | exact oz_d819beab09 nc239 | omega), (show 0 ≤ z248.toInt from by first | with_reducible rfl | with_reducible assumption | omega), (show z248.toInt ≤ 4096 from by first | with_reducible rfl | with_reducible assumption | omega), (show (cf74 57).toInt ≤ 4 * z248.toInt from by first | with_reducible rfl | with_reducible assumption | omega), (show ZAv (upd cf74 58 (cf74 57)) ta na ma73 p0 (cf74 57).toInt from (ZAvF (by first | exact zr_no (by first | with_reducible rfl | with_reducible assumption | omega) | exact zav_0 han (by first | with_reducible rfl | with_reducible assumption | omega) (by have hav0 := hav.k0; omega) | exact zav_2 han (by first | with_reducible rfl | with_reducible assumption | omega) (by first | with_reducible rfl | with_reducible assumption | omega) hrl (by first | with_reducible rfl | with_reducible assumption | omega) (by first | with_reducible rfl | with_reducible assumption | omega) (by first | with_reducible rfl | with_reducible assumption | omega) | exact zav_3 han (by first | with_reducible rfl | with_reducible assumption | omega) (by first | with_reducible rfl | with_reducible assumption | omega) ha_z172 (by first | with_reducible rfl | with_reducible assumption | omega))))⟩) d_Mpg_declareArray_208
            · have nc244 : ¬ (0 : Int) ≤ (cf74 57).toInt := mt (i_le (x := 0) (y := (cf74 57))).mpr c244
              refine lv_iconst (v := 0) S.x S.b d_Mpg_declareArray_181 (by decide) ?_
              refine lv_goto (tgt := 186) S.x S.b d_Mpg_declareArray_182 (by decide) ?_
              refine px_put S k_Mpg hT hw 0 0 58 rfl rfl (by decide) m10_55 rfl rfl rfl (Nat.le_of_ble_eq_true rfl) d_Mpg_declareArray_186 (w' := wdP cs h r g tf ta pf na ma73 wa (upd cf74 58 0) ca ef ea xf xa) (ps' := [wdP cs h r g tf ta pf na ma73 wa (upd cf74 58 0) ca ef ea xf xa]) rfl rfl (fun H locs hw => ?_)
              refine lv_iload_n S.x S.b d_Mpg_declareArray_189 rfl (lv_at hl 3 rfl) ?_
              refine lv_if_eq (tgt := 204) S.x S.b d_Mpg_declareArray_190 (by decide) (fun c249 => ?_) (fun c249 => ?_)
              · have nc249 : p1.toInt = (0 : Int) := (i_eq (x := p1) (y := 0)).mp c249
                refine lv_aload_n S.x S.b d_Mpg_declareArray_204 rfl (lv_at hl 1 rfl) ?_
                refine px_get S k_Mpg hT hw 0 0 58 (v := .int 0) rfl rfl rfl (by decide) m10_55 d_Mpg_declareArray_205 ?_
                exact px_iret (v := 0) S hr rfl hlk hAe hw (Nat.le_of_ble_eq_true rfl) (Nat.le_of_ble_eq_true rfl) (⟨ma73, (upd cf74 58 0), rfl, (show (cf74 30).toInt = 0 → (cf 30).toInt = 0 from by first | exact hkz_e77 | omega), (show WrV (upd cf74 58 0) (tf 6).toInt from (WrV.u hwr (by decide) (by decide))), (show (cf74 33).toInt = (cf 33).toInt from by first | exact e79 | omega), (show (cf74 37).toInt = (cf 37).toInt from by first | exact hkk37_e77 | omega), (show (cf74 38).toInt = (cf 38).toInt from by first | exact e80 | omega), (show (cf74 41).toInt = (cf 41).toInt from by first | exact hkk41_e77 | omega), (show (cf74 42).toInt = (cf 42).toInt from by first | exact hkk42_e77 | omega), (show (cf74 43).toInt = (cf 43).toInt from by first | exact hkk43_e77 | omega), (show (cf74 44).toInt = (cf 44).toInt from by first | exact hkk44_e77 | omega), (show (cf74 45).toInt = (cf 45).toInt from by first | exact hkk45_e77 | omega), (show (cf74 46).toInt = (cf 46).toInt from by first | exact e82 | omega), (show (cf74 47).toInt = (cf 47).toInt from by first | exact e83 | omega), (show (cf74 48).toInt = (cf 48).toInt from by first | exact e81 | omega), (show (cf74 54).toInt = (cf 54).toInt from by first | exact hkk54_e77 | omega), (show (cf74 55).toInt = (cf 55).toInt from by first | exact hkk55_e77 | omega), (show (cf74 59).toInt = (cf 59).toInt from by first | exact hkk59_e77 | omega), (show Ann na ma0 ma73 from han), (show FrC lo hi ma ma73 from hfc), (show 0 ≤ (0 : Int) from by first | decide | omega), (show (0 : Int) ≤ 4096 from by first | decide | omega), (show 0 ≤ (0 : Int) from by first | decide | omega), (show (0 : Int) ≤ 4096 from by first | decide | omega), (show (0 : Int) ≤ 4 * (0 : Int) from by first | decide | omega), (show ZAv (upd cf74 58 0) ta na ma73 p0 (0 : Int) from (ZAvF (by first | exact zr_no (by first | with_reducible rfl | with_reducible assumption | omega) | exact zav_0 han (by first | with_reducible rfl | with_reducible assumption | omega) (by have hav0 := hav.k0; omega) | exact zav_2 han (by first | with_reducible rfl | with_reducible assumption | omega) (by first | with_reducible rfl | with_reducible assumption | omega) hrl (by first | with_reducible rfl | with_reducible assumption | omega) (by first | with_reducible rfl | with_reducible assumption | omega) (by first | with_reducible rfl | with_reducible assumption | omega) | exact zav_3 han (by first | with_reducible rfl | with_reducible assumption | omega) (by first | with_reducible rfl | with_reducible assumption | omega) ha_z172 (by first | with_reducible rfl | with_reducible assumption | omega))))⟩) d_Mpg_declareArray_208
              · have nc249 : ¬ p1.toInt = (0 : Int) := mt (i_eq (x := p1) (y := 0)).mpr c249
                refine lv_aload_n S.x S.b d_Mpg_declareArray_193 rfl (lv_at hl 1 rfl) ?_
                refine px_get S k_Mpg hT hw 0 0 58 (v := .int 0) rfl rfl rfl (by decide) m10_55 d_Mpg_declareArray_194 ?_
                refine lv_iconst (v := 3) S.x S.b d_Mpg_declareArray_197 (by decide) ?_
                refine lv_iadd S.x S.b d_Mpg_declareArray_198 ?_
                refine lv_topi (fun z250 ez250 => ?_)
                have tz250 : z250.toInt = ((0 : Int) + (3 : Int) + 2147483648) % 4294967296 - 2147483648 := by rw [ez250]; exact i_add 0 3
                have lz250 := Int32.le_toInt z250
                have uz250 := Int32.toInt_lt z250
                try replace tz250 : z250.toInt = (0 : Int) + (3 : Int) := by omega
                refine lv_iconst (v := 4) S.x S.b d_Mpg_declareArray_199 (by decide) ?_
                refine lv_idiv S.x S.b d_Mpg_declareArray_200 (fun hz0 => by have hz1 := i_eq.mp hz0; omega) ?_
                refine lv_topi (fun z251 ez251 => ?_)
                have lz251 := Int32.le_toInt z251
                have uz251 := Int32.toInt_lt z251
                have hd4 := i_div4 ez251 (by first | with_reducible rfl | with_reducible assumption | omega)
                refine lv_goto (tgt := 208) S.x S.b d_Mpg_declareArray_201 (by decide) ?_
                exact px_iret (v := z251) S hr rfl hlk hAe hw (Nat.le_of_ble_eq_true rfl) (Nat.le_of_ble_eq_true rfl) (⟨ma73, (upd cf74 58 0), rfl, (show (cf74 30).toInt = 0 → (cf 30).toInt = 0 from by first | exact hkz_e77 | omega), (show WrV (upd cf74 58 0) (tf 6).toInt from (WrV.u hwr (by decide) (by decide))), (show (cf74 33).toInt = (cf 33).toInt from by first | exact e79 | omega), (show (cf74 37).toInt = (cf 37).toInt from by first | exact hkk37_e77 | omega), (show (cf74 38).toInt = (cf 38).toInt from by first | exact e80 | omega), (show (cf74 41).toInt = (cf 41).toInt from by first | exact hkk41_e77 | omega), (show (cf74 42).toInt = (cf 42).toInt from by first | exact hkk42_e77 | omega), (show (cf74 43).toInt = (cf 43).toInt from by first | exact hkk43_e77 | omega), (show (cf74 44).toInt = (cf 44).toInt from by first | exact hkk44_e77 | omega), (show (cf74 45).toInt = (cf 45).toInt from by first | exact hkk45_e77 | omega), (show (cf74 46).toInt = (cf 46).toInt from by first | exact e82 | omega), (show (cf74 47).toInt = (cf 47).toInt from by first | exact e83 | omega), (show (cf74 48).toInt = (cf 48).toInt from by first | exact e81 | omega), (show (cf74 54).toInt = (cf 54).toInt from by first | exact hkk54_e77 | omega), (show (cf74 55).toInt = (cf 55).toInt from by first | exact hkk55_e77 | omega), (show (cf74 59).toInt = (cf 59).toInt from by first | exact hkk59_e77 | omega), (show Ann na ma0 ma73 from han), (show FrC lo hi ma ma73 from hfc), (show 0 ≤ (0 : Int) from by first | decide | omega), (show (0 : Int) ≤ 4096 from by first | decide | omega), (show 0 ≤ z251.toInt from by first | with_reducible rfl | with_reducible assumption | omega), (show z251.toInt ≤ 4096 from by first | with_reducible rfl | with_reducible assumption | omega), (show (0 : Int) ≤ 4 * z251.toInt from by first | with_reducible rfl | with_reducible assumption | omega), (show ZAv (upd cf74 58 0) ta na ma73 p0 (0 : Int) from (ZAvF (by first | exact zr_no (by first | with_reducible rfl | with_reducible assumption | omega) | exact zav_0 han (by first | with_reducible rfl | with_reducible assumption | omega) (by have hav0 := hav.k0; omega) | exact zav_2 han (by first | with_reducible rfl | with_reducible assumption | omega) (by first | with_reducible rfl | with_reducible assumption | omega) hrl (by first | with_reducible rfl | with_reducible assumption | omega) (by first | with_reducible rfl | with_reducible assumption | omega) (by first | with_reducible rfl | with_reducible assumption | omega) | exact zav_3 han (by first | with_reducible rfl | with_reducible assumption | omega) (by first | with_reducible rfl | with_reducible assumption | omega) ha_z172 (by first | with_reducible rfl | with_reducible assumption | omega))))⟩) d_Mpg_declareArray_208
          · have nc243 : z242.toInt = (3 : Int) := (i_eq (x := z242) (y := 3)).mp c243
            refine lv_aload_n S.x S.b d_Mpg_declareArray_135 rfl (lv_at hl 1 rfl) ?_
            refine px_get S k_Mpg hT hw 0 0 10 (v := .ref (r 10)) rfl rfl rfl (by decide) m9_234 d_Mpg_declareArray_136 ?_
            refine lv_aload_n S.x S.b d_Mpg_declareArray_139 rfl (lv_at hl 1 rfl) ?_
            refine px_get S k_Mpg hT hw 0 0 19 (v := .ref (r 19)) rfl rfl rfl (by decide) m10_5 d_Mpg_declareArray_140 ?_
            refine lv_iload_n S.x S.b d_Mpg_declareArray_143 rfl (lv_at hl 2 rfl) ?_
            refine px_iald S hT hw 0 15 (n := 2100) (f := (ma73 19)) rfl gp_19 (x := p0) (vp_in_iff.mpr (by first | exact oz_a7e05de1cd hvr.2.2.1 hvr.2.1 g1 g2 | (constructor <;> omega))) d_Mpg_declareArray_144 ?_
            refine lv_topi (fun z252 ez252 => ?_)
            have lz252 := Int32.le_toInt z252
            have uz252 := Int32.toInt_lt z252
            have ha_z252 : z252 = ma0 19 p0.toNatClampNeg := ez252.trans (Ann.v19 han (by first | with_reducible rfl | with_reducible assumption | omega)); have hn_z252 : z252.toInt = (ma0 19 p0.toNatClampNeg).toInt := (by rw [ha_z252]); have hk3 := hav.k3 (by first | with_reducible rfl | with_reducible assumption | omega); rw [← ha_z252] at hk3
            refine px_iald S hT hw 0 9 (n := 2060) (f := (ta 10)) rfl gp_10 (x := z252) (vp_in_iff.mpr (by first | exact oz_8859ebd461 hn_z252 hk3.1 hk3.2.1 g3 | (constructor <;> omega))) d_Mpg_declareArray_145 ?_
            refine lv_topi (fun z253 ez253 => ?_)
            have lz253 := Int32.le_toInt z253
            have uz253 := Int32.toInt_lt z253
            have rz253 : z253.toInt = wh ta z252 := by rw [ez253]; rfl
            have hw4 := tk_w4 htk (x := z252) (by first | with_reducible rfl | with_reducible assumption | omega) (by first | with_reducible rfl | with_reducible assumption | omega) ez253 (by first | with_reducible rfl | with_reducible assumption | omega)
            refine lv_iconst (v := 1) S.x S.b d_Mpg_declareArray_146 (by decide) ?_
            refine lv_iadd S.x S.b d_Mpg_declareArray_147 ?_
            refine lv_topi (fun z254 ez254 => ?_)
            have tz254 : z254.toInt = (z253.toInt + (1 : Int) + 2147483648) % 4294967296 - 2147483648 := by rw [ez254]; exact i_add z253 1
            have lz254 := Int32.le_toInt z254
            have uz254 := Int32.toInt_lt z254
            try replace tz254 : z254.toInt = z253.toInt + (1 : Int) := by omega
            refine lv_istore (lv' := [(4, .int z254), (3, .int (cf74 57)), (0, .ref h), (1, .int p0), (2, .int p1)]) S.x S.b d_Mpg_declareArray_148 hl (by decide) rfl (fun ls hl => ?_)
            refine lv_iload_n S.x S.b d_Mpg_declareArray_150 rfl (lv_at hl 4 rfl) ?_
            refine lv_if_eq (tgt := 164) S.x S.b d_Mpg_declareArray_151 (by decide) (fun c255 => ?_) (fun c255 => ?_)
            · have nc255 : p1.toInt = (0 : Int) := (i_eq (x := p1) (y := 0)).mp c255
              refine lv_aload_n S.x S.b d_Mpg_declareArray_164 rfl (lv_at hl 2 rfl) ?_
              refine lv_bipush (v := 8) S.x S.b d_Mpg_declareArray_165 (by decide) ?_
              refine lv_aload_n S.x S.b d_Mpg_declareArray_167 rfl (lv_at hl 2 rfl) ?_
              refine px_get S k_Mpg hT hw 0 0 19 (v := .ref (r 19)) rfl rfl rfl (by decide) m10_5 d_Mpg_declareArray_168 ?_
              refine lv_iload_n S.x S.b d_Mpg_declareArray_171 rfl (lv_at hl 3 rfl) ?_
              refine px_iald S hT hw 0 15 (n := 2100) (f := (ma73 19)) rfl gp_19 (x := p0) (vp_in_iff.mpr (by first | exact oz_a7e05de1cd hvr.2.2.1 hvr.2.1 g1 g2 | (constructor <;> omega))) d_Mpg_declareArray_172 ?_
              refine lv_topi (fun z256 ez256 => ?_)
              have lz256 := Int32.le_toInt z256
              have uz256 := Int32.toInt_lt z256
              have ha_z256 : z256 = ma0 19 p0.toNatClampNeg := ez256.trans (Ann.v19 han (by first | with_reducible rfl | with_reducible assumption | omega)); have hn_z256 : z256.toInt = (ma0 19 p0.toNatClampNeg).toInt := (by rw [ha_z256]); have hk3 := hav.k3 (by first | with_reducible rfl | with_reducible assumption | omega); rw [← ha_z256] at hk3
              refine px_callv (pr := []) (px_runV (As := [.int 8, .int z256]) (rest := []) S (c_mp_bad l D cs h r g tf ta pf na ma73 wa ca ef ea xf xa cf74 8 z256  (show 1 ≤ (8 : Int) from by first | decide | omega) (show 0 ≤ z256.toInt from by first | exact oz_f3ebed1ad0 hn_z256 hk3.1 | omega) (show z256.toInt < (tf 6).toInt from by first | exact oz_b0a61accca hk3.2.1 hn_z256 | omega) htk hwr _) hT (pr := []) (pcs := [wdP cs h r g tf ta pf na ma73 wa cf74 ca ef ea xf xa]) hw px_X.tt (px_recv hT hw 0 0 rfl rfl rfl) m12_173 m12_170 m12_172 ms_11_12 m1_21 q_Mpg_bad ⟨show 0 + 1 ≤ (4 * d + 20) from by first | with_reducible rfl | with_reducible assumption | omega, show 8 + (3 + 11) + 0 ≤ (200 * d + 700) from by first | with_reducible rfl | with_reducible assumption | omega⟩ hl.1 rfl (Nat.le_of_ble_eq_true rfl) d_Mpg_declareArray_173 ⟨Nat.le_of_ble_eq_true rfl, Nat.le_of_ble_eq_true rfl⟩) hw hA (fun p259 H locs hp259 hw => ?_)
              obtain ⟨cf258, rfl, e261, e262, e263, e264, e265, e266, e267, e268, e269, e270, e271, e272, e273, e274, e275, e276, e277, e278, e279⟩ := hp259
              have e261 : KpE cf74 cf258 := e261
              have hkz_e261 := e261.2
              have e262 : WrV cf258 (tf 6).toInt := e262
              have hwr := e262
              have hw0_e262 := hwr.1
              have e263 : 1 ≤ (cf258 30).toInt := e263
              have e264 : (cf258 33).toInt = (cf74 33).toInt := e264
              have e265 : (cf258 38).toInt = (cf74 38).toInt := e265
              have e266 : (cf258 48).toInt = (cf74 48).toInt := e266
              have e267 : (cf258 46).toInt = (cf74 46).toInt := e267
              have e268 : (cf258 47).toInt = (cf74 47).toInt := e268
              have e269 : (cf258 57).toInt = (cf74 57).toInt := e269
              have e270 : (cf258 37).toInt = (cf74 37).toInt := e270
              have e271 : (cf258 42).toInt = (cf74 42).toInt := e271
              have e272 : (cf258 43).toInt = (cf74 43).toInt := e272
              have e273 : (cf258 44).toInt = (cf74 44).toInt := e273
              have e274 : (cf258 45).toInt = (cf74 45).toInt := e274
              have e275 : (cf258 54).toInt = (cf74 54).toInt := e275
              have e276 : (cf258 55).toInt = (cf74 55).toInt := e276
              have e277 : (cf258 58).toInt = (cf74 58).toInt := e277
              have e278 : (cf258 59).toInt = (cf74 59).toInt := e278
              have e279 : (cf258 41).toInt = (cf74 41).toInt := e279
              have hw : pw D A s.heap H locs [wdP cs h r g tf ta pf na ma73 wa cf258 ca ef ea xf xa] := hw
              refine lv_aload_n S.x S.b d_Mpg_declareArray_176 rfl (lv_at hl 2 rfl) ?_
              refine lv_iload_n S.x S.b d_Mpg_declareArray_177 rfl (lv_at hl 1 rfl) ?_
              refine lv_if_ge (tgt := 185) S.x S.b d_Mpg_declareArray_178 (by decide) (fun c280 => ?_) (fun c280 => ?_)
              · have nc280 : (0 : Int) ≤ (cf74 57).toInt := (i_le (x := 0) (y := (cf74 57))).mp c280
                refine lv_iload_n S.x S.b d_Mpg_declareArray_185 rfl (lv_at hl 1 rfl) ?_
                refine px_put S k_Mpg hT hw 0 0 58 rfl rfl (by decide) m10_55 rfl rfl rfl (Nat.le_of_ble_eq_true rfl) d_Mpg_declareArray_186 (w' := wdP cs h r g tf ta pf na ma73 wa (upd cf258 58 (cf74 57)) ca ef ea xf xa) (ps' := [wdP cs h r g tf ta pf na ma73 wa (upd cf258 58 (cf74 57)) ca ef ea xf xa]) rfl rfl (fun H locs hw => ?_)
                refine lv_iload_n S.x S.b d_Mpg_declareArray_189 rfl (lv_at hl 4 rfl) ?_
                refine lv_if_eq (tgt := 204) S.x S.b d_Mpg_declareArray_190 (by decide) (fun c281 => ?_) (fun c281 => ?_)
                · have nc281 : p1.toInt = (0 : Int) := (i_eq (x := p1) (y := 0)).mp c281
                  refine lv_aload_n S.x S.b d_Mpg_declareArray_204 rfl (lv_at hl 2 rfl) ?_
                  refine px_get S k_Mpg hT hw 0 0 58 (v := .int (cf74 57)) rfl rfl rfl (by decide) m10_55 d_Mpg_declareArray_205 ?_
                  exact px_iret (v := (cf74 57)) S hr rfl hlk hAe hw (Nat.le_of_ble_eq_true rfl) (Nat.le_of_ble_eq_true rfl) (⟨ma73, (upd cf258 58 (cf74 57)), rfl, (show (cf258 30).toInt = 0 → (cf 30).toInt = 0 from by first | with_reducible rfl | with_reducible assumption | omega), (show WrV (upd cf258 58 (cf74 57)) (tf 6).toInt from (WrV.u hwr (by decide) (by decide))), (show (cf258 33).toInt = (cf 33).toInt from by first | exact oz_1687f4cc65 e79 e264 | omega), (show (cf258 37).toInt = (cf 37).toInt from by first | exact oz_1687f4cc65 hkk37_e77 e270 | omega), (show (cf258 38).toInt = (cf 38).toInt from by first | exact oz_1687f4cc65 e80 e265 | omega), (show (cf258 41).toInt = (cf 41).toInt from by first | exact oz_1687f4cc65 hkk41_e77 e279 | omega), (show (cf258 42).toInt = (cf 42).toInt from by first | exact oz_1687f4cc65 hkk42_e77 e271 | omega), (show (cf258 43).toInt = (cf 43).toInt from by first | exact oz_1687f4cc65 hkk43_e77 e272 | omega), (show (cf258 44).toInt = (cf 44).toInt from by first | exact oz_1687f4cc65 hkk44_e77 e273 | omega), (show (cf258 45).toInt = (cf 45).toInt from by first | exact oz_1687f4cc65 hkk45_e77 e274 | omega), (show (cf258 46).toInt = (cf 46).toInt from by first | exact oz_1687f4cc65 e82 e267 | omega), (show (cf258 47).toInt = (cf 47).toInt from by first | exact oz_1687f4cc65 e83 e268 | omega), (show (cf258 48).toInt = (cf 48).toInt from by first | exact oz_1687f4cc65 e81 e266 | omega), (show (cf258 54).toInt = (cf 54).toInt from by first | exact oz_1687f4cc65 hkk54_e77 e275 | omega), (show (cf258 55).toInt = (cf 55).toInt from by first | exact oz_1687f4cc65 hkk55_e77 e276 | omega), (show (cf258 59).toInt = (cf 59).toInt from by first | exact oz_1687f4cc65 hkk59_e77 e278 | omega), (show Ann na ma0 ma73 from han), (show FrC lo hi ma ma73 from hfc), (show 0 ≤ (cf74 57).toInt from by first | exact oz_0184fb6be8 nc135 | omega), (show (cf74 57).toInt ≤ 4096 from by first | exact oz_d819beab09 nc239 | omega), (show 0 ≤ (cf74 57).toInt from by first | exact oz_0184fb6be8 nc135 | omega), (show (cf74 57).toInt ≤ 4096 from by first | exact oz_d819beab09 nc239 | omega), (show (cf74 57).toInt ≤ 4 * (cf74 57).toInt from by first | exact oz_404e7427cb nc135 | omega), (show ZAv (upd cf258 58 (cf74 57)) ta na ma73 p0 (cf74 57).toInt from (zr_no (by first | omega | (show 1 ≤ _; rw [pk_un (by decide)]; omega))))⟩) d_Mpg_declareArray_208
                · have nc281 : ¬ p1.toInt = (0 : Int) := mt (i_eq (x := p1) (y := 0)).mpr c281
                  refine lv_aload_n S.x S.b d_Mpg_declareArray_193 rfl (lv_at hl 2 rfl) ?_
                  refine px_get S k_Mpg hT hw 0 0 58 (v := .int (cf74 57)) rfl rfl rfl (by decide) m10_55 d_Mpg_declareArray_194 ?_
                  refine lv_iconst (v := 3) S.x S.b d_Mpg_declareArray_197 (by decide) ?_
                  refine lv_iadd S.x S.b d_Mpg_declareArray_198 ?_
                  have lr282 := Int32.le_toInt (cf74 57)
                  have ur282 := Int32.toInt_lt (cf74 57)
                  refine lv_topi (fun z283 ez283 => ?_)
                  have tz283 : z283.toInt = ((cf74 57).toInt + (3 : Int) + 2147483648) % 4294967296 - 2147483648 := by rw [ez283]; exact i_add (cf74 57) 3
                  have lz283 := Int32.le_toInt z283
                  have uz283 := Int32.toInt_lt z283
                  try replace tz283 : z283.toInt = (cf74 57).toInt + (3 : Int) := by omega
                  refine lv_iconst (v := 4) S.x S.b d_Mpg_declareArray_199 (by decide) ?_
                  refine lv_idiv S.x S.b d_Mpg_declareArray_200 (fun hz0 => by have hz1 := i_eq.mp hz0; omega) ?_
                  refine lv_topi (fun z284 ez284 => ?_)
                  have lz284 := Int32.le_toInt z284
                  have uz284 := Int32.toInt_lt z284
                  have hd4 := i_div4 ez284 (by first | with_reducible rfl | with_reducible assumption | omega)
                  refine lv_goto (tgt := 208) S.x S.b d_Mpg_declareArray_201 (by decide) ?_
                  exact px_iret (v := z284) S hr rfl hlk hAe hw (Nat.le_of_ble_eq_true rfl) (Nat.le_of_ble_eq_true rfl) (⟨ma73, (upd cf258 58 (cf74 57)), rfl, (show (cf258 30).toInt = 0 → (cf 30).toInt = 0 from by first | with_reducible rfl | with_reducible assumption | omega), (show WrV (upd cf258 58 (cf74 57)) (tf 6).toInt from (WrV.u hwr (by decide) (by decide))), (show (cf258 33).toInt = (cf 33).toInt from by first | exact oz_1687f4cc65 e79 e264 | omega), (show (cf258 37).toInt = (cf 37).toInt from by first | exact oz_1687f4cc65 hkk37_e77 e270 | omega), (show (cf258 38).toInt = (cf 38).toInt from by first | exact oz_1687f4cc65 e80 e265 | omega), (show (cf258 41).toInt = (cf 41).toInt from by first | exact oz_1687f4cc65 hkk41_e77 e279 | omega), (show (cf258 42).toInt = (cf 42).toInt from by first | exact oz_1687f4cc65 hkk42_e77 e271 | omega), (show (cf258 43).toInt = (cf 43).toInt from by first | exact oz_1687f4cc65 hkk43_e77 e272 | omega), (show (cf258 44).toInt = (cf 44).toInt from by first | exact oz_1687f4cc65 hkk44_e77 e273 | omega), (show (cf258 45).toInt = (cf 45).toInt from by first | exact oz_1687f4cc65 hkk45_e77 e274 | omega), (show (cf258 46).toInt = (cf 46).toInt from by first | exact oz_1687f4cc65 e82 e267 | omega), (show (cf258 47).toInt = (cf 47).toInt from by first | exact oz_1687f4cc65 e83 e268 | omega), (show (cf258 48).toInt = (cf 48).toInt from by first | exact oz_1687f4cc65 e81 e266 | omega), (show (cf258 54).toInt = (cf 54).toInt from by first | exact oz_1687f4cc65 hkk54_e77 e275 | omega), (show (cf258 55).toInt = (cf 55).toInt from by first | exact oz_1687f4cc65 hkk55_e77 e276 | omega), (show (cf258 59).toInt = (cf 59).toInt from by first | exact oz_1687f4cc65 hkk59_e77 e278 | omega), (show Ann na ma0 ma73 from han), (show FrC lo hi ma ma73 from hfc), (show 0 ≤ (cf74 57).toInt from by first | exact oz_0184fb6be8 nc135 | omega), (show (cf74 57).toInt ≤ 4096 from by first | exact oz_d819beab09 nc239 | omega), (show 0 ≤ z284.toInt from by first | with_reducible rfl | with_reducible assumption | omega), (show z284.toInt ≤ 4096 from by first | with_reducible rfl | with_reducible assumption | omega), (show (cf74 57).toInt ≤ 4 * z284.toInt from by first | with_reducible rfl | with_reducible assumption | omega), (show ZAv (upd cf258 58 (cf74 57)) ta na ma73 p0 (cf74 57).toInt from (zr_no (by first | omega | (show 1 ≤ _; rw [pk_un (by decide)]; omega))))⟩) d_Mpg_declareArray_208
              · have nc280 : ¬ (0 : Int) ≤ (cf74 57).toInt := mt (i_le (x := 0) (y := (cf74 57))).mpr c280
                refine lv_iconst (v := 0) S.x S.b d_Mpg_declareArray_181 (by decide) ?_
                refine lv_goto (tgt := 186) S.x S.b d_Mpg_declareArray_182 (by decide) ?_
                refine px_put S k_Mpg hT hw 0 0 58 rfl rfl (by decide) m10_55 rfl rfl rfl (Nat.le_of_ble_eq_true rfl) d_Mpg_declareArray_186 (w' := wdP cs h r g tf ta pf na ma73 wa (upd cf258 58 0) ca ef ea xf xa) (ps' := [wdP cs h r g tf ta pf na ma73 wa (upd cf258 58 0) ca ef ea xf xa]) rfl rfl (fun H locs hw => ?_)
                refine lv_iload_n S.x S.b d_Mpg_declareArray_189 rfl (lv_at hl 4 rfl) ?_
                refine lv_if_eq (tgt := 204) S.x S.b d_Mpg_declareArray_190 (by decide) (fun c285 => ?_) (fun c285 => ?_)
                · have nc285 : p1.toInt = (0 : Int) := (i_eq (x := p1) (y := 0)).mp c285
                  refine lv_aload_n S.x S.b d_Mpg_declareArray_204 rfl (lv_at hl 2 rfl) ?_
                  refine px_get S k_Mpg hT hw 0 0 58 (v := .int 0) rfl rfl rfl (by decide) m10_55 d_Mpg_declareArray_205 ?_
                  exact px_iret (v := 0) S hr rfl hlk hAe hw (Nat.le_of_ble_eq_true rfl) (Nat.le_of_ble_eq_true rfl) (⟨ma73, (upd cf258 58 0), rfl, (show (cf258 30).toInt = 0 → (cf 30).toInt = 0 from by first | with_reducible rfl | with_reducible assumption | omega), (show WrV (upd cf258 58 0) (tf 6).toInt from (WrV.u hwr (by decide) (by decide))), (show (cf258 33).toInt = (cf 33).toInt from by first | exact oz_1687f4cc65 e79 e264 | omega), (show (cf258 37).toInt = (cf 37).toInt from by first | exact oz_1687f4cc65 hkk37_e77 e270 | omega), (show (cf258 38).toInt = (cf 38).toInt from by first | exact oz_1687f4cc65 e80 e265 | omega), (show (cf258 41).toInt = (cf 41).toInt from by first | exact oz_1687f4cc65 hkk41_e77 e279 | omega), (show (cf258 42).toInt = (cf 42).toInt from by first | exact oz_1687f4cc65 hkk42_e77 e271 | omega), (show (cf258 43).toInt = (cf 43).toInt from by first | exact oz_1687f4cc65 hkk43_e77 e272 | omega), (show (cf258 44).toInt = (cf 44).toInt from by first | exact oz_1687f4cc65 hkk44_e77 e273 | omega), (show (cf258 45).toInt = (cf 45).toInt from by first | exact oz_1687f4cc65 hkk45_e77 e274 | omega), (show (cf258 46).toInt = (cf 46).toInt from by first | exact oz_1687f4cc65 e82 e267 | omega), (show (cf258 47).toInt = (cf 47).toInt from by first | exact oz_1687f4cc65 e83 e268 | omega), (show (cf258 48).toInt = (cf 48).toInt from by first | exact oz_1687f4cc65 e81 e266 | omega), (show (cf258 54).toInt = (cf 54).toInt from by first | exact oz_1687f4cc65 hkk54_e77 e275 | omega), (show (cf258 55).toInt = (cf 55).toInt from by first | exact oz_1687f4cc65 hkk55_e77 e276 | omega), (show (cf258 59).toInt = (cf 59).toInt from by first | exact oz_1687f4cc65 hkk59_e77 e278 | omega), (show Ann na ma0 ma73 from han), (show FrC lo hi ma ma73 from hfc), (show 0 ≤ (0 : Int) from by first | decide | omega), (show (0 : Int) ≤ 4096 from by first | decide | omega), (show 0 ≤ (0 : Int) from by first | decide | omega), (show (0 : Int) ≤ 4096 from by first | decide | omega), (show (0 : Int) ≤ 4 * (0 : Int) from by first | decide | omega), (show ZAv (upd cf258 58 0) ta na ma73 p0 (0 : Int) from (zr_no (by first | omega | (show 1 ≤ _; rw [pk_un (by decide)]; omega))))⟩) d_Mpg_declareArray_208
                · have nc285 : ¬ p1.toInt = (0 : Int) := mt (i_eq (x := p1) (y := 0)).mpr c285
                  refine lv_aload_n S.x S.b d_Mpg_declareArray_193 rfl (lv_at hl 2 rfl) ?_
                  refine px_get S k_Mpg hT hw 0 0 58 (v := .int 0) rfl rfl rfl (by decide) m10_55 d_Mpg_declareArray_194 ?_
                  refine lv_iconst (v := 3) S.x S.b d_Mpg_declareArray_197 (by decide) ?_
                  refine lv_iadd S.x S.b d_Mpg_declareArray_198 ?_
                  refine lv_topi (fun z286 ez286 => ?_)
                  have tz286 : z286.toInt = ((0 : Int) + (3 : Int) + 2147483648) % 4294967296 - 2147483648 := by rw [ez286]; exact i_add 0 3
                  have lz286 := Int32.le_toInt z286
                  have uz286 := Int32.toInt_lt z286
                  try replace tz286 : z286.toInt = (0 : Int) + (3 : Int) := by omega
                  refine lv_iconst (v := 4) S.x S.b d_Mpg_declareArray_199 (by decide) ?_
                  refine lv_idiv S.x S.b d_Mpg_declareArray_200 (fun hz0 => by have hz1 := i_eq.mp hz0; omega) ?_
                  refine lv_topi (fun z287 ez287 => ?_)
                  have lz287 := Int32.le_toInt z287
                  have uz287 := Int32.toInt_lt z287
                  have hd4 := i_div4 ez287 (by first | with_reducible rfl | with_reducible assumption | omega)
                  refine lv_goto (tgt := 208) S.x S.b d_Mpg_declareArray_201 (by decide) ?_
                  exact px_iret (v := z287) S hr rfl hlk hAe hw (Nat.le_of_ble_eq_true rfl) (Nat.le_of_ble_eq_true rfl) (⟨ma73, (upd cf258 58 0), rfl, (show (cf258 30).toInt = 0 → (cf 30).toInt = 0 from by first | with_reducible rfl | with_reducible assumption | omega), (show WrV (upd cf258 58 0) (tf 6).toInt from (WrV.u hwr (by decide) (by decide))), (show (cf258 33).toInt = (cf 33).toInt from by first | exact oz_1687f4cc65 e79 e264 | omega), (show (cf258 37).toInt = (cf 37).toInt from by first | exact oz_1687f4cc65 hkk37_e77 e270 | omega), (show (cf258 38).toInt = (cf 38).toInt from by first | exact oz_1687f4cc65 e80 e265 | omega), (show (cf258 41).toInt = (cf 41).toInt from by first | exact oz_1687f4cc65 hkk41_e77 e279 | omega), (show (cf258 42).toInt = (cf 42).toInt from by first | exact oz_1687f4cc65 hkk42_e77 e271 | omega), (show (cf258 43).toInt = (cf 43).toInt from by first | exact oz_1687f4cc65 hkk43_e77 e272 | omega), (show (cf258 44).toInt = (cf 44).toInt from by first | exact oz_1687f4cc65 hkk44_e77 e273 | omega), (show (cf258 45).toInt = (cf 45).toInt from by first | exact oz_1687f4cc65 hkk45_e77 e274 | omega), (show (cf258 46).toInt = (cf 46).toInt from by first | exact oz_1687f4cc65 e82 e267 | omega), (show (cf258 47).toInt = (cf 47).toInt from by first | exact oz_1687f4cc65 e83 e268 | omega), (show (cf258 48).toInt = (cf 48).toInt from by first | exact oz_1687f4cc65 e81 e266 | omega), (show (cf258 54).toInt = (cf 54).toInt from by first | exact oz_1687f4cc65 hkk54_e77 e275 | omega), (show (cf258 55).toInt = (cf 55).toInt from by first | exact oz_1687f4cc65 hkk55_e77 e276 | omega), (show (cf258 59).toInt = (cf 59).toInt from by first | exact oz_1687f4cc65 hkk59_e77 e278 | omega), (show Ann na ma0 ma73 from han), (show FrC lo hi ma ma73 from hfc), (show 0 ≤ (0 : Int) from by first | decide | omega), (show (0 : Int) ≤ 4096 from by first | decide | omega), (show 0 ≤ z287.toInt from by first | with_reducible rfl | with_reducible assumption | omega), (show z287.toInt ≤ 4096 from by first | with_reducible rfl | with_reducible assumption | omega), (show (0 : Int) ≤ 4 * z287.toInt from by first | with_reducible rfl | with_reducible assumption | omega), (show ZAv (upd cf258 58 0) ta na ma73 p0 (0 : Int) from (zr_no (by first | omega | (show 1 ≤ _; rw [pk_un (by decide)]; omega))))⟩) d_Mpg_declareArray_208
            · have nc255 : ¬ p1.toInt = (0 : Int) := mt (i_eq (x := p1) (y := 0)).mpr c255
              refine lv_iload_n S.x S.b d_Mpg_declareArray_154 rfl (lv_at hl 1 rfl) ?_
              refine lv_if_lt (tgt := 176) S.x S.b d_Mpg_declareArray_155 (by decide) (fun c288 => ?_) (fun c288 => ?_)
              · have nc288 : (cf74 57).toInt < (0 : Int) := (i_lt (x := (cf74 57)) (y := 0)).mp c288
                refine lv_aload_n S.x S.b d_Mpg_declareArray_176 rfl (lv_at hl 2 rfl) ?_
                refine lv_iload_n S.x S.b d_Mpg_declareArray_177 rfl (lv_at hl 1 rfl) ?_
                refine lv_if_ge (tgt := 185) S.x S.b d_Mpg_declareArray_178 (by decide) (fun c289 => ?_) (fun c289 => ?_)
                · have nc289 : (0 : Int) ≤ (cf74 57).toInt := (i_le (x := 0) (y := (cf74 57))).mp c289
                  refine lv_iload_n S.x S.b d_Mpg_declareArray_185 rfl (lv_at hl 1 rfl) ?_
                  refine px_put S k_Mpg hT hw 0 0 58 rfl rfl (by decide) m10_55 rfl rfl rfl (Nat.le_of_ble_eq_true rfl) d_Mpg_declareArray_186 (w' := wdP cs h r g tf ta pf na ma73 wa (upd cf74 58 (cf74 57)) ca ef ea xf xa) (ps' := [wdP cs h r g tf ta pf na ma73 wa (upd cf74 58 (cf74 57)) ca ef ea xf xa]) rfl rfl (fun H locs hw => ?_)
                  refine lv_iload_n S.x S.b d_Mpg_declareArray_189 rfl (lv_at hl 4 rfl) ?_
                  refine lv_if_eq (tgt := 204) S.x S.b d_Mpg_declareArray_190 (by decide) (fun c290 => ?_) (fun c290 => ?_)
                  · have nc290 : p1.toInt = (0 : Int) := (i_eq (x := p1) (y := 0)).mp c290
                    refine lv_aload_n S.x S.b d_Mpg_declareArray_204 rfl (lv_at hl 2 rfl) ?_
                    refine px_get S k_Mpg hT hw 0 0 58 (v := .int (cf74 57)) rfl rfl rfl (by decide) m10_55 d_Mpg_declareArray_205 ?_
                    exact px_iret (v := (cf74 57)) S hr rfl hlk hAe hw (Nat.le_of_ble_eq_true rfl) (Nat.le_of_ble_eq_true rfl) (⟨ma73, (upd cf74 58 (cf74 57)), rfl, (show (cf74 30).toInt = 0 → (cf 30).toInt = 0 from by first | exact hkz_e77 | omega), (show WrV (upd cf74 58 (cf74 57)) (tf 6).toInt from (WrV.u hwr (by decide) (by decide))), (show (cf74 33).toInt = (cf 33).toInt from by first | exact e79 | omega), (show (cf74 37).toInt = (cf 37).toInt from by first | exact hkk37_e77 | omega), (show (cf74 38).toInt = (cf 38).toInt from by first | exact e80 | omega), (show (cf74 41).toInt = (cf 41).toInt from by first | exact hkk41_e77 | omega), (show (cf74 42).toInt = (cf 42).toInt from by first | exact hkk42_e77 | omega), (show (cf74 43).toInt = (cf 43).toInt from by first | exact hkk43_e77 | omega), (show (cf74 44).toInt = (cf 44).toInt from by first | exact hkk44_e77 | omega), (show (cf74 45).toInt = (cf 45).toInt from by first | exact hkk45_e77 | omega), (show (cf74 46).toInt = (cf 46).toInt from by first | exact e82 | omega), (show (cf74 47).toInt = (cf 47).toInt from by first | exact e83 | omega), (show (cf74 48).toInt = (cf 48).toInt from by first | exact e81 | omega), (show (cf74 54).toInt = (cf 54).toInt from by first | exact hkk54_e77 | omega), (show (cf74 55).toInt = (cf 55).toInt from by first | exact hkk55_e77 | omega), (show (cf74 59).toInt = (cf 59).toInt from by first | exact hkk59_e77 | omega), (show Ann na ma0 ma73 from han), (show FrC lo hi ma ma73 from hfc), (show 0 ≤ (cf74 57).toInt from by first | exact oz_0184fb6be8 nc135 | omega), (show (cf74 57).toInt ≤ 4096 from by first | exact oz_8d86603399 nc288 | omega), (show 0 ≤ (cf74 57).toInt from by first | exact oz_0184fb6be8 nc135 | omega), (show (cf74 57).toInt ≤ 4096 from by first | exact oz_8d86603399 nc288 | omega), (show (cf74 57).toInt ≤ 4 * (cf74 57).toInt from by first | exact oz_404e7427cb nc135 | omega), (show ZAv (upd cf74 58 (cf74 57)) ta na ma73 p0 (cf74 57).toInt from (ZAvF (by first | exact zr_no (by first | with_reducible rfl | with_reducible assumption | omega) | exact zav_0 han (by first | with_reducible rfl | with_reducible assumption | omega) (by have hav0 := hav.k0; omega) | exact zav_2 han (by first | with_reducible rfl | with_reducible assumption | omega) (by first | with_reducible rfl | with_reducible assumption | omega) hrl (by first | with_reducible rfl | with_reducible assumption | omega) (by first | with_reducible rfl | with_reducible assumption | omega) (by first | with_reducible rfl | with_reducible assumption | omega) | exact zav_3 han (by first | with_reducible rfl | with_reducible assumption | omega) (by first | with_reducible rfl | with_reducible assumption | omega) ha_z252 (by first | with_reducible rfl | with_reducible assumption | omega))))⟩) d_Mpg_declareArray_208
                  · have nc290 : ¬ p1.toInt = (0 : Int) := mt (i_eq (x := p1) (y := 0)).mpr c290
                    refine lv_aload_n S.x S.b d_Mpg_declareArray_193 rfl (lv_at hl 2 rfl) ?_
                    refine px_get S k_Mpg hT hw 0 0 58 (v := .int (cf74 57)) rfl rfl rfl (by decide) m10_55 d_Mpg_declareArray_194 ?_
                    refine lv_iconst (v := 3) S.x S.b d_Mpg_declareArray_197 (by decide) ?_
                    refine lv_iadd S.x S.b d_Mpg_declareArray_198 ?_
                    have lr291 := Int32.le_toInt (cf74 57)
                    have ur291 := Int32.toInt_lt (cf74 57)
                    refine lv_topi (fun z292 ez292 => ?_)
                    have tz292 : z292.toInt = ((cf74 57).toInt + (3 : Int) + 2147483648) % 4294967296 - 2147483648 := by rw [ez292]; exact i_add (cf74 57) 3
                    have lz292 := Int32.le_toInt z292
                    have uz292 := Int32.toInt_lt z292
                    try replace tz292 : z292.toInt = (cf74 57).toInt + (3 : Int) := by first | exact oz_95a53c78cb nc135 nc288 | omega
                    refine lv_iconst (v := 4) S.x S.b d_Mpg_declareArray_199 (by decide) ?_
                    refine lv_idiv S.x S.b d_Mpg_declareArray_200 (fun hz0 => by have hz1 := i_eq.mp hz0; omega) ?_
                    refine lv_topi (fun z293 ez293 => ?_)
                    have lz293 := Int32.le_toInt z293
                    have uz293 := Int32.toInt_lt z293
                    have hd4 := i_div4 ez293 (by first | with_reducible rfl | with_reducible assumption | omega)
                    refine lv_goto (tgt := 208) S.x S.b d_Mpg_declareArray_201 (by decide) ?_
                    exact px_iret (v := z293) S hr rfl hlk hAe hw (Nat.le_of_ble_eq_true rfl) (Nat.le_of_ble_eq_true rfl) (⟨ma73, (upd cf74 58 (cf74 57)), rfl, (show (cf74 30).toInt = 0 → (cf 30).toInt = 0 from by first | exact hkz_e77 | omega), (show WrV (upd cf74 58 (cf74 57)) (tf 6).toInt from (WrV.u hwr (by decide) (by decide))), (show (cf74 33).toInt = (cf 33).toInt from by first | exact e79 | omega), (show (cf74 37).toInt = (cf 37).toInt from by first | exact hkk37_e77 | omega), (show (cf74 38).toInt = (cf 38).toInt from by first | exact e80 | omega), (show (cf74 41).toInt = (cf 41).toInt from by first | exact hkk41_e77 | omega), (show (cf74 42).toInt = (cf 42).toInt from by first | exact hkk42_e77 | omega), (show (cf74 43).toInt = (cf 43).toInt from by first | exact hkk43_e77 | omega), (show (cf74 44).toInt = (cf 44).toInt from by first | exact hkk44_e77 | omega), (show (cf74 45).toInt = (cf 45).toInt from by first | exact hkk45_e77 | omega), (show (cf74 46).toInt = (cf 46).toInt from by first | exact e82 | omega), (show (cf74 47).toInt = (cf 47).toInt from by first | exact e83 | omega), (show (cf74 48).toInt = (cf 48).toInt from by first | exact e81 | omega), (show (cf74 54).toInt = (cf 54).toInt from by first | exact hkk54_e77 | omega), (show (cf74 55).toInt = (cf 55).toInt from by first | exact hkk55_e77 | omega), (show (cf74 59).toInt = (cf 59).toInt from by first | exact hkk59_e77 | omega), (show Ann na ma0 ma73 from han), (show FrC lo hi ma ma73 from hfc), (show 0 ≤ (cf74 57).toInt from by first | exact oz_0184fb6be8 nc135 | omega), (show (cf74 57).toInt ≤ 4096 from by first | exact oz_8d86603399 nc288 | omega), (show 0 ≤ z293.toInt from by first | with_reducible rfl | with_reducible assumption | omega), (show z293.toInt ≤ 4096 from by first | with_reducible rfl | with_reducible assumption | omega), (show (cf74 57).toInt ≤ 4 * z293.toInt from by first | exact oz_be61439b89 nc135 nc288 | omega), (show ZAv (upd cf74 58 (cf74 57)) ta na ma73 p0 (cf74 57).toInt from (ZAvF (by first | exact zr_no (by first | with_reducible rfl | with_reducible assumption | omega) | exact zav_0 han (by first | with_reducible rfl | with_reducible assumption | omega) (by have hav0 := hav.k0; omega) | exact zav_2 han (by first | with_reducible rfl | with_reducible assumption | omega) (by first | with_reducible rfl | with_reducible assumption | omega) hrl (by first | with_reducible rfl | with_reducible assumption | omega) (by first | with_reducible rfl | with_reducible assumption | omega) (by first | with_reducible rfl | with_reducible assumption | omega) | exact zav_3 han (by first | with_reducible rfl | with_reducible assumption | omega) (by first | with_reducible rfl | with_reducible assumption | omega) ha_z252 (by first | with_reducible rfl | with_reducible assumption | omega))))⟩) d_Mpg_declareArray_208
                · have nc289 : ¬ (0 : Int) ≤ (cf74 57).toInt := mt (i_le (x := 0) (y := (cf74 57))).mpr c289
                  refine lv_iconst (v := 0) S.x S.b d_Mpg_declareArray_181 (by decide) ?_
                  refine lv_goto (tgt := 186) S.x S.b d_Mpg_declareArray_182 (by decide) ?_
                  refine px_put S k_Mpg hT hw 0 0 58 rfl rfl (by decide) m10_55 rfl rfl rfl (Nat.le_of_ble_eq_true rfl) d_Mpg_declareArray_186 (w' := wdP cs h r g tf ta pf na ma73 wa (upd cf74 58 0) ca ef ea xf xa) (ps' := [wdP cs h r g tf ta pf na ma73 wa (upd cf74 58 0) ca ef ea xf xa]) rfl rfl (fun H locs hw => ?_)
                  refine lv_iload_n S.x S.b d_Mpg_declareArray_189 rfl (lv_at hl 4 rfl) ?_
                  refine lv_if_eq (tgt := 204) S.x S.b d_Mpg_declareArray_190 (by decide) (fun c294 => ?_) (fun c294 => ?_)
                  · have nc294 : p1.toInt = (0 : Int) := (i_eq (x := p1) (y := 0)).mp c294
                    refine lv_aload_n S.x S.b d_Mpg_declareArray_204 rfl (lv_at hl 2 rfl) ?_
                    refine px_get S k_Mpg hT hw 0 0 58 (v := .int 0) rfl rfl rfl (by decide) m10_55 d_Mpg_declareArray_205 ?_
                    exact px_iret (v := 0) S hr rfl hlk hAe hw (Nat.le_of_ble_eq_true rfl) (Nat.le_of_ble_eq_true rfl) (⟨ma73, (upd cf74 58 0), rfl, (show (cf74 30).toInt = 0 → (cf 30).toInt = 0 from by first | exact hkz_e77 | omega), (show WrV (upd cf74 58 0) (tf 6).toInt from (WrV.u hwr (by decide) (by decide))), (show (cf74 33).toInt = (cf 33).toInt from by first | exact e79 | omega), (show (cf74 37).toInt = (cf 37).toInt from by first | exact hkk37_e77 | omega), (show (cf74 38).toInt = (cf 38).toInt from by first | exact e80 | omega), (show (cf74 41).toInt = (cf 41).toInt from by first | exact hkk41_e77 | omega), (show (cf74 42).toInt = (cf 42).toInt from by first | exact hkk42_e77 | omega), (show (cf74 43).toInt = (cf 43).toInt from by first | exact hkk43_e77 | omega), (show (cf74 44).toInt = (cf 44).toInt from by first | exact hkk44_e77 | omega), (show (cf74 45).toInt = (cf 45).toInt from by first | exact hkk45_e77 | omega), (show (cf74 46).toInt = (cf 46).toInt from by first | exact e82 | omega), (show (cf74 47).toInt = (cf 47).toInt from by first | exact e83 | omega), (show (cf74 48).toInt = (cf 48).toInt from by first | exact e81 | omega), (show (cf74 54).toInt = (cf 54).toInt from by first | exact hkk54_e77 | omega), (show (cf74 55).toInt = (cf 55).toInt from by first | exact hkk55_e77 | omega), (show (cf74 59).toInt = (cf 59).toInt from by first | exact hkk59_e77 | omega), (show Ann na ma0 ma73 from han), (show FrC lo hi ma ma73 from hfc), (show 0 ≤ (0 : Int) from by first | decide | omega), (show (0 : Int) ≤ 4096 from by first | decide | omega), (show 0 ≤ (0 : Int) from by first | decide | omega), (show (0 : Int) ≤ 4096 from by first | decide | omega), (show (0 : Int) ≤ 4 * (0 : Int) from by first | decide | omega), (show ZAv (upd cf74 58 0) ta na ma73 p0 (0 : Int) from (ZAvF (by first | exact zr_no (by first | with_reducible rfl | with_reducible assumption | omega) | exact zav_0 han (by first | with_reducible rfl | with_reducible assumption | omega) (by have hav0 := hav.k0; omega) | exact zav_2 han (by first | with_reducible rfl | with_reducible assumption | omega) (by first | with_reducible rfl | with_reducible assumption | omega) hrl (by first | with_reducible rfl | with_reducible assumption | omega) (by first | with_reducible rfl | with_reducible assumption | omega) (by first | with_reducible rfl | with_reducible assumption | omega) | exact zav_3 han (by first | with_reducible rfl | with_reducible assumption | omega) (by first | with_reducible rfl | with_reducible assumption | omega) ha_z252 (by first | with_reducible rfl | with_reducible assumption | omega))))⟩) d_Mpg_declareArray_208
                  · have nc294 : ¬ p1.toInt = (0 : Int) := mt (i_eq (x := p1) (y := 0)).mpr c294
                    refine lv_aload_n S.x S.b d_Mpg_declareArray_193 rfl (lv_at hl 2 rfl) ?_
                    refine px_get S k_Mpg hT hw 0 0 58 (v := .int 0) rfl rfl rfl (by decide) m10_55 d_Mpg_declareArray_194 ?_
                    refine lv_iconst (v := 3) S.x S.b d_Mpg_declareArray_197 (by decide) ?_
                    refine lv_iadd S.x S.b d_Mpg_declareArray_198 ?_
                    refine lv_topi (fun z295 ez295 => ?_)
                    have tz295 : z295.toInt = ((0 : Int) + (3 : Int) + 2147483648) % 4294967296 - 2147483648 := by rw [ez295]; exact i_add 0 3
                    have lz295 := Int32.le_toInt z295
                    have uz295 := Int32.toInt_lt z295
                    try replace tz295 : z295.toInt = (0 : Int) + (3 : Int) := by omega
                    refine lv_iconst (v := 4) S.x S.b d_Mpg_declareArray_199 (by decide) ?_
                    refine lv_idiv S.x S.b d_Mpg_declareArray_200 (fun hz0 => by have hz1 := i_eq.mp hz0; omega) ?_
                    refine lv_topi (fun z296 ez296 => ?_)
                    have lz296 := Int32.le_toInt z296
                    have uz296 := Int32.toInt_lt z296
                    have hd4 := i_div4 ez296 (by first | with_reducible rfl | with_reducible assumption | omega)
                    refine lv_goto (tgt := 208) S.x S.b d_Mpg_declareArray_201 (by decide) ?_
                    exact px_iret (v := z296) S hr rfl hlk hAe hw (Nat.le_of_ble_eq_true rfl) (Nat.le_of_ble_eq_true rfl) (⟨ma73, (upd cf74 58 0), rfl, (show (cf74 30).toInt = 0 → (cf 30).toInt = 0 from by first | exact hkz_e77 | omega), (show WrV (upd cf74 58 0) (tf 6).toInt from (WrV.u hwr (by decide) (by decide))), (show (cf74 33).toInt = (cf 33).toInt from by first | exact e79 | omega), (show (cf74 37).toInt = (cf 37).toInt from by first | exact hkk37_e77 | omega), (show (cf74 38).toInt = (cf 38).toInt from by first | exact e80 | omega), (show (cf74 41).toInt = (cf 41).toInt from by first | exact hkk41_e77 | omega), (show (cf74 42).toInt = (cf 42).toInt from by first | exact hkk42_e77 | omega), (show (cf74 43).toInt = (cf 43).toInt from by first | exact hkk43_e77 | omega), (show (cf74 44).toInt = (cf 44).toInt from by first | exact hkk44_e77 | omega), (show (cf74 45).toInt = (cf 45).toInt from by first | exact hkk45_e77 | omega), (show (cf74 46).toInt = (cf 46).toInt from by first | exact e82 | omega), (show (cf74 47).toInt = (cf 47).toInt from by first | exact e83 | omega), (show (cf74 48).toInt = (cf 48).toInt from by first | exact e81 | omega), (show (cf74 54).toInt = (cf 54).toInt from by first | exact hkk54_e77 | omega), (show (cf74 55).toInt = (cf 55).toInt from by first | exact hkk55_e77 | omega), (show (cf74 59).toInt = (cf 59).toInt from by first | exact hkk59_e77 | omega), (show Ann na ma0 ma73 from han), (show FrC lo hi ma ma73 from hfc), (show 0 ≤ (0 : Int) from by first | decide | omega), (show (0 : Int) ≤ 4096 from by first | decide | omega), (show 0 ≤ z296.toInt from by first | with_reducible rfl | with_reducible assumption | omega), (show z296.toInt ≤ 4096 from by first | with_reducible rfl | with_reducible assumption | omega), (show (0 : Int) ≤ 4 * z296.toInt from by first | with_reducible rfl | with_reducible assumption | omega), (show ZAv (upd cf74 58 0) ta na ma73 p0 (0 : Int) from (ZAvF (by first | exact zr_no (by first | with_reducible rfl | with_reducible assumption | omega) | exact zav_0 han (by first | with_reducible rfl | with_reducible assumption | omega) (by have hav0 := hav.k0; omega) | exact zav_2 han (by first | with_reducible rfl | with_reducible assumption | omega) (by first | with_reducible rfl | with_reducible assumption | omega) hrl (by first | with_reducible rfl | with_reducible assumption | omega) (by first | with_reducible rfl | with_reducible assumption | omega) (by first | with_reducible rfl | with_reducible assumption | omega) | exact zav_3 han (by first | with_reducible rfl | with_reducible assumption | omega) (by first | with_reducible rfl | with_reducible assumption | omega) ha_z252 (by first | with_reducible rfl | with_reducible assumption | omega))))⟩) d_Mpg_declareArray_208
              · have nc288 : ¬ (cf74 57).toInt < (0 : Int) := mt (i_lt (x := (cf74 57)) (y := 0)).mpr c288
                refine lv_iload S.x S.b d_Mpg_declareArray_158 (lv_at hl 0 rfl) ?_
                refine lv_iload_n S.x S.b d_Mpg_declareArray_160 rfl (lv_at hl 1 rfl) ?_
                refine lv_icmp_le (tgt := 176) S.x S.b d_Mpg_declareArray_161 (by decide) (fun c297 => ?_) (fun c297 => ?_)
                · have nc297 : z254.toInt ≤ (cf74 57).toInt := (i_le (x := z254) (y := (cf74 57))).mp c297
                  refine lv_aload_n S.x S.b d_Mpg_declareArray_176 rfl (lv_at hl 2 rfl) ?_
                  refine lv_iload_n S.x S.b d_Mpg_declareArray_177 rfl (lv_at hl 1 rfl) ?_
                  refine lv_if_ge (tgt := 185) S.x S.b d_Mpg_declareArray_178 (by decide) (fun c298 => ?_) (fun c298 => ?_)
                  · have nc298 : (0 : Int) ≤ (cf74 57).toInt := (i_le (x := 0) (y := (cf74 57))).mp c298
                    refine lv_iload_n S.x S.b d_Mpg_declareArray_185 rfl (lv_at hl 1 rfl) ?_
                    refine px_put S k_Mpg hT hw 0 0 58 rfl rfl (by decide) m10_55 rfl rfl rfl (Nat.le_of_ble_eq_true rfl) d_Mpg_declareArray_186 (w' := wdP cs h r g tf ta pf na ma73 wa (upd cf74 58 (cf74 57)) ca ef ea xf xa) (ps' := [wdP cs h r g tf ta pf na ma73 wa (upd cf74 58 (cf74 57)) ca ef ea xf xa]) rfl rfl (fun H locs hw => ?_)
                    refine lv_iload_n S.x S.b d_Mpg_declareArray_189 rfl (lv_at hl 4 rfl) ?_
                    refine lv_if_eq (tgt := 204) S.x S.b d_Mpg_declareArray_190 (by decide) (fun c299 => ?_) (fun c299 => ?_)
                    · have nc299 : p1.toInt = (0 : Int) := (i_eq (x := p1) (y := 0)).mp c299
                      refine lv_aload_n S.x S.b d_Mpg_declareArray_204 rfl (lv_at hl 2 rfl) ?_
                      refine px_get S k_Mpg hT hw 0 0 58 (v := .int (cf74 57)) rfl rfl rfl (by decide) m10_55 d_Mpg_declareArray_205 ?_
                      exact px_iret (v := (cf74 57)) S hr rfl hlk hAe hw (Nat.le_of_ble_eq_true rfl) (Nat.le_of_ble_eq_true rfl) (⟨ma73, (upd cf74 58 (cf74 57)), rfl, (show (cf74 30).toInt = 0 → (cf 30).toInt = 0 from by first | exact hkz_e77 | omega), (show WrV (upd cf74 58 (cf74 57)) (tf 6).toInt from (WrV.u hwr (by decide) (by decide))), (show (cf74 33).toInt = (cf 33).toInt from by first | exact e79 | omega), (show (cf74 37).toInt = (cf 37).toInt from by first | exact hkk37_e77 | omega), (show (cf74 38).toInt = (cf 38).toInt from by first | exact e80 | omega), (show (cf74 41).toInt = (cf 41).toInt from by first | exact hkk41_e77 | omega), (show (cf74 42).toInt = (cf 42).toInt from by first | exact hkk42_e77 | omega), (show (cf74 43).toInt = (cf 43).toInt from by first | exact hkk43_e77 | omega), (show (cf74 44).toInt = (cf 44).toInt from by first | exact hkk44_e77 | omega), (show (cf74 45).toInt = (cf 45).toInt from by first | exact hkk45_e77 | omega), (show (cf74 46).toInt = (cf 46).toInt from by first | exact e82 | omega), (show (cf74 47).toInt = (cf 47).toInt from by first | exact e83 | omega), (show (cf74 48).toInt = (cf 48).toInt from by first | exact e81 | omega), (show (cf74 54).toInt = (cf 54).toInt from by first | exact hkk54_e77 | omega), (show (cf74 55).toInt = (cf 55).toInt from by first | exact hkk55_e77 | omega), (show (cf74 59).toInt = (cf 59).toInt from by first | exact hkk59_e77 | omega), (show Ann na ma0 ma73 from han), (show FrC lo hi ma ma73 from hfc), (show 0 ≤ (cf74 57).toInt from by first | exact oz_0184fb6be8 nc135 | omega), (show (cf74 57).toInt ≤ 4096 from by first | exact oz_d819beab09 nc239 | omega), (show 0 ≤ (cf74 57).toInt from by first | exact oz_0184fb6be8 nc135 | omega), (show (cf74 57).toInt ≤ 4096 from by first | exact oz_d819beab09 nc239 | omega), (show (cf74 57).toInt ≤ 4 * (cf74 57).toInt from by first | exact oz_404e7427cb nc135 | omega), (show ZAv (upd cf74 58 (cf74 57)) ta na ma73 p0 (cf74 57).toInt from (ZAvF (by first | exact zr_no (by first | with_reducible rfl | with_reducible assumption | omega) | exact zav_0 han (by first | with_reducible rfl | with_reducible assumption | omega) (by have hav0 := hav.k0; omega) | exact zav_2 han (by first | with_reducible rfl | with_reducible assumption | omega) (by first | with_reducible rfl | with_reducible assumption | omega) hrl (by first | with_reducible rfl | with_reducible assumption | omega) (by first | with_reducible rfl | with_reducible assumption | omega) (by first | with_reducible rfl | with_reducible assumption | omega) | exact zav_3 han (by first | with_reducible rfl | with_reducible assumption | omega) (by first | with_reducible rfl | with_reducible assumption | omega) ha_z252 (by first | with_reducible rfl | with_reducible assumption | omega))))⟩) d_Mpg_declareArray_208
                    · have nc299 : ¬ p1.toInt = (0 : Int) := mt (i_eq (x := p1) (y := 0)).mpr c299
                      refine lv_aload_n S.x S.b d_Mpg_declareArray_193 rfl (lv_at hl 2 rfl) ?_
                      refine px_get S k_Mpg hT hw 0 0 58 (v := .int (cf74 57)) rfl rfl rfl (by decide) m10_55 d_Mpg_declareArray_194 ?_
                      refine lv_iconst (v := 3) S.x S.b d_Mpg_declareArray_197 (by decide) ?_
                      refine lv_iadd S.x S.b d_Mpg_declareArray_198 ?_
                      have lr300 := Int32.le_toInt (cf74 57)
                      have ur300 := Int32.toInt_lt (cf74 57)
                      refine lv_topi (fun z301 ez301 => ?_)
                      have tz301 : z301.toInt = ((cf74 57).toInt + (3 : Int) + 2147483648) % 4294967296 - 2147483648 := by rw [ez301]; exact i_add (cf74 57) 3
                      have lz301 := Int32.le_toInt z301
                      have uz301 := Int32.toInt_lt z301
                      try replace tz301 : z301.toInt = (cf74 57).toInt + (3 : Int) := by omega
                      refine lv_iconst (v := 4) S.x S.b d_Mpg_declareArray_199 (by decide) ?_
                      refine lv_idiv S.x S.b d_Mpg_declareArray_200 (fun hz0 => by have hz1 := i_eq.mp hz0; omega) ?_
                      refine lv_topi (fun z302 ez302 => ?_)
                      have lz302 := Int32.le_toInt z302
                      have uz302 := Int32.toInt_lt z302
                      have hd4 := i_div4 ez302 (by first | with_reducible rfl | with_reducible assumption | omega)
                      refine lv_goto (tgt := 208) S.x S.b d_Mpg_declareArray_201 (by decide) ?_
                      exact px_iret (v := z302) S hr rfl hlk hAe hw (Nat.le_of_ble_eq_true rfl) (Nat.le_of_ble_eq_true rfl) (⟨ma73, (upd cf74 58 (cf74 57)), rfl, (show (cf74 30).toInt = 0 → (cf 30).toInt = 0 from by first | exact hkz_e77 | omega), (show WrV (upd cf74 58 (cf74 57)) (tf 6).toInt from (WrV.u hwr (by decide) (by decide))), (show (cf74 33).toInt = (cf 33).toInt from by first | exact e79 | omega), (show (cf74 37).toInt = (cf 37).toInt from by first | exact hkk37_e77 | omega), (show (cf74 38).toInt = (cf 38).toInt from by first | exact e80 | omega), (show (cf74 41).toInt = (cf 41).toInt from by first | exact hkk41_e77 | omega), (show (cf74 42).toInt = (cf 42).toInt from by first | exact hkk42_e77 | omega), (show (cf74 43).toInt = (cf 43).toInt from by first | exact hkk43_e77 | omega), (show (cf74 44).toInt = (cf 44).toInt from by first | exact hkk44_e77 | omega), (show (cf74 45).toInt = (cf 45).toInt from by first | exact hkk45_e77 | omega), (show (cf74 46).toInt = (cf 46).toInt from by first | exact e82 | omega), (show (cf74 47).toInt = (cf 47).toInt from by first | exact e83 | omega), (show (cf74 48).toInt = (cf 48).toInt from by first | exact e81 | omega), (show (cf74 54).toInt = (cf 54).toInt from by first | exact hkk54_e77 | omega), (show (cf74 55).toInt = (cf 55).toInt from by first | exact hkk55_e77 | omega), (show (cf74 59).toInt = (cf 59).toInt from by first | exact hkk59_e77 | omega), (show Ann na ma0 ma73 from han), (show FrC lo hi ma ma73 from hfc), (show 0 ≤ (cf74 57).toInt from by first | exact oz_0184fb6be8 nc135 | omega), (show (cf74 57).toInt ≤ 4096 from by first | exact oz_d819beab09 nc239 | omega), (show 0 ≤ z302.toInt from by first | with_reducible rfl | with_reducible assumption | omega), (show z302.toInt ≤ 4096 from by first | with_reducible rfl | with_reducible assumption | omega), (show (cf74 57).toInt ≤ 4 * z302.toInt from by first | with_reducible rfl | with_reducible assumption | omega), (show ZAv (upd cf74 58 (cf74 57)) ta na ma73 p0 (cf74 57).toInt from (ZAvF (by first | exact zr_no (by first | with_reducible rfl | with_reducible assumption | omega) | exact zav_0 han (by first | with_reducible rfl | with_reducible assumption | omega) (by have hav0 := hav.k0; omega) | exact zav_2 han (by first | with_reducible rfl | with_reducible assumption | omega) (by first | with_reducible rfl | with_reducible assumption | omega) hrl (by first | with_reducible rfl | with_reducible assumption | omega) (by first | with_reducible rfl | with_reducible assumption | omega) (by first | with_reducible rfl | with_reducible assumption | omega) | exact zav_3 han (by first | with_reducible rfl | with_reducible assumption | omega) (by first | with_reducible rfl | with_reducible assumption | omega) ha_z252 (by first | with_reducible rfl | with_reducible assumption | omega))))⟩) d_Mpg_declareArray_208
                  · have nc298 : ¬ (0 : Int) ≤ (cf74 57).toInt := mt (i_le (x := 0) (y := (cf74 57))).mpr c298
                    refine lv_iconst (v := 0) S.x S.b d_Mpg_declareArray_181 (by decide) ?_
                    refine lv_goto (tgt := 186) S.x S.b d_Mpg_declareArray_182 (by decide) ?_
                    refine px_put S k_Mpg hT hw 0 0 58 rfl rfl (by decide) m10_55 rfl rfl rfl (Nat.le_of_ble_eq_true rfl) d_Mpg_declareArray_186 (w' := wdP cs h r g tf ta pf na ma73 wa (upd cf74 58 0) ca ef ea xf xa) (ps' := [wdP cs h r g tf ta pf na ma73 wa (upd cf74 58 0) ca ef ea xf xa]) rfl rfl (fun H locs hw => ?_)
                    refine lv_iload_n S.x S.b d_Mpg_declareArray_189 rfl (lv_at hl 4 rfl) ?_
                    refine lv_if_eq (tgt := 204) S.x S.b d_Mpg_declareArray_190 (by decide) (fun c303 => ?_) (fun c303 => ?_)
                    · have nc303 : p1.toInt = (0 : Int) := (i_eq (x := p1) (y := 0)).mp c303
                      refine lv_aload_n S.x S.b d_Mpg_declareArray_204 rfl (lv_at hl 2 rfl) ?_
                      refine px_get S k_Mpg hT hw 0 0 58 (v := .int 0) rfl rfl rfl (by decide) m10_55 d_Mpg_declareArray_205 ?_
                      exact px_iret (v := 0) S hr rfl hlk hAe hw (Nat.le_of_ble_eq_true rfl) (Nat.le_of_ble_eq_true rfl) (⟨ma73, (upd cf74 58 0), rfl, (show (cf74 30).toInt = 0 → (cf 30).toInt = 0 from by first | exact hkz_e77 | omega), (show WrV (upd cf74 58 0) (tf 6).toInt from (WrV.u hwr (by decide) (by decide))), (show (cf74 33).toInt = (cf 33).toInt from by first | exact e79 | omega), (show (cf74 37).toInt = (cf 37).toInt from by first | exact hkk37_e77 | omega), (show (cf74 38).toInt = (cf 38).toInt from by first | exact e80 | omega), (show (cf74 41).toInt = (cf 41).toInt from by first | exact hkk41_e77 | omega), (show (cf74 42).toInt = (cf 42).toInt from by first | exact hkk42_e77 | omega), (show (cf74 43).toInt = (cf 43).toInt from by first | exact hkk43_e77 | omega), (show (cf74 44).toInt = (cf 44).toInt from by first | exact hkk44_e77 | omega), (show (cf74 45).toInt = (cf 45).toInt from by first | exact hkk45_e77 | omega), (show (cf74 46).toInt = (cf 46).toInt from by first | exact e82 | omega), (show (cf74 47).toInt = (cf 47).toInt from by first | exact e83 | omega), (show (cf74 48).toInt = (cf 48).toInt from by first | exact e81 | omega), (show (cf74 54).toInt = (cf 54).toInt from by first | exact hkk54_e77 | omega), (show (cf74 55).toInt = (cf 55).toInt from by first | exact hkk55_e77 | omega), (show (cf74 59).toInt = (cf 59).toInt from by first | exact hkk59_e77 | omega), (show Ann na ma0 ma73 from han), (show FrC lo hi ma ma73 from hfc), (show 0 ≤ (0 : Int) from by first | decide | omega), (show (0 : Int) ≤ 4096 from by first | decide | omega), (show 0 ≤ (0 : Int) from by first | decide | omega), (show (0 : Int) ≤ 4096 from by first | decide | omega), (show (0 : Int) ≤ 4 * (0 : Int) from by first | decide | omega), (show ZAv (upd cf74 58 0) ta na ma73 p0 (0 : Int) from (ZAvF (by first | exact zr_no (by first | with_reducible rfl | with_reducible assumption | omega) | exact zav_0 han (by first | with_reducible rfl | with_reducible assumption | omega) (by have hav0 := hav.k0; omega) | exact zav_2 han (by first | with_reducible rfl | with_reducible assumption | omega) (by first | with_reducible rfl | with_reducible assumption | omega) hrl (by first | with_reducible rfl | with_reducible assumption | omega) (by first | with_reducible rfl | with_reducible assumption | omega) (by first | with_reducible rfl | with_reducible assumption | omega) | exact zav_3 han (by first | with_reducible rfl | with_reducible assumption | omega) (by first | with_reducible rfl | with_reducible assumption | omega) ha_z252 (by first | with_reducible rfl | with_reducible assumption | omega))))⟩) d_Mpg_declareArray_208
                    · have nc303 : ¬ p1.toInt = (0 : Int) := mt (i_eq (x := p1) (y := 0)).mpr c303
                      refine lv_aload_n S.x S.b d_Mpg_declareArray_193 rfl (lv_at hl 2 rfl) ?_
                      refine px_get S k_Mpg hT hw 0 0 58 (v := .int 0) rfl rfl rfl (by decide) m10_55 d_Mpg_declareArray_194 ?_
                      refine lv_iconst (v := 3) S.x S.b d_Mpg_declareArray_197 (by decide) ?_
                      refine lv_iadd S.x S.b d_Mpg_declareArray_198 ?_
                      refine lv_topi (fun z304 ez304 => ?_)
                      have tz304 : z304.toInt = ((0 : Int) + (3 : Int) + 2147483648) % 4294967296 - 2147483648 := by rw [ez304]; exact i_add 0 3
                      have lz304 := Int32.le_toInt z304
                      have uz304 := Int32.toInt_lt z304
                      try replace tz304 : z304.toInt = (0 : Int) + (3 : Int) := by omega
                      refine lv_iconst (v := 4) S.x S.b d_Mpg_declareArray_199 (by decide) ?_
                      refine lv_idiv S.x S.b d_Mpg_declareArray_200 (fun hz0 => by have hz1 := i_eq.mp hz0; omega) ?_
                      refine lv_topi (fun z305 ez305 => ?_)
                      have lz305 := Int32.le_toInt z305
                      have uz305 := Int32.toInt_lt z305
                      have hd4 := i_div4 ez305 (by first | with_reducible rfl | with_reducible assumption | omega)
                      refine lv_goto (tgt := 208) S.x S.b d_Mpg_declareArray_201 (by decide) ?_
                      exact px_iret (v := z305) S hr rfl hlk hAe hw (Nat.le_of_ble_eq_true rfl) (Nat.le_of_ble_eq_true rfl) (⟨ma73, (upd cf74 58 0), rfl, (show (cf74 30).toInt = 0 → (cf 30).toInt = 0 from by first | exact hkz_e77 | omega), (show WrV (upd cf74 58 0) (tf 6).toInt from (WrV.u hwr (by decide) (by decide))), (show (cf74 33).toInt = (cf 33).toInt from by first | exact e79 | omega), (show (cf74 37).toInt = (cf 37).toInt from by first | exact hkk37_e77 | omega), (show (cf74 38).toInt = (cf 38).toInt from by first | exact e80 | omega), (show (cf74 41).toInt = (cf 41).toInt from by first | exact hkk41_e77 | omega), (show (cf74 42).toInt = (cf 42).toInt from by first | exact hkk42_e77 | omega), (show (cf74 43).toInt = (cf 43).toInt from by first | exact hkk43_e77 | omega), (show (cf74 44).toInt = (cf 44).toInt from by first | exact hkk44_e77 | omega), (show (cf74 45).toInt = (cf 45).toInt from by first | exact hkk45_e77 | omega), (show (cf74 46).toInt = (cf 46).toInt from by first | exact e82 | omega), (show (cf74 47).toInt = (cf 47).toInt from by first | exact e83 | omega), (show (cf74 48).toInt = (cf 48).toInt from by first | exact e81 | omega), (show (cf74 54).toInt = (cf 54).toInt from by first | exact hkk54_e77 | omega), (show (cf74 55).toInt = (cf 55).toInt from by first | exact hkk55_e77 | omega), (show (cf74 59).toInt = (cf 59).toInt from by first | exact hkk59_e77 | omega), (show Ann na ma0 ma73 from han), (show FrC lo hi ma ma73 from hfc), (show 0 ≤ (0 : Int) from by first | decide | omega), (show (0 : Int) ≤ 4096 from by first | decide | omega), (show 0 ≤ z305.toInt from by first | with_reducible rfl | with_reducible assumption | omega), (show z305.toInt ≤ 4096 from by first | with_reducible rfl | with_reducible assumption | omega), (show (0 : Int) ≤ 4 * z305.toInt from by first | with_reducible rfl | with_reducible assumption | omega), (show ZAv (upd cf74 58 0) ta na ma73 p0 (0 : Int) from (ZAvF (by first | exact zr_no (by first | with_reducible rfl | with_reducible assumption | omega) | exact zav_0 han (by first | with_reducible rfl | with_reducible assumption | omega) (by have hav0 := hav.k0; omega) | exact zav_2 han (by first | with_reducible rfl | with_reducible assumption | omega) (by first | with_reducible rfl | with_reducible assumption | omega) hrl (by first | with_reducible rfl | with_reducible assumption | omega) (by first | with_reducible rfl | with_reducible assumption | omega) (by first | with_reducible rfl | with_reducible assumption | omega) | exact zav_3 han (by first | with_reducible rfl | with_reducible assumption | omega) (by first | with_reducible rfl | with_reducible assumption | omega) ha_z252 (by first | with_reducible rfl | with_reducible assumption | omega))))⟩) d_Mpg_declareArray_208
                · have nc297 : ¬ z254.toInt ≤ (cf74 57).toInt := mt (i_le (x := z254) (y := (cf74 57))).mpr c297
                  refine lv_aload_n S.x S.b d_Mpg_declareArray_164 rfl (lv_at hl 2 rfl) ?_
                  refine lv_bipush (v := 8) S.x S.b d_Mpg_declareArray_165 (by decide) ?_
                  refine lv_aload_n S.x S.b d_Mpg_declareArray_167 rfl (lv_at hl 2 rfl) ?_
                  refine px_get S k_Mpg hT hw 0 0 19 (v := .ref (r 19)) rfl rfl rfl (by decide) m10_5 d_Mpg_declareArray_168 ?_
                  refine lv_iload_n S.x S.b d_Mpg_declareArray_171 rfl (lv_at hl 3 rfl) ?_
                  refine px_iald S hT hw 0 15 (n := 2100) (f := (ma73 19)) rfl gp_19 (x := p0) (vp_in_iff.mpr (by first | exact oz_a7e05de1cd hvr.2.2.1 hvr.2.1 g1 g2 | (constructor <;> omega))) d_Mpg_declareArray_172 ?_
                  refine lv_topi (fun z306 ez306 => ?_)
                  have lz306 := Int32.le_toInt z306
                  have uz306 := Int32.toInt_lt z306
                  have ha_z306 : z306 = ma0 19 p0.toNatClampNeg := ez306.trans (Ann.v19 han (by first | with_reducible rfl | with_reducible assumption | omega)); have hn_z306 : z306.toInt = (ma0 19 p0.toNatClampNeg).toInt := (by rw [ha_z306]); have hk3 := hav.k3 (by first | with_reducible rfl | with_reducible assumption | omega); rw [← ha_z306] at hk3
                  refine px_callv (pr := []) (px_runV (As := [.int 8, .int z306]) (rest := []) S (c_mp_bad l D cs h r g tf ta pf na ma73 wa ca ef ea xf xa cf74 8 z306  (show 1 ≤ (8 : Int) from by first | decide | omega) (show 0 ≤ z306.toInt from by first | exact oz_f3ebed1ad0 hn_z306 hk3.1 | omega) (show z306.toInt < (tf 6).toInt from by first | exact oz_b0a61accca hk3.2.1 hn_z306 | omega) htk hwr _) hT (pr := []) (pcs := [wdP cs h r g tf ta pf na ma73 wa cf74 ca ef ea xf xa]) hw px_X.tt (px_recv hT hw 0 0 rfl rfl rfl) m12_173 m12_170 m12_172 ms_11_12 m1_21 q_Mpg_bad ⟨show 0 + 1 ≤ (4 * d + 20) from by first | with_reducible rfl | with_reducible assumption | omega, show 8 + (3 + 11) + 0 ≤ (200 * d + 700) from by first | with_reducible rfl | with_reducible assumption | omega⟩ hl.1 rfl (Nat.le_of_ble_eq_true rfl) d_Mpg_declareArray_173 ⟨Nat.le_of_ble_eq_true rfl, Nat.le_of_ble_eq_true rfl⟩) hw hA (fun p309 H locs hp309 hw => ?_)
                  obtain ⟨cf308, rfl, e311, e312, e313, e314, e315, e316, e317, e318, e319, e320, e321, e322, e323, e324, e325, e326, e327, e328, e329⟩ := hp309
                  have e311 : KpE cf74 cf308 := e311
                  have hkz_e311 := e311.2
                  have e312 : WrV cf308 (tf 6).toInt := e312
                  have hwr := e312
                  have hw0_e312 := hwr.1
                  have e313 : 1 ≤ (cf308 30).toInt := e313
                  have e314 : (cf308 33).toInt = (cf74 33).toInt := e314
                  have e315 : (cf308 38).toInt = (cf74 38).toInt := e315
                  have e316 : (cf308 48).toInt = (cf74 48).toInt := e316
                  have e317 : (cf308 46).toInt = (cf74 46).toInt := e317
                  have e318 : (cf308 47).toInt = (cf74 47).toInt := e318
                  have e319 : (cf308 57).toInt = (cf74 57).toInt := e319
                  have e320 : (cf308 37).toInt = (cf74 37).toInt := e320
                  have e321 : (cf308 42).toInt = (cf74 42).toInt := e321
                  have e322 : (cf308 43).toInt = (cf74 43).toInt := e322
                  have e323 : (cf308 44).toInt = (cf74 44).toInt := e323
                  have e324 : (cf308 45).toInt = (cf74 45).toInt := e324
                  have e325 : (cf308 54).toInt = (cf74 54).toInt := e325
                  have e326 : (cf308 55).toInt = (cf74 55).toInt := e326
                  have e327 : (cf308 58).toInt = (cf74 58).toInt := e327
                  have e328 : (cf308 59).toInt = (cf74 59).toInt := e328
                  have e329 : (cf308 41).toInt = (cf74 41).toInt := e329
                  have hw : pw D A s.heap H locs [wdP cs h r g tf ta pf na ma73 wa cf308 ca ef ea xf xa] := hw
                  refine lv_aload_n S.x S.b d_Mpg_declareArray_176 rfl (lv_at hl 2 rfl) ?_
                  refine lv_iload_n S.x S.b d_Mpg_declareArray_177 rfl (lv_at hl 1 rfl) ?_
                  refine lv_if_ge (tgt := 185) S.x S.b d_Mpg_declareArray_178 (by decide) (fun c330 => ?_) (fun c330 => ?_)
                  · have nc330 : (0 : Int) ≤ (cf74 57).toInt := (i_le (x := 0) (y := (cf74 57))).mp c330
                    refine lv_iload_n S.x S.b d_Mpg_declareArray_185 rfl (lv_at hl 1 rfl) ?_
                    refine px_put S k_Mpg hT hw 0 0 58 rfl rfl (by decide) m10_55 rfl rfl rfl (Nat.le_of_ble_eq_true rfl) d_Mpg_declareArray_186 (w' := wdP cs h r g tf ta pf na ma73 wa (upd cf308 58 (cf74 57)) ca ef ea xf xa) (ps' := [wdP cs h r g tf ta pf na ma73 wa (upd cf308 58 (cf74 57)) ca ef ea xf xa]) rfl rfl (fun H locs hw => ?_)
                    refine lv_iload_n S.x S.b d_Mpg_declareArray_189 rfl (lv_at hl 4 rfl) ?_
                    refine lv_if_eq (tgt := 204) S.x S.b d_Mpg_declareArray_190 (by decide) (fun c331 => ?_) (fun c331 => ?_)
                    · have nc331 : p1.toInt = (0 : Int) := (i_eq (x := p1) (y := 0)).mp c331
                      refine lv_aload_n S.x S.b d_Mpg_declareArray_204 rfl (lv_at hl 2 rfl) ?_
                      refine px_get S k_Mpg hT hw 0 0 58 (v := .int (cf74 57)) rfl rfl rfl (by decide) m10_55 d_Mpg_declareArray_205 ?_
                      exact px_iret (v := (cf74 57)) S hr rfl hlk hAe hw (Nat.le_of_ble_eq_true rfl) (Nat.le_of_ble_eq_true rfl) (⟨ma73, (upd cf308 58 (cf74 57)), rfl, (show (cf308 30).toInt = 0 → (cf 30).toInt = 0 from by first | with_reducible rfl | with_reducible assumption | omega), (show WrV (upd cf308 58 (cf74 57)) (tf 6).toInt from (WrV.u hwr (by decide) (by decide))), (show (cf308 33).toInt = (cf 33).toInt from by first | exact oz_1687f4cc65 e79 e314 | omega), (show (cf308 37).toInt = (cf 37).toInt from by first | exact oz_1687f4cc65 hkk37_e77 e320 | omega), (show (cf308 38).toInt = (cf 38).toInt from by first | exact oz_1687f4cc65 e80 e315 | omega), (show (cf308 41).toInt = (cf 41).toInt from by first | exact oz_1687f4cc65 hkk41_e77 e329 | omega), (show (cf308 42).toInt = (cf 42).toInt from by first | exact oz_1687f4cc65 hkk42_e77 e321 | omega), (show (cf308 43).toInt = (cf 43).toInt from by first | exact oz_1687f4cc65 hkk43_e77 e322 | omega), (show (cf308 44).toInt = (cf 44).toInt from by first | exact oz_1687f4cc65 hkk44_e77 e323 | omega), (show (cf308 45).toInt = (cf 45).toInt from by first | exact oz_1687f4cc65 hkk45_e77 e324 | omega), (show (cf308 46).toInt = (cf 46).toInt from by first | exact oz_1687f4cc65 e82 e317 | omega), (show (cf308 47).toInt = (cf 47).toInt from by first | exact oz_1687f4cc65 e83 e318 | omega), (show (cf308 48).toInt = (cf 48).toInt from by first | exact oz_1687f4cc65 e81 e316 | omega), (show (cf308 54).toInt = (cf 54).toInt from by first | exact oz_1687f4cc65 hkk54_e77 e325 | omega), (show (cf308 55).toInt = (cf 55).toInt from by first | exact oz_1687f4cc65 hkk55_e77 e326 | omega), (show (cf308 59).toInt = (cf 59).toInt from by first | exact oz_1687f4cc65 hkk59_e77 e328 | omega), (show Ann na ma0 ma73 from han), (show FrC lo hi ma ma73 from hfc), (show 0 ≤ (cf74 57).toInt from by first | exact oz_0184fb6be8 nc135 | omega), (show (cf74 57).toInt ≤ 4096 from by first | exact oz_d819beab09 nc239 | omega), (show 0 ≤ (cf74 57).toInt from by first | exact oz_0184fb6be8 nc135 | omega), (show (cf74 57).toInt ≤ 4096 from by first | exact oz_d819beab09 nc239 | omega), (show (cf74 57).toInt ≤ 4 * (cf74 57).toInt from by first | exact oz_404e7427cb nc135 | omega), (show ZAv (upd cf308 58 (cf74 57)) ta na ma73 p0 (cf74 57).toInt from (zr_no (by first | omega | (show 1 ≤ _; rw [pk_un (by decide)]; omega))))⟩) d_Mpg_declareArray_208
                    · have nc331 : ¬ p1.toInt = (0 : Int) := mt (i_eq (x := p1) (y := 0)).mpr c331
                      refine lv_aload_n S.x S.b d_Mpg_declareArray_193 rfl (lv_at hl 2 rfl) ?_
                      refine px_get S k_Mpg hT hw 0 0 58 (v := .int (cf74 57)) rfl rfl rfl (by decide) m10_55 d_Mpg_declareArray_194 ?_
                      refine lv_iconst (v := 3) S.x S.b d_Mpg_declareArray_197 (by decide) ?_
                      refine lv_iadd S.x S.b d_Mpg_declareArray_198 ?_
                      have lr332 := Int32.le_toInt (cf74 57)
                      have ur332 := Int32.toInt_lt (cf74 57)
                      refine lv_topi (fun z333 ez333 => ?_)
                      have tz333 : z333.toInt = ((cf74 57).toInt + (3 : Int) + 2147483648) % 4294967296 - 2147483648 := by rw [ez333]; exact i_add (cf74 57) 3
                      have lz333 := Int32.le_toInt z333
                      have uz333 := Int32.toInt_lt z333
                      try replace tz333 : z333.toInt = (cf74 57).toInt + (3 : Int) := by omega
                      refine lv_iconst (v := 4) S.x S.b d_Mpg_declareArray_199 (by decide) ?_
                      refine lv_idiv S.x S.b d_Mpg_declareArray_200 (fun hz0 => by have hz1 := i_eq.mp hz0; omega) ?_
                      refine lv_topi (fun z334 ez334 => ?_)
                      have lz334 := Int32.le_toInt z334
                      have uz334 := Int32.toInt_lt z334
                      have hd4 := i_div4 ez334 (by first | with_reducible rfl | with_reducible assumption | omega)
                      refine lv_goto (tgt := 208) S.x S.b d_Mpg_declareArray_201 (by decide) ?_
                      exact px_iret (v := z334) S hr rfl hlk hAe hw (Nat.le_of_ble_eq_true rfl) (Nat.le_of_ble_eq_true rfl) (⟨ma73, (upd cf308 58 (cf74 57)), rfl, (show (cf308 30).toInt = 0 → (cf 30).toInt = 0 from by first | with_reducible rfl | with_reducible assumption | omega), (show WrV (upd cf308 58 (cf74 57)) (tf 6).toInt from (WrV.u hwr (by decide) (by decide))), (show (cf308 33).toInt = (cf 33).toInt from by first | exact oz_1687f4cc65 e79 e314 | omega), (show (cf308 37).toInt = (cf 37).toInt from by first | exact oz_1687f4cc65 hkk37_e77 e320 | omega), (show (cf308 38).toInt = (cf 38).toInt from by first | exact oz_1687f4cc65 e80 e315 | omega), (show (cf308 41).toInt = (cf 41).toInt from by first | exact oz_1687f4cc65 hkk41_e77 e329 | omega), (show (cf308 42).toInt = (cf 42).toInt from by first | exact oz_1687f4cc65 hkk42_e77 e321 | omega), (show (cf308 43).toInt = (cf 43).toInt from by first | exact oz_1687f4cc65 hkk43_e77 e322 | omega), (show (cf308 44).toInt = (cf 44).toInt from by first | exact oz_1687f4cc65 hkk44_e77 e323 | omega), (show (cf308 45).toInt = (cf 45).toInt from by first | exact oz_1687f4cc65 hkk45_e77 e324 | omega), (show (cf308 46).toInt = (cf 46).toInt from by first | exact oz_1687f4cc65 e82 e317 | omega), (show (cf308 47).toInt = (cf 47).toInt from by first | exact oz_1687f4cc65 e83 e318 | omega), (show (cf308 48).toInt = (cf 48).toInt from by first | exact oz_1687f4cc65 e81 e316 | omega), (show (cf308 54).toInt = (cf 54).toInt from by first | exact oz_1687f4cc65 hkk54_e77 e325 | omega), (show (cf308 55).toInt = (cf 55).toInt from by first | exact oz_1687f4cc65 hkk55_e77 e326 | omega), (show (cf308 59).toInt = (cf 59).toInt from by first | exact oz_1687f4cc65 hkk59_e77 e328 | omega), (show Ann na ma0 ma73 from han), (show FrC lo hi ma ma73 from hfc), (show 0 ≤ (cf74 57).toInt from by first | exact oz_0184fb6be8 nc135 | omega), (show (cf74 57).toInt ≤ 4096 from by first | exact oz_d819beab09 nc239 | omega), (show 0 ≤ z334.toInt from by first | with_reducible rfl | with_reducible assumption | omega), (show z334.toInt ≤ 4096 from by first | with_reducible rfl | with_reducible assumption | omega), (show (cf74 57).toInt ≤ 4 * z334.toInt from by first | with_reducible rfl | with_reducible assumption | omega), (show ZAv (upd cf308 58 (cf74 57)) ta na ma73 p0 (cf74 57).toInt from (zr_no (by first | omega | (show 1 ≤ _; rw [pk_un (by decide)]; omega))))⟩) d_Mpg_declareArray_208
                  · have nc330 : ¬ (0 : Int) ≤ (cf74 57).toInt := mt (i_le (x := 0) (y := (cf74 57))).mpr c330
                    refine lv_iconst (v := 0) S.x S.b d_Mpg_declareArray_181 (by decide) ?_
                    refine lv_goto (tgt := 186) S.x S.b d_Mpg_declareArray_182 (by decide) ?_
                    refine px_put S k_Mpg hT hw 0 0 58 rfl rfl (by decide) m10_55 rfl rfl rfl (Nat.le_of_ble_eq_true rfl) d_Mpg_declareArray_186 (w' := wdP cs h r g tf ta pf na ma73 wa (upd cf308 58 0) ca ef ea xf xa) (ps' := [wdP cs h r g tf ta pf na ma73 wa (upd cf308 58 0) ca ef ea xf xa]) rfl rfl (fun H locs hw => ?_)
                    refine lv_iload_n S.x S.b d_Mpg_declareArray_189 rfl (lv_at hl 4 rfl) ?_
                    refine lv_if_eq (tgt := 204) S.x S.b d_Mpg_declareArray_190 (by decide) (fun c335 => ?_) (fun c335 => ?_)
                    · have nc335 : p1.toInt = (0 : Int) := (i_eq (x := p1) (y := 0)).mp c335
                      refine lv_aload_n S.x S.b d_Mpg_declareArray_204 rfl (lv_at hl 2 rfl) ?_
                      refine px_get S k_Mpg hT hw 0 0 58 (v := .int 0) rfl rfl rfl (by decide) m10_55 d_Mpg_declareArray_205 ?_
                      exact px_iret (v := 0) S hr rfl hlk hAe hw (Nat.le_of_ble_eq_true rfl) (Nat.le_of_ble_eq_true rfl) (⟨ma73, (upd cf308 58 0), rfl, (show (cf308 30).toInt = 0 → (cf 30).toInt = 0 from by first | with_reducible rfl | with_reducible assumption | omega), (show WrV (upd cf308 58 0) (tf 6).toInt from (WrV.u hwr (by decide) (by decide))), (show (cf308 33).toInt = (cf 33).toInt from by first | exact oz_1687f4cc65 e79 e314 | omega), (show (cf308 37).toInt = (cf 37).toInt from by first | exact oz_1687f4cc65 hkk37_e77 e320 | omega), (show (cf308 38).toInt = (cf 38).toInt from by first | exact oz_1687f4cc65 e80 e315 | omega), (show (cf308 41).toInt = (cf 41).toInt from by first | exact oz_1687f4cc65 hkk41_e77 e329 | omega), (show (cf308 42).toInt = (cf 42).toInt from by first | exact oz_1687f4cc65 hkk42_e77 e321 | omega), (show (cf308 43).toInt = (cf 43).toInt from by first | exact oz_1687f4cc65 hkk43_e77 e322 | omega), (show (cf308 44).toInt = (cf 44).toInt from by first | exact oz_1687f4cc65 hkk44_e77 e323 | omega), (show (cf308 45).toInt = (cf 45).toInt from by first | exact oz_1687f4cc65 hkk45_e77 e324 | omega), (show (cf308 46).toInt = (cf 46).toInt from by first | exact oz_1687f4cc65 e82 e317 | omega), (show (cf308 47).toInt = (cf 47).toInt from by first | exact oz_1687f4cc65 e83 e318 | omega), (show (cf308 48).toInt = (cf 48).toInt from by first | exact oz_1687f4cc65 e81 e316 | omega), (show (cf308 54).toInt = (cf 54).toInt from by first | exact oz_1687f4cc65 hkk54_e77 e325 | omega), (show (cf308 55).toInt = (cf 55).toInt from by first | exact oz_1687f4cc65 hkk55_e77 e326 | omega), (show (cf308 59).toInt = (cf 59).toInt from by first | exact oz_1687f4cc65 hkk59_e77 e328 | omega), (show Ann na ma0 ma73 from han), (show FrC lo hi ma ma73 from hfc), (show 0 ≤ (0 : Int) from by first | decide | omega), (show (0 : Int) ≤ 4096 from by first | decide | omega), (show 0 ≤ (0 : Int) from by first | decide | omega), (show (0 : Int) ≤ 4096 from by first | decide | omega), (show (0 : Int) ≤ 4 * (0 : Int) from by first | decide | omega), (show ZAv (upd cf308 58 0) ta na ma73 p0 (0 : Int) from (zr_no (by first | omega | (show 1 ≤ _; rw [pk_un (by decide)]; omega))))⟩) d_Mpg_declareArray_208
                    · have nc335 : ¬ p1.toInt = (0 : Int) := mt (i_eq (x := p1) (y := 0)).mpr c335
                      refine lv_aload_n S.x S.b d_Mpg_declareArray_193 rfl (lv_at hl 2 rfl) ?_
                      refine px_get S k_Mpg hT hw 0 0 58 (v := .int 0) rfl rfl rfl (by decide) m10_55 d_Mpg_declareArray_194 ?_
                      refine lv_iconst (v := 3) S.x S.b d_Mpg_declareArray_197 (by decide) ?_
                      refine lv_iadd S.x S.b d_Mpg_declareArray_198 ?_
                      refine lv_topi (fun z336 ez336 => ?_)
                      have tz336 : z336.toInt = ((0 : Int) + (3 : Int) + 2147483648) % 4294967296 - 2147483648 := by rw [ez336]; exact i_add 0 3
                      have lz336 := Int32.le_toInt z336
                      have uz336 := Int32.toInt_lt z336
                      try replace tz336 : z336.toInt = (0 : Int) + (3 : Int) := by omega
                      refine lv_iconst (v := 4) S.x S.b d_Mpg_declareArray_199 (by decide) ?_
                      refine lv_idiv S.x S.b d_Mpg_declareArray_200 (fun hz0 => by have hz1 := i_eq.mp hz0; omega) ?_
                      refine lv_topi (fun z337 ez337 => ?_)
                      have lz337 := Int32.le_toInt z337
                      have uz337 := Int32.toInt_lt z337
                      have hd4 := i_div4 ez337 (by first | with_reducible rfl | with_reducible assumption | omega)
                      refine lv_goto (tgt := 208) S.x S.b d_Mpg_declareArray_201 (by decide) ?_
                      exact px_iret (v := z337) S hr rfl hlk hAe hw (Nat.le_of_ble_eq_true rfl) (Nat.le_of_ble_eq_true rfl) (⟨ma73, (upd cf308 58 0), rfl, (show (cf308 30).toInt = 0 → (cf 30).toInt = 0 from by first | with_reducible rfl | with_reducible assumption | omega), (show WrV (upd cf308 58 0) (tf 6).toInt from (WrV.u hwr (by decide) (by decide))), (show (cf308 33).toInt = (cf 33).toInt from by first | exact oz_1687f4cc65 e79 e314 | omega), (show (cf308 37).toInt = (cf 37).toInt from by first | exact oz_1687f4cc65 hkk37_e77 e320 | omega), (show (cf308 38).toInt = (cf 38).toInt from by first | exact oz_1687f4cc65 e80 e315 | omega), (show (cf308 41).toInt = (cf 41).toInt from by first | exact oz_1687f4cc65 hkk41_e77 e329 | omega), (show (cf308 42).toInt = (cf 42).toInt from by first | exact oz_1687f4cc65 hkk42_e77 e321 | omega), (show (cf308 43).toInt = (cf 43).toInt from by first | exact oz_1687f4cc65 hkk43_e77 e322 | omega), (show (cf308 44).toInt = (cf 44).toInt from by first | exact oz_1687f4cc65 hkk44_e77 e323 | omega), (show (cf308 45).toInt = (cf 45).toInt from by first | exact oz_1687f4cc65 hkk45_e77 e324 | omega), (show (cf308 46).toInt = (cf 46).toInt from by first | exact oz_1687f4cc65 e82 e317 | omega), (show (cf308 47).toInt = (cf 47).toInt from by first | exact oz_1687f4cc65 e83 e318 | omega), (show (cf308 48).toInt = (cf 48).toInt from by first | exact oz_1687f4cc65 e81 e316 | omega), (show (cf308 54).toInt = (cf 54).toInt from by first | exact oz_1687f4cc65 hkk54_e77 e325 | omega), (show (cf308 55).toInt = (cf 55).toInt from by first | exact oz_1687f4cc65 hkk55_e77 e326 | omega), (show (cf308 59).toInt = (cf 59).toInt from by first | exact oz_1687f4cc65 hkk59_e77 e328 | omega), (show Ann na ma0 ma73 from han), (show FrC lo hi ma ma73 from hfc), (show 0 ≤ (0 : Int) from by first | decide | omega), (show (0 : Int) ≤ 4096 from by first | decide | omega), (show 0 ≤ z337.toInt from by first | with_reducible rfl | with_reducible assumption | omega), (show z337.toInt ≤ 4096 from by first | with_reducible rfl | with_reducible assumption | omega), (show (0 : Int) ≤ 4 * z337.toInt from by first | with_reducible rfl | with_reducible assumption | omega), (show ZAv (upd cf308 58 0) ta na ma73 p0 (0 : Int) from (zr_no (by first | omega | (show 1 ≤ _; rw [pk_un (by decide)]; omega))))⟩) d_Mpg_declareArray_208
        · have nc241 : z240.toInt = (2 : Int) := (i_eq (x := z240) (y := 2)).mp c241
          refine lv_iconst (v := 0) S.x S.b d_Mpg_declareArray_62 (by decide) ?_
          refine lv_istore (lv' := [(4, .int 0), (3, .int (cf74 57)), (0, .ref h), (1, .int p0), (2, .int p1)]) S.x S.b d_Mpg_declareArray_63 hl (by decide) rfl (fun ls hl => ?_)
          refine lv_aload_n S.x S.b d_Mpg_declareArray_65 rfl (lv_at hl 2 rfl) ?_
          refine px_get S k_Mpg hT hw 0 0 18 (v := .ref (r 18)) rfl rfl rfl (by decide) m10_3 d_Mpg_declareArray_66 ?_
          refine lv_iload_n S.x S.b d_Mpg_declareArray_69 rfl (lv_at hl 3 rfl) ?_
          refine px_iald S hT hw 0 14 (n := 2100) (f := (ma73 18)) rfl gp_18 (x := p0) (vp_in_iff.mpr (by first | exact oz_a7e05de1cd hvr.2.2.1 hvr.2.1 g1 g2 | (constructor <;> omega))) d_Mpg_declareArray_70 ?_
          refine lv_topi (fun z338 ez338 => ?_)
          have lz338 := Int32.le_toInt z338
          have uz338 := Int32.toInt_lt z338
          obtain ⟨⟨wr, hrv, hwr9⟩, h19a, h19b⟩ := hav.k2 (by first | with_reducible rfl | with_reducible assumption | omega); have ha_z338 : z338 = ma0 18 p0.toNatClampNeg := ez338.trans (Ann.v18 han (by first | with_reducible rfl | with_reducible assumption | omega))
          refine lv_istore (lv' := [(5, .int z338), (4, .int 0), (3, .int (cf74 57)), (0, .ref h), (1, .int p0), (2, .int p1)]) S.x S.b d_Mpg_declareArray_71 hl (by decide) rfl (fun ls hl => ?_)
          exact J73 ((hi - m1).toNat + 1) ma73 cf74 m1 wr (cf74 57) (0 : Int32) z338 _ _ ls (show (cf74 30).toInt = 0 → (cf 30).toInt = 0 from by first | exact hkz_e77 | omega) (show WrV cf74 (tf 6).toInt from hwr) (show (cf74 33).toInt = (cf 33).toInt from by first | exact e79 | omega) (show (cf74 37).toInt = (cf 37).toInt from by first | exact hkk37_e77 | omega) (show (cf74 38).toInt = (cf 38).toInt from by first | exact e80 | omega) (show (cf74 41).toInt = (cf 41).toInt from by first | exact hkk41_e77 | omega) (show (cf74 42).toInt = (cf 42).toInt from by first | exact hkk42_e77 | omega) (show (cf74 43).toInt = (cf 43).toInt from by first | exact hkk43_e77 | omega) (show (cf74 44).toInt = (cf 44).toInt from by first | exact hkk44_e77 | omega) (show (cf74 45).toInt = (cf 45).toInt from by first | exact hkk45_e77 | omega) (show (cf74 46).toInt = (cf 46).toInt from by first | exact e82 | omega) (show (cf74 47).toInt = (cf 47).toInt from by first | exact e83 | omega) (show (cf74 48).toInt = (cf 48).toInt from by first | exact e81 | omega) (show (cf74 54).toInt = (cf 54).toInt from by first | exact hkk54_e77 | omega) (show (cf74 55).toInt = (cf 55).toInt from by first | exact hkk55_e77 | omega) (show (cf74 59).toInt = (cf 59).toInt from by first | exact hkk59_e77 | omega) (show Ann na ma0 ma73 from han) (show FrC lo hi ma ma73 from hfc) (show -1 ≤ (cf74 57).toInt from by first | exact oz_4ecc7d07af nc135 | omega) (show (cf74 57).toInt ≤ 4096 from by first | exact oz_d819beab09 nc239 | omega) (show (cf74 57).toInt = -1 → 1 ≤ (cf74 30).toInt from by first | with_reducible rfl | with_reducible assumption | omega) (show 0 ≤ (0 : Int) from by first | decide | omega) (show (0 : Int) + m1 ≤ m1 from by first | exact oz_05158eb67a | omega) (show m1 ≤ m1 from by first | exact oz_1cb5f934a5 | omega) (show m1 ≤ hi from by first | exact hm2 | omega) (show (ma0 22 p0.toNatClampNeg).toInt = 2 from by first | exact oz_70422203cd rz240 nc241 | omega) (show RvI ta (tf 6).toInt na ma0 d m1 hi wr z338 from (by rw [ha_z338]; exact hrv)) (show RlC na (ma0 18 p0.toNatClampNeg) z338 (0 : Int) from (by rw [ha_z338]; exact rlc_0)) (show hi - m1 < ((((hi - m1).toNat + 1 : Nat) : Int) : Int) from by first | exact oz_natlt | omega) hw (lv_sub hl [3, 4, 5, 2, 1, 0] rfl)
      · have nc239 : ¬ (cf74 57).toInt ≤ (4096 : Int) := mt (i_le (x := (cf74 57)) (y := 4096)).mpr c239
        refine lv_aload_n S.x S.b d_Mpg_declareArray_32 rfl (lv_at hl 1 rfl) ?_
        refine lv_bipush (v := 8) S.x S.b d_Mpg_declareArray_33 (by decide) ?_
        refine lv_aload_n S.x S.b d_Mpg_declareArray_35 rfl (lv_at hl 1 rfl) ?_
        refine lv_aload_n S.x S.b d_Mpg_declareArray_36 rfl (lv_at hl 1 rfl) ?_
        refine px_get S k_Mpg hT hw 0 0 17 (v := .ref (r 17)) rfl rfl rfl (by decide) m10_1 d_Mpg_declareArray_37 ?_
        refine lv_iload_n S.x S.b d_Mpg_declareArray_40 rfl (lv_at hl 2 rfl) ?_
        refine px_iald S hT hw 0 13 (n := 2100) (f := (na 17)) rfl gp_17 (x := p0) (vp_in_iff.mpr (by first | exact oz_a7e05de1cd hvr.2.2.1 hvr.2.1 g1 g2 | (constructor <;> omega))) d_Mpg_declareArray_41 ?_
        refine lv_topi (fun z339 ez339 => ?_)
        have lz339 := Int32.le_toInt z339
        have uz339 := Int32.toInt_lt z339
        have rz339 : z339.toInt = (na 17 p0.toNatClampNeg).toInt := by rw [ez339]
        have hqz339 : z339.toInt = (na 17 p0.toNatClampNeg).toInt := (by rw [ez339])
        refine px_calli (pr := []) (px_runV (As := [.int z339]) (rest := [.int 8, .ref h]) S (c_mp_first l D cs h r g tf ta pf na ma73 wa cf74 ca ef ea xf xa z339  (show 0 ≤ z339.toInt from by first | exact oz_f3ebed1ad0 rz339 g23 | omega) (show z339.toInt < (pf 13).toInt from by first | with_reducible rfl | with_reducible assumption | omega) (show (pf 13).toInt ≤ 2100 from by first | exact g2 | omega) htk (FsI.le (N' := (pf 13).toInt) hfs (by first | with_reducible rfl | with_reducible assumption | omega)) _) hT (pr := []) (pcs := [wdP cs h r g tf ta pf na ma73 wa cf74 ca ef ea xf xa]) hw px_X.tt (px_recv hT hw 0 0 rfl rfl rfl) m13_9 m13_6 m13_8 ms_12_15 m1_21 q_Mpg_first ⟨show 0 + 1 ≤ (4 * d + 20) from by first | with_reducible rfl | with_reducible assumption | omega, show 8 + (2 + 11) + 0 ≤ (200 * d + 700) from by first | with_reducible rfl | with_reducible assumption | omega⟩ hl.1 rfl (Nat.le_of_ble_eq_true rfl) d_Mpg_declareArray_42 ⟨Nat.le_of_ble_eq_true rfl, Nat.le_of_ble_eq_true rfl⟩) hw hA (fun v341 p340 H locs hp340 hw => ?_)
        obtain ⟨rfl, e342, e343⟩ := hp340
        have e342 : 0 ≤ v341.toInt := e342
        have e343 : v341.toInt < (tf 6).toInt := e343
        have hw : pw D A s.heap H locs [wdP cs h r g tf ta pf na ma73 wa cf74 ca ef ea xf xa] := hw
        have lv341 := Int32.le_toInt v341
        have uv341 := Int32.toInt_lt v341
        refine px_callv (pr := []) (px_runV (As := [.int 8, .int v341]) (rest := []) S (c_mp_bad l D cs h r g tf ta pf na ma73 wa ca ef ea xf xa cf74 8 v341  (show 1 ≤ (8 : Int) from by first | decide | omega) (show 0 ≤ v341.toInt from by first | exact e342 | omega) (show v341.toInt < (tf 6).toInt from by first | exact e343 | omega) htk hwr _) hT (pr := []) (pcs := [wdP cs h r g tf ta pf na ma73 wa cf74 ca ef ea xf xa]) hw px_X.tt (px_recv hT hw 0 0 rfl rfl rfl) m12_173 m12_170 m12_172 ms_11_12 m1_21 q_Mpg_bad ⟨show 0 + 1 ≤ (4 * d + 20) from by first | with_reducible rfl | with_reducible assumption | omega, show 8 + (3 + 11) + 0 ≤ (200 * d + 700) from by first | with_reducible rfl | with_reducible assumption | omega⟩ hl.1 rfl (Nat.le_of_ble_eq_true rfl) d_Mpg_declareArray_45 ⟨Nat.le_of_ble_eq_true rfl, Nat.le_of_ble_eq_true rfl⟩) hw hA (fun p346 H locs hp346 hw => ?_)
        obtain ⟨cf345, rfl, e348, e349, e350, e351, e352, e353, e354, e355, e356, e357, e358, e359, e360, e361, e362, e363, e364, e365, e366⟩ := hp346
        have e348 : KpE cf74 cf345 := e348
        have hkz_e348 := e348.2
        have e349 : WrV cf345 (tf 6).toInt := e349
        have hwr := e349
        have hw0_e349 := hwr.1
        have e350 : 1 ≤ (cf345 30).toInt := e350
        have e351 : (cf345 33).toInt = (cf74 33).toInt := e351
        have e352 : (cf345 38).toInt = (cf74 38).toInt := e352
        have e353 : (cf345 48).toInt = (cf74 48).toInt := e353
        have e354 : (cf345 46).toInt = (cf74 46).toInt := e354
        have e355 : (cf345 47).toInt = (cf74 47).toInt := e355
        have e356 : (cf345 57).toInt = (cf74 57).toInt := e356
        have e357 : (cf345 37).toInt = (cf74 37).toInt := e357
        have e358 : (cf345 42).toInt = (cf74 42).toInt := e358
        have e359 : (cf345 43).toInt = (cf74 43).toInt := e359
        have e360 : (cf345 44).toInt = (cf74 44).toInt := e360
        have e361 : (cf345 45).toInt = (cf74 45).toInt := e361
        have e362 : (cf345 54).toInt = (cf74 54).toInt := e362
        have e363 : (cf345 55).toInt = (cf74 55).toInt := e363
        have e364 : (cf345 58).toInt = (cf74 58).toInt := e364
        have e365 : (cf345 59).toInt = (cf74 59).toInt := e365
        have e366 : (cf345 41).toInt = (cf74 41).toInt := e366
        have hw : pw D A s.heap H locs [wdP cs h r g tf ta pf na ma73 wa cf345 ca ef ea xf xa] := hw
        refine lv_sipush (v := 4096) S.x S.b d_Mpg_declareArray_48 (by decide) ?_
        refine lv_istore_n (lv' := [(3, .int 4096), (0, .ref h), (1, .int p0), (2, .int p1)]) S.x S.b d_Mpg_declareArray_51 rfl hl (by decide) rfl (fun ls hl => ?_)
        refine lv_aload_n S.x S.b d_Mpg_declareArray_52 rfl (lv_at hl 1 rfl) ?_
        refine px_get S k_Mpg hT hw 0 0 22 (v := .ref (r 22)) rfl rfl rfl (by decide) m10_9 d_Mpg_declareArray_53 ?_
        refine lv_iload_n S.x S.b d_Mpg_declareArray_56 rfl (lv_at hl 2 rfl) ?_
        refine px_iald S hT hw 0 18 (n := 2100) (f := (ma73 22)) rfl gp_22 (x := p0) (vp_in_iff.mpr (by first | exact oz_a7e05de1cd hvr.2.2.1 hvr.2.1 g1 g2 | (constructor <;> omega))) d_Mpg_declareArray_57 ?_
        refine lv_topi (fun z367 ez367 => ?_)
        have lz367 := Int32.le_toInt z367
        have uz367 := Int32.toInt_lt z367
        have rz367 : z367.toInt = (ma0 22 p0.toNatClampNeg).toInt := (by rw [ez367, Ann.v22 han (by first | with_reducible rfl | with_reducible assumption | omega)])
        refine lv_iconst (v := 2) S.x S.b d_Mpg_declareArray_58 (by decide) ?_
        refine lv_icmp_ne (tgt := 125) S.x S.b d_Mpg_declareArray_59 (by decide) (fun c368 => ?_) (fun c368 => ?_)
        · have nc368 : ¬ z367.toInt = (2 : Int) := mt (i_eq (x := z367) (y := 2)).mpr c368
          refine lv_aload_n S.x S.b d_Mpg_declareArray_125 rfl (lv_at hl 1 rfl) ?_
          refine px_get S k_Mpg hT hw 0 0 22 (v := .ref (r 22)) rfl rfl rfl (by decide) m10_9 d_Mpg_declareArray_126 ?_
          refine lv_iload_n S.x S.b d_Mpg_declareArray_129 rfl (lv_at hl 2 rfl) ?_
          refine px_iald S hT hw 0 18 (n := 2100) (f := (ma73 22)) rfl gp_22 (x := p0) (vp_in_iff.mpr (by first | exact oz_a7e05de1cd hvr.2.2.1 hvr.2.1 g1 g2 | (constructor <;> omega))) d_Mpg_declareArray_130 ?_
          refine lv_topi (fun z369 ez369 => ?_)
          have lz369 := Int32.le_toInt z369
          have uz369 := Int32.toInt_lt z369
          have rz369 : z369.toInt = (ma0 22 p0.toNatClampNeg).toInt := (by rw [ez369, Ann.v22 han (by first | with_reducible rfl | with_reducible assumption | omega)])
          refine lv_iconst (v := 3) S.x S.b d_Mpg_declareArray_131 (by decide) ?_
          refine lv_icmp_ne (tgt := 176) S.x S.b d_Mpg_declareArray_132 (by decide) (fun c370 => ?_) (fun c370 => ?_)
          · have nc370 : ¬ z369.toInt = (3 : Int) := mt (i_eq (x := z369) (y := 3)).mpr c370
            refine lv_aload_n S.x S.b d_Mpg_declareArray_176 rfl (lv_at hl 1 rfl) ?_
            refine lv_iload_n S.x S.b d_Mpg_declareArray_177 rfl (lv_at hl 0 rfl) ?_
            refine lv_if_ge (tgt := 185) S.x S.b d_Mpg_declareArray_178 (by decide) (fun c371 => ?_) (fun c371 => ?_)
            ·
              refine lv_iload_n S.x S.b d_Mpg_declareArray_185 rfl (lv_at hl 0 rfl) ?_
              refine px_put S k_Mpg hT hw 0 0 58 rfl rfl (by decide) m10_55 rfl rfl rfl (Nat.le_of_ble_eq_true rfl) d_Mpg_declareArray_186 (w' := wdP cs h r g tf ta pf na ma73 wa (upd cf345 58 4096) ca ef ea xf xa) (ps' := [wdP cs h r g tf ta pf na ma73 wa (upd cf345 58 4096) ca ef ea xf xa]) rfl rfl (fun H locs hw => ?_)
              refine lv_iload_n S.x S.b d_Mpg_declareArray_189 rfl (lv_at hl 3 rfl) ?_
              refine lv_if_eq (tgt := 204) S.x S.b d_Mpg_declareArray_190 (by decide) (fun c372 => ?_) (fun c372 => ?_)
              · have nc372 : p1.toInt = (0 : Int) := (i_eq (x := p1) (y := 0)).mp c372
                refine lv_aload_n S.x S.b d_Mpg_declareArray_204 rfl (lv_at hl 1 rfl) ?_
                refine px_get S k_Mpg hT hw 0 0 58 (v := .int 4096) rfl rfl rfl (by decide) m10_55 d_Mpg_declareArray_205 ?_
                exact px_iret (v := 4096) S hr rfl hlk hAe hw (Nat.le_of_ble_eq_true rfl) (Nat.le_of_ble_eq_true rfl) (⟨ma73, (upd cf345 58 4096), rfl, (show (cf345 30).toInt = 0 → (cf 30).toInt = 0 from by first | with_reducible rfl | with_reducible assumption | omega), (show WrV (upd cf345 58 4096) (tf 6).toInt from (WrV.u hwr (by decide) (by decide))), (show (cf345 33).toInt = (cf 33).toInt from by first | exact oz_1687f4cc65 e79 e351 | omega), (show (cf345 37).toInt = (cf 37).toInt from by first | exact oz_1687f4cc65 hkk37_e77 e357 | omega), (show (cf345 38).toInt = (cf 38).toInt from by first | exact oz_1687f4cc65 e80 e352 | omega), (show (cf345 41).toInt = (cf 41).toInt from by first | exact oz_1687f4cc65 hkk41_e77 e366 | omega), (show (cf345 42).toInt = (cf 42).toInt from by first | exact oz_1687f4cc65 hkk42_e77 e358 | omega), (show (cf345 43).toInt = (cf 43).toInt from by first | exact oz_1687f4cc65 hkk43_e77 e359 | omega), (show (cf345 44).toInt = (cf 44).toInt from by first | exact oz_1687f4cc65 hkk44_e77 e360 | omega), (show (cf345 45).toInt = (cf 45).toInt from by first | exact oz_1687f4cc65 hkk45_e77 e361 | omega), (show (cf345 46).toInt = (cf 46).toInt from by first | exact oz_1687f4cc65 e82 e354 | omega), (show (cf345 47).toInt = (cf 47).toInt from by first | exact oz_1687f4cc65 e83 e355 | omega), (show (cf345 48).toInt = (cf 48).toInt from by first | exact oz_1687f4cc65 e81 e353 | omega), (show (cf345 54).toInt = (cf 54).toInt from by first | exact oz_1687f4cc65 hkk54_e77 e362 | omega), (show (cf345 55).toInt = (cf 55).toInt from by first | exact oz_1687f4cc65 hkk55_e77 e363 | omega), (show (cf345 59).toInt = (cf 59).toInt from by first | exact oz_1687f4cc65 hkk59_e77 e365 | omega), (show Ann na ma0 ma73 from han), (show FrC lo hi ma ma73 from hfc), (show 0 ≤ (4096 : Int) from by first | decide | omega), (show (4096 : Int) ≤ 4096 from by first | decide | omega), (show 0 ≤ (4096 : Int) from by first | decide | omega), (show (4096 : Int) ≤ 4096 from by first | decide | omega), (show (4096 : Int) ≤ 4 * (4096 : Int) from by first | decide | omega), (show ZAv (upd cf345 58 4096) ta na ma73 p0 (4096 : Int) from (zr_no (by first | omega | (show 1 ≤ _; rw [pk_un (by decide)]; omega))))⟩) d_Mpg_declareArray_208
              · have nc372 : ¬ p1.toInt = (0 : Int) := mt (i_eq (x := p1) (y := 0)).mpr c372
                refine lv_aload_n S.x S.b d_Mpg_declareArray_193 rfl (lv_at hl 1 rfl) ?_
                refine px_get S k_Mpg hT hw 0 0 58 (v := .int 4096) rfl rfl rfl (by decide) m10_55 d_Mpg_declareArray_194 ?_
                refine lv_iconst (v := 3) S.x S.b d_Mpg_declareArray_197 (by decide) ?_
                refine lv_iadd S.x S.b d_Mpg_declareArray_198 ?_
                refine lv_topi (fun z373 ez373 => ?_)
                have tz373 : z373.toInt = ((4096 : Int) + (3 : Int) + 2147483648) % 4294967296 - 2147483648 := by rw [ez373]; exact i_add 4096 3
                have lz373 := Int32.le_toInt z373
                have uz373 := Int32.toInt_lt z373
                try replace tz373 : z373.toInt = (4096 : Int) + (3 : Int) := by omega
                refine lv_iconst (v := 4) S.x S.b d_Mpg_declareArray_199 (by decide) ?_
                refine lv_idiv S.x S.b d_Mpg_declareArray_200 (fun hz0 => by have hz1 := i_eq.mp hz0; omega) ?_
                refine lv_topi (fun z374 ez374 => ?_)
                have lz374 := Int32.le_toInt z374
                have uz374 := Int32.toInt_lt z374
                have hd4 := i_div4 ez374 (by first | with_reducible rfl | with_reducible assumption | omega)
                refine lv_goto (tgt := 208) S.x S.b d_Mpg_declareArray_201 (by decide) ?_
                exact px_iret (v := z374) S hr rfl hlk hAe hw (Nat.le_of_ble_eq_true rfl) (Nat.le_of_ble_eq_true rfl) (⟨ma73, (upd cf345 58 4096), rfl, (show (cf345 30).toInt = 0 → (cf 30).toInt = 0 from by first | with_reducible rfl | with_reducible assumption | omega), (show WrV (upd cf345 58 4096) (tf 6).toInt from (WrV.u hwr (by decide) (by decide))), (show (cf345 33).toInt = (cf 33).toInt from by first | exact oz_1687f4cc65 e79 e351 | omega), (show (cf345 37).toInt = (cf 37).toInt from by first | exact oz_1687f4cc65 hkk37_e77 e357 | omega), (show (cf345 38).toInt = (cf 38).toInt from by first | exact oz_1687f4cc65 e80 e352 | omega), (show (cf345 41).toInt = (cf 41).toInt from by first | exact oz_1687f4cc65 hkk41_e77 e366 | omega), (show (cf345 42).toInt = (cf 42).toInt from by first | exact oz_1687f4cc65 hkk42_e77 e358 | omega), (show (cf345 43).toInt = (cf 43).toInt from by first | exact oz_1687f4cc65 hkk43_e77 e359 | omega), (show (cf345 44).toInt = (cf 44).toInt from by first | exact oz_1687f4cc65 hkk44_e77 e360 | omega), (show (cf345 45).toInt = (cf 45).toInt from by first | exact oz_1687f4cc65 hkk45_e77 e361 | omega), (show (cf345 46).toInt = (cf 46).toInt from by first | exact oz_1687f4cc65 e82 e354 | omega), (show (cf345 47).toInt = (cf 47).toInt from by first | exact oz_1687f4cc65 e83 e355 | omega), (show (cf345 48).toInt = (cf 48).toInt from by first | exact oz_1687f4cc65 e81 e353 | omega), (show (cf345 54).toInt = (cf 54).toInt from by first | exact oz_1687f4cc65 hkk54_e77 e362 | omega), (show (cf345 55).toInt = (cf 55).toInt from by first | exact oz_1687f4cc65 hkk55_e77 e363 | omega), (show (cf345 59).toInt = (cf 59).toInt from by first | exact oz_1687f4cc65 hkk59_e77 e365 | omega), (show Ann na ma0 ma73 from han), (show FrC lo hi ma ma73 from hfc), (show 0 ≤ (4096 : Int) from by first | decide | omega), (show (4096 : Int) ≤ 4096 from by first | decide | omega), (show 0 ≤ z374.toInt from by first | with_reducible rfl | with_reducible assumption | omega), (show z374.toInt ≤ 4096 from by first | with_reducible rfl | with_reducible assumption | omega), (show (4096 : Int) ≤ 4 * z374.toInt from by first | with_reducible rfl | with_reducible assumption | omega), (show ZAv (upd cf345 58 4096) ta na ma73 p0 (4096 : Int) from (zr_no (by first | omega | (show 1 ≤ _; rw [pk_un (by decide)]; omega))))⟩) d_Mpg_declareArray_208
            · exact absurd c371 (by decide)
          · have nc370 : z369.toInt = (3 : Int) := (i_eq (x := z369) (y := 3)).mp c370
            refine lv_aload_n S.x S.b d_Mpg_declareArray_135 rfl (lv_at hl 1 rfl) ?_
            refine px_get S k_Mpg hT hw 0 0 10 (v := .ref (r 10)) rfl rfl rfl (by decide) m9_234 d_Mpg_declareArray_136 ?_
            refine lv_aload_n S.x S.b d_Mpg_declareArray_139 rfl (lv_at hl 1 rfl) ?_
            refine px_get S k_Mpg hT hw 0 0 19 (v := .ref (r 19)) rfl rfl rfl (by decide) m10_5 d_Mpg_declareArray_140 ?_
            refine lv_iload_n S.x S.b d_Mpg_declareArray_143 rfl (lv_at hl 2 rfl) ?_
            refine px_iald S hT hw 0 15 (n := 2100) (f := (ma73 19)) rfl gp_19 (x := p0) (vp_in_iff.mpr (by first | exact oz_a7e05de1cd hvr.2.2.1 hvr.2.1 g1 g2 | (constructor <;> omega))) d_Mpg_declareArray_144 ?_
            refine lv_topi (fun z375 ez375 => ?_)
            have lz375 := Int32.le_toInt z375
            have uz375 := Int32.toInt_lt z375
            have ha_z375 : z375 = ma0 19 p0.toNatClampNeg := ez375.trans (Ann.v19 han (by first | with_reducible rfl | with_reducible assumption | omega)); have hn_z375 : z375.toInt = (ma0 19 p0.toNatClampNeg).toInt := (by rw [ha_z375]); have hk3 := hav.k3 (by first | with_reducible rfl | with_reducible assumption | omega); rw [← ha_z375] at hk3
            refine px_iald S hT hw 0 9 (n := 2060) (f := (ta 10)) rfl gp_10 (x := z375) (vp_in_iff.mpr (by first | exact oz_8859ebd461 hn_z375 hk3.1 hk3.2.1 g3 | (constructor <;> omega))) d_Mpg_declareArray_145 ?_
            refine lv_topi (fun z376 ez376 => ?_)
            have lz376 := Int32.le_toInt z376
            have uz376 := Int32.toInt_lt z376
            have rz376 : z376.toInt = wh ta z375 := by rw [ez376]; rfl
            have hw4 := tk_w4 htk (x := z375) (by first | with_reducible rfl | with_reducible assumption | omega) (by first | with_reducible rfl | with_reducible assumption | omega) ez376 (by first | with_reducible rfl | with_reducible assumption | omega)
            refine lv_iconst (v := 1) S.x S.b d_Mpg_declareArray_146 (by decide) ?_
            refine lv_iadd S.x S.b d_Mpg_declareArray_147 ?_
            refine lv_topi (fun z377 ez377 => ?_)
            have tz377 : z377.toInt = (z376.toInt + (1 : Int) + 2147483648) % 4294967296 - 2147483648 := by rw [ez377]; exact i_add z376 1
            have lz377 := Int32.le_toInt z377
            have uz377 := Int32.toInt_lt z377
            try replace tz377 : z377.toInt = z376.toInt + (1 : Int) := by omega
            refine lv_istore (lv' := [(4, .int z377), (3, .int 4096), (0, .ref h), (1, .int p0), (2, .int p1)]) S.x S.b d_Mpg_declareArray_148 hl (by decide) rfl (fun ls hl => ?_)
            refine lv_iload_n S.x S.b d_Mpg_declareArray_150 rfl (lv_at hl 4 rfl) ?_
            refine lv_if_eq (tgt := 164) S.x S.b d_Mpg_declareArray_151 (by decide) (fun c378 => ?_) (fun c378 => ?_)
            · have nc378 : p1.toInt = (0 : Int) := (i_eq (x := p1) (y := 0)).mp c378
              refine lv_aload_n S.x S.b d_Mpg_declareArray_164 rfl (lv_at hl 2 rfl) ?_
              refine lv_bipush (v := 8) S.x S.b d_Mpg_declareArray_165 (by decide) ?_
              refine lv_aload_n S.x S.b d_Mpg_declareArray_167 rfl (lv_at hl 2 rfl) ?_
              refine px_get S k_Mpg hT hw 0 0 19 (v := .ref (r 19)) rfl rfl rfl (by decide) m10_5 d_Mpg_declareArray_168 ?_
              refine lv_iload_n S.x S.b d_Mpg_declareArray_171 rfl (lv_at hl 3 rfl) ?_
              refine px_iald S hT hw 0 15 (n := 2100) (f := (ma73 19)) rfl gp_19 (x := p0) (vp_in_iff.mpr (by first | exact oz_a7e05de1cd hvr.2.2.1 hvr.2.1 g1 g2 | (constructor <;> omega))) d_Mpg_declareArray_172 ?_
              refine lv_topi (fun z379 ez379 => ?_)
              have lz379 := Int32.le_toInt z379
              have uz379 := Int32.toInt_lt z379
              have ha_z379 : z379 = ma0 19 p0.toNatClampNeg := ez379.trans (Ann.v19 han (by first | with_reducible rfl | with_reducible assumption | omega)); have hn_z379 : z379.toInt = (ma0 19 p0.toNatClampNeg).toInt := (by rw [ha_z379]); have hk3 := hav.k3 (by first | with_reducible rfl | with_reducible assumption | omega); rw [← ha_z379] at hk3
              refine px_callv (pr := []) (px_runV (As := [.int 8, .int z379]) (rest := []) S (c_mp_bad l D cs h r g tf ta pf na ma73 wa ca ef ea xf xa cf345 8 z379  (show 1 ≤ (8 : Int) from by first | decide | omega) (show 0 ≤ z379.toInt from by first | exact oz_f3ebed1ad0 hn_z379 hk3.1 | omega) (show z379.toInt < (tf 6).toInt from by first | exact oz_b0a61accca hk3.2.1 hn_z379 | omega) htk hwr _) hT (pr := []) (pcs := [wdP cs h r g tf ta pf na ma73 wa cf345 ca ef ea xf xa]) hw px_X.tt (px_recv hT hw 0 0 rfl rfl rfl) m12_173 m12_170 m12_172 ms_11_12 m1_21 q_Mpg_bad ⟨show 0 + 1 ≤ (4 * d + 20) from by first | with_reducible rfl | with_reducible assumption | omega, show 8 + (3 + 11) + 0 ≤ (200 * d + 700) from by first | with_reducible rfl | with_reducible assumption | omega⟩ hl.1 rfl (Nat.le_of_ble_eq_true rfl) d_Mpg_declareArray_173 ⟨Nat.le_of_ble_eq_true rfl, Nat.le_of_ble_eq_true rfl⟩) hw hA (fun p382 H locs hp382 hw => ?_)
              obtain ⟨cf381, rfl, e384, e385, e386, e387, e388, e389, e390, e391, e392, e393, e394, e395, e396, e397, e398, e399, e400, e401, e402⟩ := hp382
              have e384 : KpE cf345 cf381 := e384
              have hkz_e384 := e384.2
              have e385 : WrV cf381 (tf 6).toInt := e385
              have hwr := e385
              have hw0_e385 := hwr.1
              have e386 : 1 ≤ (cf381 30).toInt := e386
              have e387 : (cf381 33).toInt = (cf345 33).toInt := e387
              have e388 : (cf381 38).toInt = (cf345 38).toInt := e388
              have e389 : (cf381 48).toInt = (cf345 48).toInt := e389
              have e390 : (cf381 46).toInt = (cf345 46).toInt := e390
              have e391 : (cf381 47).toInt = (cf345 47).toInt := e391
              have e392 : (cf381 57).toInt = (cf345 57).toInt := e392
              have e393 : (cf381 37).toInt = (cf345 37).toInt := e393
              have e394 : (cf381 42).toInt = (cf345 42).toInt := e394
              have e395 : (cf381 43).toInt = (cf345 43).toInt := e395
              have e396 : (cf381 44).toInt = (cf345 44).toInt := e396
              have e397 : (cf381 45).toInt = (cf345 45).toInt := e397
              have e398 : (cf381 54).toInt = (cf345 54).toInt := e398
              have e399 : (cf381 55).toInt = (cf345 55).toInt := e399
              have e400 : (cf381 58).toInt = (cf345 58).toInt := e400
              have e401 : (cf381 59).toInt = (cf345 59).toInt := e401
              have e402 : (cf381 41).toInt = (cf345 41).toInt := e402
              have hw : pw D A s.heap H locs [wdP cs h r g tf ta pf na ma73 wa cf381 ca ef ea xf xa] := hw
              refine lv_aload_n S.x S.b d_Mpg_declareArray_176 rfl (lv_at hl 2 rfl) ?_
              refine lv_iload_n S.x S.b d_Mpg_declareArray_177 rfl (lv_at hl 1 rfl) ?_
              refine lv_if_ge (tgt := 185) S.x S.b d_Mpg_declareArray_178 (by decide) (fun c403 => ?_) (fun c403 => ?_)
              ·
                refine lv_iload_n S.x S.b d_Mpg_declareArray_185 rfl (lv_at hl 1 rfl) ?_
                refine px_put S k_Mpg hT hw 0 0 58 rfl rfl (by decide) m10_55 rfl rfl rfl (Nat.le_of_ble_eq_true rfl) d_Mpg_declareArray_186 (w' := wdP cs h r g tf ta pf na ma73 wa (upd cf381 58 4096) ca ef ea xf xa) (ps' := [wdP cs h r g tf ta pf na ma73 wa (upd cf381 58 4096) ca ef ea xf xa]) rfl rfl (fun H locs hw => ?_)
                refine lv_iload_n S.x S.b d_Mpg_declareArray_189 rfl (lv_at hl 4 rfl) ?_
                refine lv_if_eq (tgt := 204) S.x S.b d_Mpg_declareArray_190 (by decide) (fun c404 => ?_) (fun c404 => ?_)
                · have nc404 : p1.toInt = (0 : Int) := (i_eq (x := p1) (y := 0)).mp c404
                  refine lv_aload_n S.x S.b d_Mpg_declareArray_204 rfl (lv_at hl 2 rfl) ?_
                  refine px_get S k_Mpg hT hw 0 0 58 (v := .int 4096) rfl rfl rfl (by decide) m10_55 d_Mpg_declareArray_205 ?_
                  exact px_iret (v := 4096) S hr rfl hlk hAe hw (Nat.le_of_ble_eq_true rfl) (Nat.le_of_ble_eq_true rfl) (⟨ma73, (upd cf381 58 4096), rfl, (show (cf381 30).toInt = 0 → (cf 30).toInt = 0 from by first | with_reducible rfl | with_reducible assumption | omega), (show WrV (upd cf381 58 4096) (tf 6).toInt from (WrV.u hwr (by decide) (by decide))), (show (cf381 33).toInt = (cf 33).toInt from by first | exact oz_e13fc83238 e79 e387 e351 | omega), (show (cf381 37).toInt = (cf 37).toInt from by first | exact oz_e13fc83238 hkk37_e77 e393 e357 | omega), (show (cf381 38).toInt = (cf 38).toInt from by first | exact oz_e13fc83238 e80 e388 e352 | omega), (show (cf381 41).toInt = (cf 41).toInt from by first | exact oz_e13fc83238 hkk41_e77 e402 e366 | omega), (show (cf381 42).toInt = (cf 42).toInt from by first | exact oz_e13fc83238 hkk42_e77 e394 e358 | omega), (show (cf381 43).toInt = (cf 43).toInt from by first | exact oz_e13fc83238 hkk43_e77 e395 e359 | omega), (show (cf381 44).toInt = (cf 44).toInt from by first | exact oz_e13fc83238 hkk44_e77 e396 e360 | omega), (show (cf381 45).toInt = (cf 45).toInt from by first | exact oz_e13fc83238 hkk45_e77 e397 e361 | omega), (show (cf381 46).toInt = (cf 46).toInt from by first | exact oz_e13fc83238 e82 e390 e354 | omega), (show (cf381 47).toInt = (cf 47).toInt from by first | exact oz_e13fc83238 e83 e391 e355 | omega), (show (cf381 48).toInt = (cf 48).toInt from by first | exact oz_e13fc83238 e81 e389 e353 | omega), (show (cf381 54).toInt = (cf 54).toInt from by first | exact oz_e13fc83238 hkk54_e77 e398 e362 | omega), (show (cf381 55).toInt = (cf 55).toInt from by first | exact oz_e13fc83238 hkk55_e77 e399 e363 | omega), (show (cf381 59).toInt = (cf 59).toInt from by first | exact oz_e13fc83238 hkk59_e77 e401 e365 | omega), (show Ann na ma0 ma73 from han), (show FrC lo hi ma ma73 from hfc), (show 0 ≤ (4096 : Int) from by first | decide | omega), (show (4096 : Int) ≤ 4096 from by first | decide | omega), (show 0 ≤ (4096 : Int) from by first | decide | omega), (show (4096 : Int) ≤ 4096 from by first | decide | omega), (show (4096 : Int) ≤ 4 * (4096 : Int) from by first | decide | omega), (show ZAv (upd cf381 58 4096) ta na ma73 p0 (4096 : Int) from (zr_no (by first | omega | (show 1 ≤ _; rw [pk_un (by decide)]; omega))))⟩) d_Mpg_declareArray_208
                · have nc404 : ¬ p1.toInt = (0 : Int) := mt (i_eq (x := p1) (y := 0)).mpr c404
                  refine lv_aload_n S.x S.b d_Mpg_declareArray_193 rfl (lv_at hl 2 rfl) ?_
                  refine px_get S k_Mpg hT hw 0 0 58 (v := .int 4096) rfl rfl rfl (by decide) m10_55 d_Mpg_declareArray_194 ?_
                  refine lv_iconst (v := 3) S.x S.b d_Mpg_declareArray_197 (by decide) ?_
                  refine lv_iadd S.x S.b d_Mpg_declareArray_198 ?_
                  refine lv_topi (fun z405 ez405 => ?_)
                  have tz405 : z405.toInt = ((4096 : Int) + (3 : Int) + 2147483648) % 4294967296 - 2147483648 := by rw [ez405]; exact i_add 4096 3
                  have lz405 := Int32.le_toInt z405
                  have uz405 := Int32.toInt_lt z405
                  try replace tz405 : z405.toInt = (4096 : Int) + (3 : Int) := by omega
                  refine lv_iconst (v := 4) S.x S.b d_Mpg_declareArray_199 (by decide) ?_
                  refine lv_idiv S.x S.b d_Mpg_declareArray_200 (fun hz0 => by have hz1 := i_eq.mp hz0; omega) ?_
                  refine lv_topi (fun z406 ez406 => ?_)
                  have lz406 := Int32.le_toInt z406
                  have uz406 := Int32.toInt_lt z406
                  have hd4 := i_div4 ez406 (by first | with_reducible rfl | with_reducible assumption | omega)
                  refine lv_goto (tgt := 208) S.x S.b d_Mpg_declareArray_201 (by decide) ?_
                  exact px_iret (v := z406) S hr rfl hlk hAe hw (Nat.le_of_ble_eq_true rfl) (Nat.le_of_ble_eq_true rfl) (⟨ma73, (upd cf381 58 4096), rfl, (show (cf381 30).toInt = 0 → (cf 30).toInt = 0 from by first | with_reducible rfl | with_reducible assumption | omega), (show WrV (upd cf381 58 4096) (tf 6).toInt from (WrV.u hwr (by decide) (by decide))), (show (cf381 33).toInt = (cf 33).toInt from by first | exact oz_e13fc83238 e79 e387 e351 | omega), (show (cf381 37).toInt = (cf 37).toInt from by first | exact oz_e13fc83238 hkk37_e77 e393 e357 | omega), (show (cf381 38).toInt = (cf 38).toInt from by first | exact oz_e13fc83238 e80 e388 e352 | omega), (show (cf381 41).toInt = (cf 41).toInt from by first | exact oz_e13fc83238 hkk41_e77 e402 e366 | omega), (show (cf381 42).toInt = (cf 42).toInt from by first | exact oz_e13fc83238 hkk42_e77 e394 e358 | omega), (show (cf381 43).toInt = (cf 43).toInt from by first | exact oz_e13fc83238 hkk43_e77 e395 e359 | omega), (show (cf381 44).toInt = (cf 44).toInt from by first | exact oz_e13fc83238 hkk44_e77 e396 e360 | omega), (show (cf381 45).toInt = (cf 45).toInt from by first | exact oz_e13fc83238 hkk45_e77 e397 e361 | omega), (show (cf381 46).toInt = (cf 46).toInt from by first | exact oz_e13fc83238 e82 e390 e354 | omega), (show (cf381 47).toInt = (cf 47).toInt from by first | exact oz_e13fc83238 e83 e391 e355 | omega), (show (cf381 48).toInt = (cf 48).toInt from by first | exact oz_e13fc83238 e81 e389 e353 | omega), (show (cf381 54).toInt = (cf 54).toInt from by first | exact oz_e13fc83238 hkk54_e77 e398 e362 | omega), (show (cf381 55).toInt = (cf 55).toInt from by first | exact oz_e13fc83238 hkk55_e77 e399 e363 | omega), (show (cf381 59).toInt = (cf 59).toInt from by first | exact oz_e13fc83238 hkk59_e77 e401 e365 | omega), (show Ann na ma0 ma73 from han), (show FrC lo hi ma ma73 from hfc), (show 0 ≤ (4096 : Int) from by first | decide | omega), (show (4096 : Int) ≤ 4096 from by first | decide | omega), (show 0 ≤ z406.toInt from by first | with_reducible rfl | with_reducible assumption | omega), (show z406.toInt ≤ 4096 from by first | with_reducible rfl | with_reducible assumption | omega), (show (4096 : Int) ≤ 4 * z406.toInt from by first | with_reducible rfl | with_reducible assumption | omega), (show ZAv (upd cf381 58 4096) ta na ma73 p0 (4096 : Int) from (zr_no (by first | omega | (show 1 ≤ _; rw [pk_un (by decide)]; omega))))⟩) d_Mpg_declareArray_208
              · exact absurd c403 (by decide)
            · have nc378 : ¬ p1.toInt = (0 : Int) := mt (i_eq (x := p1) (y := 0)).mpr c378
              refine lv_iload_n S.x S.b d_Mpg_declareArray_154 rfl (lv_at hl 1 rfl) ?_
              refine lv_if_lt (tgt := 176) S.x S.b d_Mpg_declareArray_155 (by decide) (fun c407 => ?_) (fun c407 => ?_)
              · exact absurd c407 (by decide)
              ·
                refine lv_iload S.x S.b d_Mpg_declareArray_158 (lv_at hl 0 rfl) ?_
                refine lv_iload_n S.x S.b d_Mpg_declareArray_160 rfl (lv_at hl 1 rfl) ?_
                refine lv_icmp_le (tgt := 176) S.x S.b d_Mpg_declareArray_161 (by decide) (fun c408 => ?_) (fun c408 => ?_)
                · have nc408 : z377.toInt ≤ (4096 : Int) := (i_le (x := z377) (y := 4096)).mp c408
                  refine lv_aload_n S.x S.b d_Mpg_declareArray_176 rfl (lv_at hl 2 rfl) ?_
                  refine lv_iload_n S.x S.b d_Mpg_declareArray_177 rfl (lv_at hl 1 rfl) ?_
                  refine lv_if_ge (tgt := 185) S.x S.b d_Mpg_declareArray_178 (by decide) (fun c409 => ?_) (fun c409 => ?_)
                  ·
                    refine lv_iload_n S.x S.b d_Mpg_declareArray_185 rfl (lv_at hl 1 rfl) ?_
                    refine px_put S k_Mpg hT hw 0 0 58 rfl rfl (by decide) m10_55 rfl rfl rfl (Nat.le_of_ble_eq_true rfl) d_Mpg_declareArray_186 (w' := wdP cs h r g tf ta pf na ma73 wa (upd cf345 58 4096) ca ef ea xf xa) (ps' := [wdP cs h r g tf ta pf na ma73 wa (upd cf345 58 4096) ca ef ea xf xa]) rfl rfl (fun H locs hw => ?_)
                    refine lv_iload_n S.x S.b d_Mpg_declareArray_189 rfl (lv_at hl 4 rfl) ?_
                    refine lv_if_eq (tgt := 204) S.x S.b d_Mpg_declareArray_190 (by decide) (fun c410 => ?_) (fun c410 => ?_)
                    · have nc410 : p1.toInt = (0 : Int) := (i_eq (x := p1) (y := 0)).mp c410
                      refine lv_aload_n S.x S.b d_Mpg_declareArray_204 rfl (lv_at hl 2 rfl) ?_
                      refine px_get S k_Mpg hT hw 0 0 58 (v := .int 4096) rfl rfl rfl (by decide) m10_55 d_Mpg_declareArray_205 ?_
                      exact px_iret (v := 4096) S hr rfl hlk hAe hw (Nat.le_of_ble_eq_true rfl) (Nat.le_of_ble_eq_true rfl) (⟨ma73, (upd cf345 58 4096), rfl, (show (cf345 30).toInt = 0 → (cf 30).toInt = 0 from by first | with_reducible rfl | with_reducible assumption | omega), (show WrV (upd cf345 58 4096) (tf 6).toInt from (WrV.u hwr (by decide) (by decide))), (show (cf345 33).toInt = (cf 33).toInt from by first | exact oz_1687f4cc65 e79 e351 | omega), (show (cf345 37).toInt = (cf 37).toInt from by first | exact oz_1687f4cc65 hkk37_e77 e357 | omega), (show (cf345 38).toInt = (cf 38).toInt from by first | exact oz_1687f4cc65 e80 e352 | omega), (show (cf345 41).toInt = (cf 41).toInt from by first | exact oz_1687f4cc65 hkk41_e77 e366 | omega), (show (cf345 42).toInt = (cf 42).toInt from by first | exact oz_1687f4cc65 hkk42_e77 e358 | omega), (show (cf345 43).toInt = (cf 43).toInt from by first | exact oz_1687f4cc65 hkk43_e77 e359 | omega), (show (cf345 44).toInt = (cf 44).toInt from by first | exact oz_1687f4cc65 hkk44_e77 e360 | omega), (show (cf345 45).toInt = (cf 45).toInt from by first | exact oz_1687f4cc65 hkk45_e77 e361 | omega), (show (cf345 46).toInt = (cf 46).toInt from by first | exact oz_1687f4cc65 e82 e354 | omega), (show (cf345 47).toInt = (cf 47).toInt from by first | exact oz_1687f4cc65 e83 e355 | omega), (show (cf345 48).toInt = (cf 48).toInt from by first | exact oz_1687f4cc65 e81 e353 | omega), (show (cf345 54).toInt = (cf 54).toInt from by first | exact oz_1687f4cc65 hkk54_e77 e362 | omega), (show (cf345 55).toInt = (cf 55).toInt from by first | exact oz_1687f4cc65 hkk55_e77 e363 | omega), (show (cf345 59).toInt = (cf 59).toInt from by first | exact oz_1687f4cc65 hkk59_e77 e365 | omega), (show Ann na ma0 ma73 from han), (show FrC lo hi ma ma73 from hfc), (show 0 ≤ (4096 : Int) from by first | decide | omega), (show (4096 : Int) ≤ 4096 from by first | decide | omega), (show 0 ≤ (4096 : Int) from by first | decide | omega), (show (4096 : Int) ≤ 4096 from by first | decide | omega), (show (4096 : Int) ≤ 4 * (4096 : Int) from by first | decide | omega), (show ZAv (upd cf345 58 4096) ta na ma73 p0 (4096 : Int) from (zr_no (by first | omega | (show 1 ≤ _; rw [pk_un (by decide)]; omega))))⟩) d_Mpg_declareArray_208
                    · have nc410 : ¬ p1.toInt = (0 : Int) := mt (i_eq (x := p1) (y := 0)).mpr c410
                      refine lv_aload_n S.x S.b d_Mpg_declareArray_193 rfl (lv_at hl 2 rfl) ?_
                      refine px_get S k_Mpg hT hw 0 0 58 (v := .int 4096) rfl rfl rfl (by decide) m10_55 d_Mpg_declareArray_194 ?_
                      refine lv_iconst (v := 3) S.x S.b d_Mpg_declareArray_197 (by decide) ?_
                      refine lv_iadd S.x S.b d_Mpg_declareArray_198 ?_
                      refine lv_topi (fun z411 ez411 => ?_)
                      have tz411 : z411.toInt = ((4096 : Int) + (3 : Int) + 2147483648) % 4294967296 - 2147483648 := by rw [ez411]; exact i_add 4096 3
                      have lz411 := Int32.le_toInt z411
                      have uz411 := Int32.toInt_lt z411
                      try replace tz411 : z411.toInt = (4096 : Int) + (3 : Int) := by omega
                      refine lv_iconst (v := 4) S.x S.b d_Mpg_declareArray_199 (by decide) ?_
                      refine lv_idiv S.x S.b d_Mpg_declareArray_200 (fun hz0 => by have hz1 := i_eq.mp hz0; omega) ?_
                      refine lv_topi (fun z412 ez412 => ?_)
                      have lz412 := Int32.le_toInt z412
                      have uz412 := Int32.toInt_lt z412
                      have hd4 := i_div4 ez412 (by first | with_reducible rfl | with_reducible assumption | omega)
                      refine lv_goto (tgt := 208) S.x S.b d_Mpg_declareArray_201 (by decide) ?_
                      exact px_iret (v := z412) S hr rfl hlk hAe hw (Nat.le_of_ble_eq_true rfl) (Nat.le_of_ble_eq_true rfl) (⟨ma73, (upd cf345 58 4096), rfl, (show (cf345 30).toInt = 0 → (cf 30).toInt = 0 from by first | with_reducible rfl | with_reducible assumption | omega), (show WrV (upd cf345 58 4096) (tf 6).toInt from (WrV.u hwr (by decide) (by decide))), (show (cf345 33).toInt = (cf 33).toInt from by first | exact oz_1687f4cc65 e79 e351 | omega), (show (cf345 37).toInt = (cf 37).toInt from by first | exact oz_1687f4cc65 hkk37_e77 e357 | omega), (show (cf345 38).toInt = (cf 38).toInt from by first | exact oz_1687f4cc65 e80 e352 | omega), (show (cf345 41).toInt = (cf 41).toInt from by first | exact oz_1687f4cc65 hkk41_e77 e366 | omega), (show (cf345 42).toInt = (cf 42).toInt from by first | exact oz_1687f4cc65 hkk42_e77 e358 | omega), (show (cf345 43).toInt = (cf 43).toInt from by first | exact oz_1687f4cc65 hkk43_e77 e359 | omega), (show (cf345 44).toInt = (cf 44).toInt from by first | exact oz_1687f4cc65 hkk44_e77 e360 | omega), (show (cf345 45).toInt = (cf 45).toInt from by first | exact oz_1687f4cc65 hkk45_e77 e361 | omega), (show (cf345 46).toInt = (cf 46).toInt from by first | exact oz_1687f4cc65 e82 e354 | omega), (show (cf345 47).toInt = (cf 47).toInt from by first | exact oz_1687f4cc65 e83 e355 | omega), (show (cf345 48).toInt = (cf 48).toInt from by first | exact oz_1687f4cc65 e81 e353 | omega), (show (cf345 54).toInt = (cf 54).toInt from by first | exact oz_1687f4cc65 hkk54_e77 e362 | omega), (show (cf345 55).toInt = (cf 55).toInt from by first | exact oz_1687f4cc65 hkk55_e77 e363 | omega), (show (cf345 59).toInt = (cf 59).toInt from by first | exact oz_1687f4cc65 hkk59_e77 e365 | omega), (show Ann na ma0 ma73 from han), (show FrC lo hi ma ma73 from hfc), (show 0 ≤ (4096 : Int) from by first | decide | omega), (show (4096 : Int) ≤ 4096 from by first | decide | omega), (show 0 ≤ z412.toInt from by first | with_reducible rfl | with_reducible assumption | omega), (show z412.toInt ≤ 4096 from by first | with_reducible rfl | with_reducible assumption | omega), (show (4096 : Int) ≤ 4 * z412.toInt from by first | with_reducible rfl | with_reducible assumption | omega), (show ZAv (upd cf345 58 4096) ta na ma73 p0 (4096 : Int) from (zr_no (by first | omega | (show 1 ≤ _; rw [pk_un (by decide)]; omega))))⟩) d_Mpg_declareArray_208
                  · exact absurd c409 (by decide)
                · have nc408 : ¬ z377.toInt ≤ (4096 : Int) := mt (i_le (x := z377) (y := 4096)).mpr c408
                  refine lv_aload_n S.x S.b d_Mpg_declareArray_164 rfl (lv_at hl 2 rfl) ?_
                  refine lv_bipush (v := 8) S.x S.b d_Mpg_declareArray_165 (by decide) ?_
                  refine lv_aload_n S.x S.b d_Mpg_declareArray_167 rfl (lv_at hl 2 rfl) ?_
                  refine px_get S k_Mpg hT hw 0 0 19 (v := .ref (r 19)) rfl rfl rfl (by decide) m10_5 d_Mpg_declareArray_168 ?_
                  refine lv_iload_n S.x S.b d_Mpg_declareArray_171 rfl (lv_at hl 3 rfl) ?_
                  refine px_iald S hT hw 0 15 (n := 2100) (f := (ma73 19)) rfl gp_19 (x := p0) (vp_in_iff.mpr (by first | exact oz_a7e05de1cd hvr.2.2.1 hvr.2.1 g1 g2 | (constructor <;> omega))) d_Mpg_declareArray_172 ?_
                  refine lv_topi (fun z413 ez413 => ?_)
                  have lz413 := Int32.le_toInt z413
                  have uz413 := Int32.toInt_lt z413
                  have ha_z413 : z413 = ma0 19 p0.toNatClampNeg := ez413.trans (Ann.v19 han (by first | with_reducible rfl | with_reducible assumption | omega)); have hn_z413 : z413.toInt = (ma0 19 p0.toNatClampNeg).toInt := (by rw [ha_z413]); have hk3 := hav.k3 (by first | with_reducible rfl | with_reducible assumption | omega); rw [← ha_z413] at hk3
                  refine px_callv (pr := []) (px_runV (As := [.int 8, .int z413]) (rest := []) S (c_mp_bad l D cs h r g tf ta pf na ma73 wa ca ef ea xf xa cf345 8 z413  (show 1 ≤ (8 : Int) from by first | decide | omega) (show 0 ≤ z413.toInt from by first | exact oz_f3ebed1ad0 hn_z413 hk3.1 | omega) (show z413.toInt < (tf 6).toInt from by first | exact oz_b0a61accca hk3.2.1 hn_z413 | omega) htk hwr _) hT (pr := []) (pcs := [wdP cs h r g tf ta pf na ma73 wa cf345 ca ef ea xf xa]) hw px_X.tt (px_recv hT hw 0 0 rfl rfl rfl) m12_173 m12_170 m12_172 ms_11_12 m1_21 q_Mpg_bad ⟨show 0 + 1 ≤ (4 * d + 20) from by first | with_reducible rfl | with_reducible assumption | omega, show 8 + (3 + 11) + 0 ≤ (200 * d + 700) from by first | with_reducible rfl | with_reducible assumption | omega⟩ hl.1 rfl (Nat.le_of_ble_eq_true rfl) d_Mpg_declareArray_173 ⟨Nat.le_of_ble_eq_true rfl, Nat.le_of_ble_eq_true rfl⟩) hw hA (fun p416 H locs hp416 hw => ?_)
                  obtain ⟨cf415, rfl, e418, e419, e420, e421, e422, e423, e424, e425, e426, e427, e428, e429, e430, e431, e432, e433, e434, e435, e436⟩ := hp416
                  have e418 : KpE cf345 cf415 := e418
                  have hkz_e418 := e418.2
                  have e419 : WrV cf415 (tf 6).toInt := e419
                  have hwr := e419
                  have hw0_e419 := hwr.1
                  have e420 : 1 ≤ (cf415 30).toInt := e420
                  have e421 : (cf415 33).toInt = (cf345 33).toInt := e421
                  have e422 : (cf415 38).toInt = (cf345 38).toInt := e422
                  have e423 : (cf415 48).toInt = (cf345 48).toInt := e423
                  have e424 : (cf415 46).toInt = (cf345 46).toInt := e424
                  have e425 : (cf415 47).toInt = (cf345 47).toInt := e425
                  have e426 : (cf415 57).toInt = (cf345 57).toInt := e426
                  have e427 : (cf415 37).toInt = (cf345 37).toInt := e427
                  have e428 : (cf415 42).toInt = (cf345 42).toInt := e428
                  have e429 : (cf415 43).toInt = (cf345 43).toInt := e429
                  have e430 : (cf415 44).toInt = (cf345 44).toInt := e430
                  have e431 : (cf415 45).toInt = (cf345 45).toInt := e431
                  have e432 : (cf415 54).toInt = (cf345 54).toInt := e432
                  have e433 : (cf415 55).toInt = (cf345 55).toInt := e433
                  have e434 : (cf415 58).toInt = (cf345 58).toInt := e434
                  have e435 : (cf415 59).toInt = (cf345 59).toInt := e435
                  have e436 : (cf415 41).toInt = (cf345 41).toInt := e436
                  have hw : pw D A s.heap H locs [wdP cs h r g tf ta pf na ma73 wa cf415 ca ef ea xf xa] := hw
                  refine lv_aload_n S.x S.b d_Mpg_declareArray_176 rfl (lv_at hl 2 rfl) ?_
                  refine lv_iload_n S.x S.b d_Mpg_declareArray_177 rfl (lv_at hl 1 rfl) ?_
                  refine lv_if_ge (tgt := 185) S.x S.b d_Mpg_declareArray_178 (by decide) (fun c437 => ?_) (fun c437 => ?_)
                  ·
                    refine lv_iload_n S.x S.b d_Mpg_declareArray_185 rfl (lv_at hl 1 rfl) ?_
                    refine px_put S k_Mpg hT hw 0 0 58 rfl rfl (by decide) m10_55 rfl rfl rfl (Nat.le_of_ble_eq_true rfl) d_Mpg_declareArray_186 (w' := wdP cs h r g tf ta pf na ma73 wa (upd cf415 58 4096) ca ef ea xf xa) (ps' := [wdP cs h r g tf ta pf na ma73 wa (upd cf415 58 4096) ca ef ea xf xa]) rfl rfl (fun H locs hw => ?_)
                    refine lv_iload_n S.x S.b d_Mpg_declareArray_189 rfl (lv_at hl 4 rfl) ?_
                    refine lv_if_eq (tgt := 204) S.x S.b d_Mpg_declareArray_190 (by decide) (fun c438 => ?_) (fun c438 => ?_)
                    · have nc438 : p1.toInt = (0 : Int) := (i_eq (x := p1) (y := 0)).mp c438
                      refine lv_aload_n S.x S.b d_Mpg_declareArray_204 rfl (lv_at hl 2 rfl) ?_
                      refine px_get S k_Mpg hT hw 0 0 58 (v := .int 4096) rfl rfl rfl (by decide) m10_55 d_Mpg_declareArray_205 ?_
                      exact px_iret (v := 4096) S hr rfl hlk hAe hw (Nat.le_of_ble_eq_true rfl) (Nat.le_of_ble_eq_true rfl) (⟨ma73, (upd cf415 58 4096), rfl, (show (cf415 30).toInt = 0 → (cf 30).toInt = 0 from by first | with_reducible rfl | with_reducible assumption | omega), (show WrV (upd cf415 58 4096) (tf 6).toInt from (WrV.u hwr (by decide) (by decide))), (show (cf415 33).toInt = (cf 33).toInt from by first | exact oz_e13fc83238 e79 e421 e351 | omega), (show (cf415 37).toInt = (cf 37).toInt from by first | exact oz_e13fc83238 hkk37_e77 e427 e357 | omega), (show (cf415 38).toInt = (cf 38).toInt from by first | exact oz_e13fc83238 e80 e422 e352 | omega), (show (cf415 41).toInt = (cf 41).toInt from by first | exact oz_e13fc83238 hkk41_e77 e436 e366 | omega), (show (cf415 42).toInt = (cf 42).toInt from by first | exact oz_e13fc83238 hkk42_e77 e428 e358 | omega), (show (cf415 43).toInt = (cf 43).toInt from by first | exact oz_e13fc83238 hkk43_e77 e429 e359 | omega), (show (cf415 44).toInt = (cf 44).toInt from by first | exact oz_e13fc83238 hkk44_e77 e430 e360 | omega), (show (cf415 45).toInt = (cf 45).toInt from by first | exact oz_e13fc83238 hkk45_e77 e431 e361 | omega), (show (cf415 46).toInt = (cf 46).toInt from by first | exact oz_e13fc83238 e82 e424 e354 | omega), (show (cf415 47).toInt = (cf 47).toInt from by first | exact oz_e13fc83238 e83 e425 e355 | omega), (show (cf415 48).toInt = (cf 48).toInt from by first | exact oz_e13fc83238 e81 e423 e353 | omega), (show (cf415 54).toInt = (cf 54).toInt from by first | exact oz_e13fc83238 hkk54_e77 e432 e362 | omega), (show (cf415 55).toInt = (cf 55).toInt from by first | exact oz_e13fc83238 hkk55_e77 e433 e363 | omega), (show (cf415 59).toInt = (cf 59).toInt from by first | exact oz_e13fc83238 hkk59_e77 e435 e365 | omega), (show Ann na ma0 ma73 from han), (show FrC lo hi ma ma73 from hfc), (show 0 ≤ (4096 : Int) from by first | decide | omega), (show (4096 : Int) ≤ 4096 from by first | decide | omega), (show 0 ≤ (4096 : Int) from by first | decide | omega), (show (4096 : Int) ≤ 4096 from by first | decide | omega), (show (4096 : Int) ≤ 4 * (4096 : Int) from by first | decide | omega), (show ZAv (upd cf415 58 4096) ta na ma73 p0 (4096 : Int) from (zr_no (by first | omega | (show 1 ≤ _; rw [pk_un (by decide)]; omega))))⟩) d_Mpg_declareArray_208
                    · have nc438 : ¬ p1.toInt = (0 : Int) := mt (i_eq (x := p1) (y := 0)).mpr c438
                      refine lv_aload_n S.x S.b d_Mpg_declareArray_193 rfl (lv_at hl 2 rfl) ?_
                      refine px_get S k_Mpg hT hw 0 0 58 (v := .int 4096) rfl rfl rfl (by decide) m10_55 d_Mpg_declareArray_194 ?_
                      refine lv_iconst (v := 3) S.x S.b d_Mpg_declareArray_197 (by decide) ?_
                      refine lv_iadd S.x S.b d_Mpg_declareArray_198 ?_
                      refine lv_topi (fun z439 ez439 => ?_)
                      have tz439 : z439.toInt = ((4096 : Int) + (3 : Int) + 2147483648) % 4294967296 - 2147483648 := by rw [ez439]; exact i_add 4096 3
                      have lz439 := Int32.le_toInt z439
                      have uz439 := Int32.toInt_lt z439
                      try replace tz439 : z439.toInt = (4096 : Int) + (3 : Int) := by omega
                      refine lv_iconst (v := 4) S.x S.b d_Mpg_declareArray_199 (by decide) ?_
                      refine lv_idiv S.x S.b d_Mpg_declareArray_200 (fun hz0 => by have hz1 := i_eq.mp hz0; omega) ?_
                      refine lv_topi (fun z440 ez440 => ?_)
                      have lz440 := Int32.le_toInt z440
                      have uz440 := Int32.toInt_lt z440
                      have hd4 := i_div4 ez440 (by first | with_reducible rfl | with_reducible assumption | omega)
                      refine lv_goto (tgt := 208) S.x S.b d_Mpg_declareArray_201 (by decide) ?_
                      exact px_iret (v := z440) S hr rfl hlk hAe hw (Nat.le_of_ble_eq_true rfl) (Nat.le_of_ble_eq_true rfl) (⟨ma73, (upd cf415 58 4096), rfl, (show (cf415 30).toInt = 0 → (cf 30).toInt = 0 from by first | with_reducible rfl | with_reducible assumption | omega), (show WrV (upd cf415 58 4096) (tf 6).toInt from (WrV.u hwr (by decide) (by decide))), (show (cf415 33).toInt = (cf 33).toInt from by first | exact oz_e13fc83238 e79 e421 e351 | omega), (show (cf415 37).toInt = (cf 37).toInt from by first | exact oz_e13fc83238 hkk37_e77 e427 e357 | omega), (show (cf415 38).toInt = (cf 38).toInt from by first | exact oz_e13fc83238 e80 e422 e352 | omega), (show (cf415 41).toInt = (cf 41).toInt from by first | exact oz_e13fc83238 hkk41_e77 e436 e366 | omega), (show (cf415 42).toInt = (cf 42).toInt from by first | exact oz_e13fc83238 hkk42_e77 e428 e358 | omega), (show (cf415 43).toInt = (cf 43).toInt from by first | exact oz_e13fc83238 hkk43_e77 e429 e359 | omega), (show (cf415 44).toInt = (cf 44).toInt from by first | exact oz_e13fc83238 hkk44_e77 e430 e360 | omega), (show (cf415 45).toInt = (cf 45).toInt from by first | exact oz_e13fc83238 hkk45_e77 e431 e361 | omega), (show (cf415 46).toInt = (cf 46).toInt from by first | exact oz_e13fc83238 e82 e424 e354 | omega), (show (cf415 47).toInt = (cf 47).toInt from by first | exact oz_e13fc83238 e83 e425 e355 | omega), (show (cf415 48).toInt = (cf 48).toInt from by first | exact oz_e13fc83238 e81 e423 e353 | omega), (show (cf415 54).toInt = (cf 54).toInt from by first | exact oz_e13fc83238 hkk54_e77 e432 e362 | omega), (show (cf415 55).toInt = (cf 55).toInt from by first | exact oz_e13fc83238 hkk55_e77 e433 e363 | omega), (show (cf415 59).toInt = (cf 59).toInt from by first | exact oz_e13fc83238 hkk59_e77 e435 e365 | omega), (show Ann na ma0 ma73 from han), (show FrC lo hi ma ma73 from hfc), (show 0 ≤ (4096 : Int) from by first | decide | omega), (show (4096 : Int) ≤ 4096 from by first | decide | omega), (show 0 ≤ z440.toInt from by first | with_reducible rfl | with_reducible assumption | omega), (show z440.toInt ≤ 4096 from by first | with_reducible rfl | with_reducible assumption | omega), (show (4096 : Int) ≤ 4 * z440.toInt from by first | with_reducible rfl | with_reducible assumption | omega), (show ZAv (upd cf415 58 4096) ta na ma73 p0 (4096 : Int) from (zr_no (by first | omega | (show 1 ≤ _; rw [pk_un (by decide)]; omega))))⟩) d_Mpg_declareArray_208
                  · exact absurd c437 (by decide)
        · have nc368 : z367.toInt = (2 : Int) := (i_eq (x := z367) (y := 2)).mp c368
          refine lv_iconst (v := 0) S.x S.b d_Mpg_declareArray_62 (by decide) ?_
          refine lv_istore (lv' := [(4, .int 0), (3, .int 4096), (0, .ref h), (1, .int p0), (2, .int p1)]) S.x S.b d_Mpg_declareArray_63 hl (by decide) rfl (fun ls hl => ?_)
          refine lv_aload_n S.x S.b d_Mpg_declareArray_65 rfl (lv_at hl 2 rfl) ?_
          refine px_get S k_Mpg hT hw 0 0 18 (v := .ref (r 18)) rfl rfl rfl (by decide) m10_3 d_Mpg_declareArray_66 ?_
          refine lv_iload_n S.x S.b d_Mpg_declareArray_69 rfl (lv_at hl 3 rfl) ?_
          refine px_iald S hT hw 0 14 (n := 2100) (f := (ma73 18)) rfl gp_18 (x := p0) (vp_in_iff.mpr (by first | exact oz_a7e05de1cd hvr.2.2.1 hvr.2.1 g1 g2 | (constructor <;> omega))) d_Mpg_declareArray_70 ?_
          refine lv_topi (fun z441 ez441 => ?_)
          have lz441 := Int32.le_toInt z441
          have uz441 := Int32.toInt_lt z441
          obtain ⟨⟨wr, hrv, hwr9⟩, h19a, h19b⟩ := hav.k2 (by first | with_reducible rfl | with_reducible assumption | omega); have ha_z441 : z441 = ma0 18 p0.toNatClampNeg := ez441.trans (Ann.v18 han (by first | with_reducible rfl | with_reducible assumption | omega))
          refine lv_istore (lv' := [(5, .int z441), (4, .int 0), (3, .int 4096), (0, .ref h), (1, .int p0), (2, .int p1)]) S.x S.b d_Mpg_declareArray_71 hl (by decide) rfl (fun ls hl => ?_)
          exact J73 ((hi - m1).toNat + 1) ma73 cf345 m1 wr (4096 : Int32) (0 : Int32) z441 _ _ ls (show (cf345 30).toInt = 0 → (cf 30).toInt = 0 from by first | with_reducible rfl | with_reducible assumption | omega) (show WrV cf345 (tf 6).toInt from hwr) (show (cf345 33).toInt = (cf 33).toInt from by first | exact oz_1687f4cc65 e79 e351 | omega) (show (cf345 37).toInt = (cf 37).toInt from by first | exact oz_1687f4cc65 hkk37_e77 e357 | omega) (show (cf345 38).toInt = (cf 38).toInt from by first | exact oz_1687f4cc65 e80 e352 | omega) (show (cf345 41).toInt = (cf 41).toInt from by first | exact oz_1687f4cc65 hkk41_e77 e366 | omega) (show (cf345 42).toInt = (cf 42).toInt from by first | exact oz_1687f4cc65 hkk42_e77 e358 | omega) (show (cf345 43).toInt = (cf 43).toInt from by first | exact oz_1687f4cc65 hkk43_e77 e359 | omega) (show (cf345 44).toInt = (cf 44).toInt from by first | exact oz_1687f4cc65 hkk44_e77 e360 | omega) (show (cf345 45).toInt = (cf 45).toInt from by first | exact oz_1687f4cc65 hkk45_e77 e361 | omega) (show (cf345 46).toInt = (cf 46).toInt from by first | exact oz_1687f4cc65 e82 e354 | omega) (show (cf345 47).toInt = (cf 47).toInt from by first | exact oz_1687f4cc65 e83 e355 | omega) (show (cf345 48).toInt = (cf 48).toInt from by first | exact oz_1687f4cc65 e81 e353 | omega) (show (cf345 54).toInt = (cf 54).toInt from by first | exact oz_1687f4cc65 hkk54_e77 e362 | omega) (show (cf345 55).toInt = (cf 55).toInt from by first | exact oz_1687f4cc65 hkk55_e77 e363 | omega) (show (cf345 59).toInt = (cf 59).toInt from by first | exact oz_1687f4cc65 hkk59_e77 e365 | omega) (show Ann na ma0 ma73 from han) (show FrC lo hi ma ma73 from hfc) (show -1 ≤ (4096 : Int) from by first | decide | omega) (show (4096 : Int) ≤ 4096 from by first | decide | omega) (show (4096 : Int) = -1 → 1 ≤ (cf345 30).toInt from by first | with_reducible rfl | with_reducible assumption | omega) (show 0 ≤ (0 : Int) from by first | decide | omega) (show (0 : Int) + m1 ≤ m1 from by first | exact oz_05158eb67a | omega) (show m1 ≤ m1 from by first | exact oz_1cb5f934a5 | omega) (show m1 ≤ hi from by first | exact hm2 | omega) (show (ma0 22 p0.toNatClampNeg).toInt = 2 from by first | exact oz_70422203cd rz367 nc368 | omega) (show RvI ta (tf 6).toInt na ma0 d m1 hi wr z441 from (by rw [ha_z441]; exact hrv)) (show RlC na (ma0 18 p0.toNatClampNeg) z441 (0 : Int) from (by rw [ha_z441]; exact rlc_0)) (show hi - m1 < ((((hi - m1).toNat + 1 : Nat) : Int) : Int) from by first | exact oz_natlt | omega) hw (lv_sub hl [3, 4, 5, 2, 1, 0] rfl)
