theorem oz_c7a66485cf {a0 : Int} (h0 : (0 : Int) ≤ a0) : a0 ≤ 4 * a0 := by omega
theorem oz_ebe7f98d01 {a0 a1 : Int} (h0 : a1 < (0 : Int)) (h1 : (0 : Int) ≤ a1) : a0 = a1 + (3 : Int) := by omega
theorem oz_580d794320 {a0 a1 : Int} (h0 : a0 < (0 : Int)) (h1 : (0 : Int) ≤ a0) : a0 ≤ 4 * a1 := by omega
theorem oz_37065d99f6  : (0 : Int) ≤ 4096 := by omega
theorem oz_397c02ad98  : (0 : Int) ≤ 4 * (0 : Int) := by omega
theorem oz_26cc6bf789 {a0 a1 : Int} (h0 : a1 ≤ a0) (h1 : 0 ≤ a1) : a0 ≤ 4 * a0 := by omega
theorem oz_06ab0f2373 {a0 a1 a2 a3 a4 a5 a6 : Int} (h0 : 0 ≤ a0) (h1 : a0 < a1) (h2 : a2 ≤ a3) (h3 : a4 + a1 ≤ a5) (h4 : a5 ≤ a2) (h5 : a3 ≤ 2100) (h6 : ¬ a4 ≤ a6) (h7 : ¬ a6 < (0 : Int)) : 0 ≤ a0 ∧ a0 < ((2100 : Nat) : Int) := by omega
theorem oz_fe427bacb1  : 1 ≤ (8 : Int) := by omega
theorem oz_03643ffaec {a0 a1 a2 : Int} (h0 : a0 = a2) (h1 : a2 < (a1)) : a0 < a1 := by omega
theorem oz_8385159a22 {n0 : Nat}  : 0 + 1 ≤ (4 * n0 + 20) := by omega
theorem oz_a3cd9048d3 {n0 : Nat}  : 8 + (3 + 11) + 0 ≤ (200 * n0 + 700) := by omega
theorem oz_f1bd93de6e {a0 : Int} (h0 : ¬ a0 < (0 : Int)) : a0 ≤ 4 * a0 := by omega
theorem oz_8df2b9da5a {a0 a1 a2 : Int} (h0 : a1 ≤ a0) (h1 : a2 < a1) (h2 : 0 ≤ a2) : 0 ≤ a0 := by omega
theorem oz_806aa97e85 {n0 : Nat}  : (4 * n0 + 18) + 1 ≤ (4 * n0 + 20) := by omega
theorem oz_38cf6322af {n0 : Nat}  : 8 + (5 + 11) + (200 * n0 + 640) ≤ (200 * n0 + 700) := by omega
theorem oz_8859ebd461 {a0 a1 a2 : Int} (h0 : a0 = a1) (h1 : 0 ≤ a1) (h2 : a1 < (a2)) (h3 : a2 ≤ 2049) : 0 ≤ a0 ∧ a0 < ((2060 : Nat) : Int) := by omega
theorem oz_b0a61accca {a0 a1 a2 : Int} (h0 : a2 < (a1)) (h1 : a0 = a2) : a0 < a1 := by omega
theorem oz_42d99b7330  : (-1 : Int) ≤ 4096 := by omega
theorem oz_05158eb67a {a0 : Int}  : (0 : Int) + a0 ≤ a0 := by omega
theorem oz_70422203cd {a0 a1 : Int} (h0 : a1 = a0) (h1 : a1 = (2 : Int)) : a0 = 2 := by omega
theorem oz_ddfb5238da {n0 : Nat}  : 8 + (2 + 11) + 0 ≤ (200 * n0 + 700) := by omega
theorem oz_0229090d46  : 0 ≤ (4096 : Int) := by omega
theorem oz_44e5be0b59  : (4096 : Int) ≤ 4096 := by omega
theorem oz_e232d82f68  : (4096 : Int) ≤ 4 * (4096 : Int) := by omega
theorem oz_e8005d8519  : -1 ≤ (4096 : Int) := by omega
theorem oz_0184fb6be8 {a0 : Int} (h0 : ¬ a0 < (1 : Int)) : 0 ≤ a0 := by omega
theorem oz_d819beab09 {a0 : Int} (h0 : a0 ≤ (4096 : Int)) : a0 ≤ 4096 := by omega
theorem oz_404e7427cb {a0 : Int} (h0 : ¬ a0 < (1 : Int)) : a0 ≤ 4 * a0 := by omega
theorem oz_8d86603399 {a0 : Int} (h0 : a0 < (0 : Int)) : a0 ≤ 4096 := by omega
theorem oz_95a53c78cb {a0 a1 : Int} (h0 : ¬ a1 < (1 : Int)) (h1 : a1 < (0 : Int)) : a0 = a1 + (3 : Int) := by omega
theorem oz_be61439b89 {a0 a1 : Int} (h0 : ¬ a0 < (1 : Int)) (h1 : a0 < (0 : Int)) : a0 ≤ 4 * a1 := by omega
theorem oz_4ecc7d07af {a0 : Int} (h0 : ¬ a0 < (1 : Int)) : -1 ≤ a0 := by omega
theorem m10_55 : Cond.fieldLink "HomeSystemModel$Program" 627 "HomeSystemModel$Program" "sizeNow" "I" ∈ AL := AL_10 (List.mem_of_getElem? (i := 55) rfl) rfl
theorem m12_234 : Cond.methodLink "HomeSystemModel$Program" 593 ⟨"HomeSystemModel$Program", "checkConstant", "(I)Z"⟩ ∈ AL := AL_12 (List.mem_of_getElem? (i := 234) rfl) rfl
theorem m12_237 : Cond.code ⟨"HomeSystemModel$Program", "checkConstant", "(I)Z"⟩ prog_16_method_83_code 5 (Option.some FieldType.boolean) ∈ AL := AL_12 (List.mem_of_getElem? (i := 237) rfl) rfl
theorem ms_12_12 : Cond.selects "HomeSystemModel$Program" ⟨"HomeSystemModel$Program", "checkConstant", "(I)Z"⟩ ⟨"HomeSystemModel$Program", "checkConstant", "(I)Z"⟩ ∈ AL := AL_p (q := (⟨"HomeSystemModel$Program", "checkConstant", "(I)Z"⟩, 69)) (by unfold lw_privs; exact List.mem_append_right _ (List.mem_append_right _ (List.mem_append_right _ (List.mem_append_right _ (List.mem_append_right _ (List.mem_append_right _ (List.mem_append_right _ (List.mem_append_right _ (List.mem_append_right _ (List.mem_append_right _ (List.mem_append_right _ (List.mem_append_left _ (List.mem_of_getElem? (i := 12) rfl)))))))))))))
theorem m12_236 : Cond.instanceMethod ⟨"HomeSystemModel$Program", "checkConstant", "(I)Z"⟩ ∈ AL := AL_12 (List.mem_of_getElem? (i := 236) rfl) rfl
abbrev b_Mpg_declareArray : ByteArray := prog_16_method_87_code
def y_Mpg_declareArray : MethodName := ⟨"HomeSystemModel$Program", "declareArray", "(IZ)I"⟩
theorem d_Mpg_declareArray_0 : decode b_Mpg_declareArray 0 = .ok (.iconst (-1), 1) := by decide +kernel
theorem d_Mpg_declareArray_1 : decode b_Mpg_declareArray 1 = .ok (.istore_n 3, 1) := by decide +kernel
theorem d_Mpg_declareArray_2 : decode b_Mpg_declareArray 2 = .ok (.aload_n 0, 1) := by decide +kernel
theorem d_Mpg_declareArray_3 : decode b_Mpg_declareArray 3 = .ok (.aload_n 0, 1) := by decide +kernel
theorem d_Mpg_declareArray_4 : decode b_Mpg_declareArray 4 = .ok (.getfield 216, 3) := by decide +kernel
theorem d_Mpg_declareArray_7 : decode b_Mpg_declareArray 7 = .ok (.iload_n 1, 1) := by decide +kernel
theorem d_Mpg_declareArray_8 : decode b_Mpg_declareArray 8 = .ok (.iaload, 1) := by decide +kernel
theorem d_Mpg_declareArray_9 : decode b_Mpg_declareArray 9 = .ok (.invokevirtual 593, 3) := by decide +kernel
theorem d_Mpg_declareArray_12 : decode b_Mpg_declareArray 12 = .ok (.ifCond .eq 40, 3) := by decide +kernel
theorem d_Mpg_declareArray_15 : decode b_Mpg_declareArray 15 = .ok (.aload_n 0, 1) := by decide +kernel
theorem d_Mpg_declareArray_16 : decode b_Mpg_declareArray 16 = .ok (.getfield 612, 3) := by decide +kernel
theorem d_Mpg_declareArray_19 : decode b_Mpg_declareArray 19 = .ok (.istore_n 3, 1) := by decide +kernel
theorem d_Mpg_declareArray_20 : decode b_Mpg_declareArray 20 = .ok (.iload_n 3, 1) := by decide +kernel
theorem d_Mpg_declareArray_21 : decode b_Mpg_declareArray 21 = .ok (.iconst 1, 1) := by decide +kernel
theorem d_Mpg_declareArray_22 : decode b_Mpg_declareArray 22 = .ok (.if_icmp .lt 10, 3) := by decide +kernel
theorem d_Mpg_declareArray_25 : decode b_Mpg_declareArray 25 = .ok (.iload_n 3, 1) := by decide +kernel
theorem d_Mpg_declareArray_26 : decode b_Mpg_declareArray 26 = .ok (.sipush 4096, 3) := by decide +kernel
theorem d_Mpg_declareArray_29 : decode b_Mpg_declareArray 29 = .ok (.if_icmp .le 23, 3) := by decide +kernel
theorem d_Mpg_declareArray_32 : decode b_Mpg_declareArray 32 = .ok (.aload_n 0, 1) := by decide +kernel
theorem d_Mpg_declareArray_33 : decode b_Mpg_declareArray 33 = .ok (.bipush 8, 2) := by decide +kernel
theorem d_Mpg_declareArray_35 : decode b_Mpg_declareArray 35 = .ok (.aload_n 0, 1) := by decide +kernel
theorem d_Mpg_declareArray_36 : decode b_Mpg_declareArray 36 = .ok (.aload_n 0, 1) := by decide +kernel
theorem d_Mpg_declareArray_37 : decode b_Mpg_declareArray 37 = .ok (.getfield 216, 3) := by decide +kernel
theorem d_Mpg_declareArray_40 : decode b_Mpg_declareArray 40 = .ok (.iload_n 1, 1) := by decide +kernel
theorem d_Mpg_declareArray_41 : decode b_Mpg_declareArray 41 = .ok (.iaload, 1) := by decide +kernel
theorem d_Mpg_declareArray_42 : decode b_Mpg_declareArray 42 = .ok (.invokevirtual 584, 3) := by decide +kernel
theorem d_Mpg_declareArray_45 : decode b_Mpg_declareArray 45 = .ok (.invokevirtual 565, 3) := by decide +kernel
theorem d_Mpg_declareArray_48 : decode b_Mpg_declareArray 48 = .ok (.sipush 4096, 3) := by decide +kernel
theorem d_Mpg_declareArray_51 : decode b_Mpg_declareArray 51 = .ok (.istore_n 3, 1) := by decide +kernel
theorem d_Mpg_declareArray_52 : decode b_Mpg_declareArray 52 = .ok (.aload_n 0, 1) := by decide +kernel
theorem d_Mpg_declareArray_53 : decode b_Mpg_declareArray 53 = .ok (.getfield 231, 3) := by decide +kernel
theorem d_Mpg_declareArray_56 : decode b_Mpg_declareArray 56 = .ok (.iload_n 1, 1) := by decide +kernel
theorem d_Mpg_declareArray_57 : decode b_Mpg_declareArray 57 = .ok (.iaload, 1) := by decide +kernel
theorem d_Mpg_declareArray_58 : decode b_Mpg_declareArray 58 = .ok (.iconst 2, 1) := by decide +kernel
theorem d_Mpg_declareArray_59 : decode b_Mpg_declareArray 59 = .ok (.if_icmp .ne 66, 3) := by decide +kernel
theorem d_Mpg_declareArray_62 : decode b_Mpg_declareArray 62 = .ok (.iconst 0, 1) := by decide +kernel
theorem d_Mpg_declareArray_63 : decode b_Mpg_declareArray 63 = .ok (.istore 4, 2) := by decide +kernel
theorem d_Mpg_declareArray_65 : decode b_Mpg_declareArray 65 = .ok (.aload_n 0, 1) := by decide +kernel
theorem d_Mpg_declareArray_66 : decode b_Mpg_declareArray 66 = .ok (.getfield 219, 3) := by decide +kernel
theorem d_Mpg_declareArray_69 : decode b_Mpg_declareArray 69 = .ok (.iload_n 1, 1) := by decide +kernel
theorem d_Mpg_declareArray_70 : decode b_Mpg_declareArray 70 = .ok (.iaload, 1) := by decide +kernel
theorem d_Mpg_declareArray_71 : decode b_Mpg_declareArray 71 = .ok (.istore 5, 2) := by decide +kernel
theorem d_Mpg_declareArray_73 : decode b_Mpg_declareArray 73 = .ok (.iload 5, 2) := by decide +kernel
theorem d_Mpg_declareArray_75 : decode b_Mpg_declareArray 75 = .ok (.ifCond .lt 25, 3) := by decide +kernel
theorem d_Mpg_declareArray_78 : decode b_Mpg_declareArray 78 = .ok (.aload_n 0, 1) := by decide +kernel
theorem d_Mpg_declareArray_79 : decode b_Mpg_declareArray 79 = .ok (.iload 5, 2) := by decide +kernel
theorem d_Mpg_declareArray_81 : decode b_Mpg_declareArray 81 = .ok (.invokevirtual 593, 3) := by decide +kernel
theorem d_Mpg_declareArray_84 : decode b_Mpg_declareArray 84 = .ok (.pop, 1) := by decide +kernel
theorem d_Mpg_declareArray_85 : decode b_Mpg_declareArray 85 = .ok (.iinc 4 1, 3) := by decide +kernel
theorem d_Mpg_declareArray_88 : decode b_Mpg_declareArray 88 = .ok (.aload_n 0, 1) := by decide +kernel
theorem d_Mpg_declareArray_89 : decode b_Mpg_declareArray 89 = .ok (.getfield 228, 3) := by decide +kernel
theorem d_Mpg_declareArray_92 : decode b_Mpg_declareArray 92 = .ok (.iload 5, 2) := by decide +kernel
theorem d_Mpg_declareArray_94 : decode b_Mpg_declareArray 94 = .ok (.iaload, 1) := by decide +kernel
theorem d_Mpg_declareArray_95 : decode b_Mpg_declareArray 95 = .ok (.istore 5, 2) := by decide +kernel
theorem d_Mpg_declareArray_97 : decode b_Mpg_declareArray 97 = .ok (.goto (-24), 3) := by decide +kernel
theorem d_Mpg_declareArray_100 : decode b_Mpg_declareArray 100 = .ok (.iload_n 3, 1) := by decide +kernel
theorem d_Mpg_declareArray_101 : decode b_Mpg_declareArray 101 = .ok (.ifCond .lt 21, 3) := by decide +kernel
theorem d_Mpg_declareArray_104 : decode b_Mpg_declareArray 104 = .ok (.iload 4, 2) := by decide +kernel
theorem d_Mpg_declareArray_106 : decode b_Mpg_declareArray 106 = .ok (.iload_n 3, 1) := by decide +kernel
theorem d_Mpg_declareArray_107 : decode b_Mpg_declareArray 107 = .ok (.if_icmp .le 15, 3) := by decide +kernel
theorem d_Mpg_declareArray_110 : decode b_Mpg_declareArray 110 = .ok (.aload_n 0, 1) := by decide +kernel
theorem d_Mpg_declareArray_111 : decode b_Mpg_declareArray 111 = .ok (.bipush 8, 2) := by decide +kernel
theorem d_Mpg_declareArray_113 : decode b_Mpg_declareArray 113 = .ok (.aload_n 0, 1) := by decide +kernel
theorem d_Mpg_declareArray_114 : decode b_Mpg_declareArray 114 = .ok (.getfield 222, 3) := by decide +kernel
theorem d_Mpg_declareArray_117 : decode b_Mpg_declareArray 117 = .ok (.iload_n 1, 1) := by decide +kernel
theorem d_Mpg_declareArray_118 : decode b_Mpg_declareArray 118 = .ok (.iaload, 1) := by decide +kernel
theorem d_Mpg_declareArray_119 : decode b_Mpg_declareArray 119 = .ok (.invokevirtual 565, 3) := by decide +kernel
theorem d_Mpg_declareArray_122 : decode b_Mpg_declareArray 122 = .ok (.goto 54, 3) := by decide +kernel
theorem d_Mpg_declareArray_125 : decode b_Mpg_declareArray 125 = .ok (.aload_n 0, 1) := by decide +kernel
theorem d_Mpg_declareArray_126 : decode b_Mpg_declareArray 126 = .ok (.getfield 231, 3) := by decide +kernel
theorem d_Mpg_declareArray_129 : decode b_Mpg_declareArray 129 = .ok (.iload_n 1, 1) := by decide +kernel
theorem d_Mpg_declareArray_130 : decode b_Mpg_declareArray 130 = .ok (.iaload, 1) := by decide +kernel
theorem d_Mpg_declareArray_131 : decode b_Mpg_declareArray 131 = .ok (.iconst 3, 1) := by decide +kernel
theorem d_Mpg_declareArray_132 : decode b_Mpg_declareArray 132 = .ok (.if_icmp .ne 44, 3) := by decide +kernel
theorem d_Mpg_declareArray_135 : decode b_Mpg_declareArray 135 = .ok (.aload_n 0, 1) := by decide +kernel
theorem d_Mpg_declareArray_136 : decode b_Mpg_declareArray 136 = .ok (.getfield 204, 3) := by decide +kernel
theorem d_Mpg_declareArray_139 : decode b_Mpg_declareArray 139 = .ok (.aload_n 0, 1) := by decide +kernel
theorem d_Mpg_declareArray_140 : decode b_Mpg_declareArray 140 = .ok (.getfield 222, 3) := by decide +kernel
theorem d_Mpg_declareArray_143 : decode b_Mpg_declareArray 143 = .ok (.iload_n 1, 1) := by decide +kernel
theorem d_Mpg_declareArray_144 : decode b_Mpg_declareArray 144 = .ok (.iaload, 1) := by decide +kernel
theorem d_Mpg_declareArray_145 : decode b_Mpg_declareArray 145 = .ok (.iaload, 1) := by decide +kernel
theorem d_Mpg_declareArray_146 : decode b_Mpg_declareArray 146 = .ok (.iconst 1, 1) := by decide +kernel
theorem d_Mpg_declareArray_147 : decode b_Mpg_declareArray 147 = .ok (.iadd, 1) := by decide +kernel
theorem d_Mpg_declareArray_148 : decode b_Mpg_declareArray 148 = .ok (.istore 4, 2) := by decide +kernel
theorem d_Mpg_declareArray_150 : decode b_Mpg_declareArray 150 = .ok (.iload_n 2, 1) := by decide +kernel
theorem d_Mpg_declareArray_151 : decode b_Mpg_declareArray 151 = .ok (.ifCond .eq 13, 3) := by decide +kernel
theorem d_Mpg_declareArray_154 : decode b_Mpg_declareArray 154 = .ok (.iload_n 3, 1) := by decide +kernel
theorem d_Mpg_declareArray_155 : decode b_Mpg_declareArray 155 = .ok (.ifCond .lt 21, 3) := by decide +kernel
theorem d_Mpg_declareArray_158 : decode b_Mpg_declareArray 158 = .ok (.iload 4, 2) := by decide +kernel
theorem d_Mpg_declareArray_160 : decode b_Mpg_declareArray 160 = .ok (.iload_n 3, 1) := by decide +kernel
theorem d_Mpg_declareArray_161 : decode b_Mpg_declareArray 161 = .ok (.if_icmp .le 15, 3) := by decide +kernel
theorem d_Mpg_declareArray_164 : decode b_Mpg_declareArray 164 = .ok (.aload_n 0, 1) := by decide +kernel
theorem d_Mpg_declareArray_165 : decode b_Mpg_declareArray 165 = .ok (.bipush 8, 2) := by decide +kernel
theorem d_Mpg_declareArray_167 : decode b_Mpg_declareArray 167 = .ok (.aload_n 0, 1) := by decide +kernel
theorem d_Mpg_declareArray_168 : decode b_Mpg_declareArray 168 = .ok (.getfield 222, 3) := by decide +kernel
theorem d_Mpg_declareArray_171 : decode b_Mpg_declareArray 171 = .ok (.iload_n 1, 1) := by decide +kernel
theorem d_Mpg_declareArray_172 : decode b_Mpg_declareArray 172 = .ok (.iaload, 1) := by decide +kernel
theorem d_Mpg_declareArray_173 : decode b_Mpg_declareArray 173 = .ok (.invokevirtual 565, 3) := by decide +kernel
theorem d_Mpg_declareArray_176 : decode b_Mpg_declareArray 176 = .ok (.aload_n 0, 1) := by decide +kernel
theorem d_Mpg_declareArray_177 : decode b_Mpg_declareArray 177 = .ok (.iload_n 3, 1) := by decide +kernel
theorem d_Mpg_declareArray_178 : decode b_Mpg_declareArray 178 = .ok (.ifCond .ge 7, 3) := by decide +kernel
theorem d_Mpg_declareArray_181 : decode b_Mpg_declareArray 181 = .ok (.iconst 0, 1) := by decide +kernel
theorem d_Mpg_declareArray_182 : decode b_Mpg_declareArray 182 = .ok (.goto 4, 3) := by decide +kernel
theorem d_Mpg_declareArray_185 : decode b_Mpg_declareArray 185 = .ok (.iload_n 3, 1) := by decide +kernel
theorem d_Mpg_declareArray_186 : decode b_Mpg_declareArray 186 = .ok (.putfield 627, 3) := by decide +kernel
theorem d_Mpg_declareArray_189 : decode b_Mpg_declareArray 189 = .ok (.iload_n 2, 1) := by decide +kernel
theorem d_Mpg_declareArray_190 : decode b_Mpg_declareArray 190 = .ok (.ifCond .eq 14, 3) := by decide +kernel
theorem d_Mpg_declareArray_193 : decode b_Mpg_declareArray 193 = .ok (.aload_n 0, 1) := by decide +kernel
theorem d_Mpg_declareArray_194 : decode b_Mpg_declareArray 194 = .ok (.getfield 627, 3) := by decide +kernel
theorem d_Mpg_declareArray_197 : decode b_Mpg_declareArray 197 = .ok (.iconst 3, 1) := by decide +kernel
theorem d_Mpg_declareArray_198 : decode b_Mpg_declareArray 198 = .ok (.iadd, 1) := by decide +kernel
theorem d_Mpg_declareArray_199 : decode b_Mpg_declareArray 199 = .ok (.iconst 4, 1) := by decide +kernel
theorem d_Mpg_declareArray_200 : decode b_Mpg_declareArray 200 = .ok (.idiv, 1) := by decide +kernel
theorem d_Mpg_declareArray_201 : decode b_Mpg_declareArray 201 = .ok (.goto 7, 3) := by decide +kernel
theorem d_Mpg_declareArray_204 : decode b_Mpg_declareArray 204 = .ok (.aload_n 0, 1) := by decide +kernel
theorem d_Mpg_declareArray_205 : decode b_Mpg_declareArray 205 = .ok (.getfield 627, 3) := by decide +kernel
theorem d_Mpg_declareArray_208 : decode b_Mpg_declareArray 208 = .ok (.ireturn, 1) := by decide +kernel
theorem q_Mpg_declareArray : px_y y_Mpg_declareArray 2 := by unfold px_y; decide +kernel
set_option maxHeartbeats 4000000 in
set_option maxRecDepth 100000 in
theorem c_mp_declareArray (l : Launch) (D : va_G) (cs : Nat → ClassId) (ma0 : Nat → Nat → Int32) (ys : Int) (nf : Int) (tx : Int) (d : Nat) (lo : Int) (hi : Int) (w : Int) (h : Nat) (r : Nat → Nat) (g : Nat → Nat → Option Nat) (tf : Nat → Int32) (ta : Nat → Nat → Int32) (pf : Nat → Int32) (na : Nat → Nat → Int32) (wa : Nat → Nat → Int32) (ca : Nat → Nat → Int32) (ef : Nat → Int32) (ea : Nat → Nat → Int32) (xf : Nat → Int32) (xa : Nat → Nat → Int32) (ma : Nat → Nat → Int32) (cf : Nat → Int32) (p0 p1 : Int32)  (g0 : 0 ≤ lo) (g1 : hi ≤ (pf 13).toInt) (g2 : (pf 13).toInt ≤ 2100) (g3 : (tf 6).toInt ≤ 2049) (g4 : 0 ≤ (cf 33).toInt) (g5 : 0 ≤ w) (g6 : 6 * (cf 33).toInt + w ≤ 6540) (g7 : 0 ≤ (cf 48).toInt) (g8 : 6 * (cf 48).toInt + w ≤ 6540) (g9 : (cf 38).toInt = nf) (g10 : 0 ≤ nf) (g11 : 0 ≤ (cf 37).toInt) (g12 : 0 ≤ (cf 54).toInt) (g13 : (cf 54).toInt ≤ 4096 * (cf 48).toInt) (g14 : 0 ≤ (cf 42).toInt) (g15 : (cf 42).toInt ≤ 4 + 4096 * (cf 48).toInt) (g16 : 0 ≤ (cf 44).toInt) (g17 : 0 ≤ (cf 45).toInt) (g18 : ys ≤ (cf 48).toInt ∨ tx = 1) (g19 : 0 ≤ (cf 46).toInt) (g20 : (cf 46).toInt ≤ 1) (g21 : 0 ≤ (cf 47).toInt) (g22 : (cf 47).toInt ≤ 1) (g23 : 0 ≤ (na 17 p0.toNatClampNeg).toInt) (g24 : 0 ≤ p1.toInt) (g25 : p1.toInt ≤ 1) (htk : TkI tf ta) (hfs : FsI (tf 6).toInt (pf 13).toInt na) (hwr : WrV cf (tf 6).toInt) (hkt : KnT (tf 6).toInt ca (cf 33).toInt) (hft : FnT (tf 6).toInt na ca (cf 38).toInt) (hks : KnS ca (cf 33).toInt (cf 48).toInt ys) (hfp : FnP na ca nf) (hsr : SyR ca ys (cf 48).toInt (cf 54).toInt tx) (han : Ann na ma0 ma) (hvc : VcV ta (tf 6).toInt na ma0 d lo hi w p0) : MetI l y_Mpg_declareArray b_Mpg_declareArray 6 (.int) D cs (4 * d + 20) (200 * d + 700) (0) (0) [.ref h, .int p0, .int p1] [wdP cs h r g tf ta pf na ma wa cf ca ef ea xf xa] (oX (fun A U H => (oP A g U H)) [wdP cs h r g tf ta pf na ma wa cf ca ef ea xf xa]) (fun v ps => ∃ (ma' : Nat → Nat → Int32) (cf' : Nat → Int32), (ps = [wdP cs h r g tf ta pf na ma' wa cf' ca ef ea xf xa]) ∧ ((cf' 30).toInt = 0 → (cf 30).toInt = 0) ∧ (WrV cf' (tf 6).toInt) ∧ ((cf' 33).toInt = (cf 33).toInt) ∧ ((cf' 37).toInt = (cf 37).toInt) ∧ ((cf' 38).toInt = (cf 38).toInt) ∧ ((cf' 41).toInt = (cf 41).toInt) ∧ ((cf' 42).toInt = (cf 42).toInt) ∧ ((cf' 43).toInt = (cf 43).toInt) ∧ ((cf' 44).toInt = (cf 44).toInt) ∧ ((cf' 45).toInt = (cf 45).toInt) ∧ ((cf' 46).toInt = (cf 46).toInt) ∧ ((cf' 47).toInt = (cf 47).toInt) ∧ ((cf' 48).toInt = (cf 48).toInt) ∧ ((cf' 54).toInt = (cf 54).toInt) ∧ ((cf' 55).toInt = (cf 55).toInt) ∧ ((cf' 59).toInt = (cf 59).toInt) ∧ (Ann na ma0 ma') ∧ (FrC lo hi ma ma') ∧ (0 ≤ (cf' 58).toInt) ∧ ((cf' 58).toInt ≤ 4096) ∧ (0 ≤ v.toInt) ∧ (v.toInt ≤ 4096) ∧ ((cf' 58).toInt ≤ 4 * v.toInt) ∧ (ZAv cf' ta na ma' p0 (cf' 58).toInt) ∧ (R_mp_declareArray tf ta na ca p0 p1 ma cf ma' cf' v)) := by
  refine px_enter (by decide) (Nat.le_of_ble_eq_true rfl) ?_
  intro p e s m below meth c A ls hAe S hr hlk hnm hA hT hX hw hl
  have hl : lv_has ls 6 [(0, .ref h), (1, .int p0), (2, .int p1)] := hl
  have lp0 := Int32.le_toInt p0
  have up0 := Int32.toInt_lt p0
  have lp1 := Int32.le_toInt p1
  have up1 := Int32.toInt_lt p1
  have cstm1 : ((-1) : Int32).toInt = (-1) := rfl
  have cst0 : (0 : Int32).toInt = 0 := rfl
  have cst1 : (1 : Int32).toInt = 1 := rfl
  have cst2 : (2 : Int32).toInt = 2 := rfl
  have cst3 : (3 : Int32).toInt = 3 := rfl
  have cst4 : (4 : Int32).toInt = 4 := rfl
  have cst8 : (8 : Int32).toInt = 8 := rfl
  have cst4096 : (4096 : Int32).toInt = 4096 := rfl
  have hX : (fun A U H => (oP A g U H)) A s s.heap := by rw [hAe]; exact hX
  have hP := hX
  have hZ := hP.1
  have hF0 := hP.2.1
  have hfc : FrC lo hi ma ma := FrC.rf
  have hwr0 := hwr.1
  have hk11 := hkt.1
  have hf11 := hft.1
  have hcg : CaG ca ca (cf 33).toInt (cf 48).toInt := CaG.rf
  have hvr := VcV.rng hvc
  have hvk := VcV.kind hvc
  obtain ⟨m1, wq, hm1, hm2, hev_a, hwq, hav⟩ := VcV.v3 hvc (by omega) rfl
  obtain ⟨hec_a, h20_a, hw_a⟩ := hev_a.ec
  have hrg_a := EcV.rng hec_a
  have J73 : ∀ (n_73 : Nat) (ma_73 : Nat → Nat → Int32) (cf_73 : Nat → Int32) (mid_73 : Int) (wr_73 : Int) (x73_3 x73_4 x73_5 : Int32) (H : Heap) (locs : List Loc) (ls : Array Slot), ((cf_73 30).toInt = 0 → (cf 30).toInt = 0) → (WrV cf_73 (tf 6).toInt) → ((cf_73 33).toInt = (cf 33).toInt) → ((cf_73 37).toInt = (cf 37).toInt) → ((cf_73 38).toInt = (cf 38).toInt) → ((cf_73 41).toInt = (cf 41).toInt) → ((cf_73 42).toInt = (cf 42).toInt) → ((cf_73 43).toInt = (cf 43).toInt) → ((cf_73 44).toInt = (cf 44).toInt) → ((cf_73 45).toInt = (cf 45).toInt) → ((cf_73 46).toInt = (cf 46).toInt) → ((cf_73 47).toInt = (cf 47).toInt) → ((cf_73 48).toInt = (cf 48).toInt) → ((cf_73 54).toInt = (cf 54).toInt) → ((cf_73 55).toInt = (cf 55).toInt) → ((cf_73 59).toInt = (cf 59).toInt) → (Ann na ma0 ma_73) → (FrC lo hi ma ma_73) → (-1 ≤ x73_3.toInt) → (x73_3.toInt ≤ 4096) → (x73_3.toInt = -1 → 1 ≤ (cf_73 30).toInt) → (0 ≤ x73_4.toInt) → (x73_4.toInt + m1 ≤ mid_73) → (m1 ≤ mid_73) → (mid_73 ≤ hi) → ((ma0 22 p0.toNatClampNeg).toInt = 2) → (RvI ta (tf 6).toInt na ma0 d mid_73 hi wr_73 x73_5) → (RlC na (ma0 18 p0.toNatClampNeg) x73_5 x73_4.toInt) → (K_mp_declareArray_73 tf ta na ca p0 p1 ma cf ma_73 cf_73 x73_3 x73_4 x73_5) → hi - mid_73 < (n_73 : Int) → pw D A s.heap H locs [wdP cs h r g tf ta pf na ma_73 wa cf_73 ca ef ea xf xa] → lv_has ls 6 [(0, .ref h), (1, .int p0), (2, .int p1), (3, .int x73_3), (4, .int x73_4), (5, .int x73_5)] → W p l e { frames := (4 * d + 20), cells := 0, slots := 0, locals := (200 * d + 700) } s m [.ref h, .int p0, .int p1].toArray below meth c H locs 0 0 (MQ below (va_Qi (fun v ps => ∃ (ma' : Nat → Nat → Int32) (cf' : Nat → Int32), (ps = [wdP cs h r g tf ta pf na ma' wa cf' ca ef ea xf xa]) ∧ ((cf' 30).toInt = 0 → (cf 30).toInt = 0) ∧ (WrV cf' (tf 6).toInt) ∧ ((cf' 33).toInt = (cf 33).toInt) ∧ ((cf' 37).toInt = (cf 37).toInt) ∧ ((cf' 38).toInt = (cf 38).toInt) ∧ ((cf' 41).toInt = (cf 41).toInt) ∧ ((cf' 42).toInt = (cf 42).toInt) ∧ ((cf' 43).toInt = (cf 43).toInt) ∧ ((cf' 44).toInt = (cf 44).toInt) ∧ ((cf' 45).toInt = (cf 45).toInt) ∧ ((cf' 46).toInt = (cf 46).toInt) ∧ ((cf' 47).toInt = (cf 47).toInt) ∧ ((cf' 48).toInt = (cf 48).toInt) ∧ ((cf' 54).toInt = (cf 54).toInt) ∧ ((cf' 55).toInt = (cf 55).toInt) ∧ ((cf' 59).toInt = (cf 59).toInt) ∧ (Ann na ma0 ma') ∧ (FrC lo hi ma ma') ∧ (0 ≤ (cf' 58).toInt) ∧ ((cf' 58).toInt ≤ 4096) ∧ (0 ≤ v.toInt) ∧ (v.toInt ≤ 4096) ∧ ((cf' 58).toInt ≤ 4 * v.toInt) ∧ (ZAv cf' ta na ma' p0 (cf' 58).toInt) ∧ (R_mp_declareArray tf ta na ca p0 p1 ma cf ma' cf' v)) (pc_B D (va_A ([wdP cs h r g tf ta pf na ma wa cf ca ef ea xf xa] : List va_W).flatten s.heap.size)) (va_A ([wdP cs h r g tf ta pf na ma wa cf ca ef ea xf xa] : List va_W).flatten s.heap.size)) [.ref h, .int p0, .int p1].toArray s 0 0 A) (F0 m 73 ls []) := by
    intro  n_73
    induction n_73 with
    | zero =>
      intro ma_73 cf_73 mid_73 wr_73 x73_3 x73_4 x73_5 H locs ls k73_0 k73_1 k73_2 k73_3 k73_4 k73_5 k73_6 k73_7 k73_8 k73_9 k73_10 k73_11 k73_12 k73_13 k73_14 k73_15 k73_16 k73_17 k73_18 k73_19 k73_20 k73_21 k73_22 k73_23 k73_24 k73_25 k73_26 k73_27 k73_28 hm hw hl
      have lx73_3 := Int32.le_toInt x73_3
      have ux73_3 := Int32.toInt_lt x73_3
      have lx73_4 := Int32.le_toInt x73_4
      have ux73_4 := Int32.toInt_lt x73_4
      have lx73_5 := Int32.le_toInt x73_5
      have ux73_5 := Int32.toInt_lt x73_5
      have hwr := k73_1
      have hw0_k73_1 := hwr.1
      have han := k73_16
      have hfc := k73_17
      have hrv := k73_26
      have hrl := k73_27
      exact absurd hm (by omega)
    | succ n_73 ih73 =>
      intro ma_73 cf_73 mid_73 wr_73 x73_3 x73_4 x73_5 H locs ls k73_0 k73_1 k73_2 k73_3 k73_4 k73_5 k73_6 k73_7 k73_8 k73_9 k73_10 k73_11 k73_12 k73_13 k73_14 k73_15 k73_16 k73_17 k73_18 k73_19 k73_20 k73_21 k73_22 k73_23 k73_24 k73_25 k73_26 k73_27 k73_28 hm hw hl
      have lx73_3 := Int32.le_toInt x73_3
      have ux73_3 := Int32.toInt_lt x73_3
      have lx73_4 := Int32.le_toInt x73_4
      have ux73_4 := Int32.toInt_lt x73_4
      have lx73_5 := Int32.le_toInt x73_5
      have ux73_5 := Int32.toInt_lt x73_5
      have hwr := k73_1
      have hw0_k73_1 := hwr.1
      have han := k73_16
      have hfc := k73_17
      have hrv := k73_26
      have hrl := k73_27
      refine lv_iload S.x S.b d_Mpg_declareArray_73 (lv_at hl 5 rfl) ?_
      refine lv_if_lt (tgt := 100) S.x S.b d_Mpg_declareArray_75 (by decide) (fun c1 => ?_) (fun c1 => ?_)
      · have nc1 : x73_5.toInt < (0 : Int) := (i_lt (x := x73_5) (y := 0)).mp c1
        refine lv_iload_n S.x S.b d_Mpg_declareArray_100 rfl (lv_at hl 3 rfl) ?_
        refine lv_if_lt (tgt := 122) S.x S.b d_Mpg_declareArray_101 (by decide) (fun c3 => ?_) (fun c3 => ?_)
        · have nc3 : x73_3.toInt < (0 : Int) := (i_lt (x := x73_3) (y := 0)).mp c3
          refine lv_goto (tgt := 176) S.x S.b d_Mpg_declareArray_122 (by decide) ?_
          refine lv_aload_n S.x S.b d_Mpg_declareArray_176 rfl (lv_at hl 0 rfl) ?_
          refine lv_iload_n S.x S.b d_Mpg_declareArray_177 rfl (lv_at hl 3 rfl) ?_
          refine lv_if_ge (tgt := 185) S.x S.b d_Mpg_declareArray_178 (by decide) (fun c5 => ?_) (fun c5 => ?_)
          · have nc5 : (0 : Int) ≤ x73_3.toInt := (i_le (x := 0) (y := x73_3)).mp c5
            refine lv_iload_n S.x S.b d_Mpg_declareArray_185 rfl (lv_at hl 3 rfl) ?_
            refine px_put S k_Mpg hT hw 0 0 58 rfl rfl (by decide) m10_55 rfl rfl rfl (Nat.le_of_ble_eq_true rfl) d_Mpg_declareArray_186 (w' := wdP cs h r g tf ta pf na ma_73 wa (upd cf_73 58 x73_3) ca ef ea xf xa) (ps' := [wdP cs h r g tf ta pf na ma_73 wa (upd cf_73 58 x73_3) ca ef ea xf xa]) rfl rfl (fun H locs hw => ?_)
            refine lv_iload_n S.x S.b d_Mpg_declareArray_189 rfl (lv_at hl 2 rfl) ?_
            refine lv_if_eq (tgt := 204) S.x S.b d_Mpg_declareArray_190 (by decide) (fun c7 => ?_) (fun c7 => ?_)
            · have nc7 : p1.toInt = (0 : Int) := (i_eq (x := p1) (y := 0)).mp c7
              refine lv_aload_n S.x S.b d_Mpg_declareArray_204 rfl (lv_at hl 0 rfl) ?_
              refine px_get S k_Mpg hT hw 0 0 58 (v := .int x73_3) rfl rfl rfl (by decide) m10_55 d_Mpg_declareArray_205 ?_
              exact px_iret (v := x73_3) S hr rfl hlk hAe hw (Nat.le_of_ble_eq_true rfl) (Nat.le_of_ble_eq_true rfl) (⟨ma_73, (upd cf_73 58 x73_3), rfl, (show (cf_73 30).toInt = 0 → (cf 30).toInt = 0 from by first | exact k73_0 | omega), (show WrV (upd cf_73 58 x73_3) (tf 6).toInt from (WrV.u hwr (by decide) (by decide))), (show (cf_73 33).toInt = (cf 33).toInt from by first | exact k73_2 | omega), (show (cf_73 37).toInt = (cf 37).toInt from by first | exact k73_3 | omega), (show (cf_73 38).toInt = (cf 38).toInt from by first | exact k73_4 | omega), (show (cf_73 41).toInt = (cf 41).toInt from by first | exact k73_5 | omega), (show (cf_73 42).toInt = (cf 42).toInt from by first | exact k73_6 | omega), (show (cf_73 43).toInt = (cf 43).toInt from by first | exact k73_7 | omega), (show (cf_73 44).toInt = (cf 44).toInt from by first | exact k73_8 | omega), (show (cf_73 45).toInt = (cf 45).toInt from by first | exact k73_9 | omega), (show (cf_73 46).toInt = (cf 46).toInt from by first | exact k73_10 | omega), (show (cf_73 47).toInt = (cf 47).toInt from by first | exact k73_11 | omega), (show (cf_73 48).toInt = (cf 48).toInt from by first | exact k73_12 | omega), (show (cf_73 54).toInt = (cf 54).toInt from by first | exact k73_13 | omega), (show (cf_73 55).toInt = (cf 55).toInt from by first | exact k73_14 | omega), (show (cf_73 59).toInt = (cf 59).toInt from by first | exact k73_15 | omega), (show Ann na ma0 ma_73 from han), (show FrC lo hi ma ma_73 from hfc), (show 0 ≤ x73_3.toInt from by first | exact oz_0ffba53c78 nc5 | omega), (show x73_3.toInt ≤ 4096 from by first | exact k73_19 | omega), (show 0 ≤ x73_3.toInt from by first | exact oz_0ffba53c78 nc5 | omega), (show x73_3.toInt ≤ 4096 from by first | exact k73_19 | omega), (show x73_3.toInt ≤ 4 * x73_3.toInt from by first | exact oz_c7a66485cf nc5 | omega), (show ZAv (upd cf_73 58 x73_3) ta na ma_73 p0 x73_3.toInt from (ZAvF (by first | exact zav_2 han (by omega) (by omega) hrl (by omega) (by omega) (by omega) | exact zr_no (by omega) | exact zav_0 han (by omega) (by have hav0 := hav.k0; omega) | exact zav_2 han (by omega) (by omega) hrl (by omega) (by omega) (by omega) | exact zav_3 han (by omega) (by omega) ha_zz (by omega)))), (show R_mp_declareArray tf ta na ca p0 p1 ma cf ma_73 (upd cf_73 58 x73_3) x73_3 from (k73_28 _ _ _ 1 (Or.inr (Or.inl ⟨rfl, x73_3, x73_4, x73_5, rfl, rfl, rfl, rfl, rfl, Or.inl ⟨nc1, Or.inl ⟨nc3, Or.inl ⟨nc5, Or.inl ⟨nc7, rfl, rfl, rfl⟩⟩⟩⟩⟩))))⟩) d_Mpg_declareArray_208
            · have nc7 : ¬ p1.toInt = (0 : Int) := mt (i_eq (x := p1) (y := 0)).mpr c7
              refine lv_aload_n S.x S.b d_Mpg_declareArray_193 rfl (lv_at hl 0 rfl) ?_
              refine px_get S k_Mpg hT hw 0 0 58 (v := .int x73_3) rfl rfl rfl (by decide) m10_55 d_Mpg_declareArray_194 ?_
              refine lv_iconst (v := 3) S.x S.b d_Mpg_declareArray_197 (by decide) ?_
              refine lv_iadd S.x S.b d_Mpg_declareArray_198 ?_
              refine lv_topi (fun z9 ez9 => ?_)
              have tz9 : z9.toInt = (x73_3.toInt + (3 : Int) + 2147483648) % 4294967296 - 2147483648 := by rw [ez9]; exact i_add x73_3 3
              have lz9 := Int32.le_toInt z9
              have uz9 := Int32.toInt_lt z9
              try replace tz9 : z9.toInt = x73_3.toInt + (3 : Int) := by first | exact oz_ebe7f98d01 nc3 nc5 | omega
              refine lv_iconst (v := 4) S.x S.b d_Mpg_declareArray_199 (by decide) ?_
              refine lv_idiv S.x S.b d_Mpg_declareArray_200 (fun hz0 => by have hz1 := i_eq.mp hz0; omega) ?_
              refine lv_topi (fun z10 ez10 => ?_)
              have lz10 := Int32.le_toInt z10
              have uz10 := Int32.toInt_lt z10
              have hd4 := i_div4 ez10 (by omega)
              refine lv_goto (tgt := 208) S.x S.b d_Mpg_declareArray_201 (by decide) ?_
              exact px_iret (v := z10) S hr rfl hlk hAe hw (Nat.le_of_ble_eq_true rfl) (Nat.le_of_ble_eq_true rfl) (⟨ma_73, (upd cf_73 58 x73_3), rfl, (show (cf_73 30).toInt = 0 → (cf 30).toInt = 0 from by first | exact k73_0 | omega), (show WrV (upd cf_73 58 x73_3) (tf 6).toInt from (WrV.u hwr (by decide) (by decide))), (show (cf_73 33).toInt = (cf 33).toInt from by first | exact k73_2 | omega), (show (cf_73 37).toInt = (cf 37).toInt from by first | exact k73_3 | omega), (show (cf_73 38).toInt = (cf 38).toInt from by first | exact k73_4 | omega), (show (cf_73 41).toInt = (cf 41).toInt from by first | exact k73_5 | omega), (show (cf_73 42).toInt = (cf 42).toInt from by first | exact k73_6 | omega), (show (cf_73 43).toInt = (cf 43).toInt from by first | exact k73_7 | omega), (show (cf_73 44).toInt = (cf 44).toInt from by first | exact k73_8 | omega), (show (cf_73 45).toInt = (cf 45).toInt from by first | exact k73_9 | omega), (show (cf_73 46).toInt = (cf 46).toInt from by first | exact k73_10 | omega), (show (cf_73 47).toInt = (cf 47).toInt from by first | exact k73_11 | omega), (show (cf_73 48).toInt = (cf 48).toInt from by first | exact k73_12 | omega), (show (cf_73 54).toInt = (cf 54).toInt from by first | exact k73_13 | omega), (show (cf_73 55).toInt = (cf 55).toInt from by first | exact k73_14 | omega), (show (cf_73 59).toInt = (cf 59).toInt from by first | exact k73_15 | omega), (show Ann na ma0 ma_73 from han), (show FrC lo hi ma ma_73 from hfc), (show 0 ≤ x73_3.toInt from by first | exact oz_0ffba53c78 nc5 | omega), (show x73_3.toInt ≤ 4096 from by first | exact k73_19 | omega), (show 0 ≤ z10.toInt from by omega), (show z10.toInt ≤ 4096 from by omega), (show x73_3.toInt ≤ 4 * z10.toInt from by first | exact oz_580d794320 nc3 nc5 | omega), (show ZAv (upd cf_73 58 x73_3) ta na ma_73 p0 x73_3.toInt from (ZAvF (by first | exact zav_2 han (by omega) (by omega) hrl (by omega) (by omega) (by omega) | exact zr_no (by omega) | exact zav_0 han (by omega) (by have hav0 := hav.k0; omega) | exact zav_2 han (by omega) (by omega) hrl (by omega) (by omega) (by omega) | exact zav_3 han (by omega) (by omega) ha_zz (by omega)))), (show R_mp_declareArray tf ta na ca p0 p1 ma cf ma_73 (upd cf_73 58 x73_3) z10 from (k73_28 _ _ _ 1 (Or.inr (Or.inl ⟨rfl, x73_3, x73_4, x73_5, rfl, rfl, rfl, rfl, rfl, Or.inl ⟨nc1, Or.inl ⟨nc3, Or.inl ⟨nc5, Or.inr ⟨nc7, z9, ez9, z10, ez10, rfl, rfl, rfl⟩⟩⟩⟩⟩))))⟩) d_Mpg_declareArray_208
          · have nc5 : ¬ (0 : Int) ≤ x73_3.toInt := mt (i_le (x := 0) (y := x73_3)).mpr c5
            refine lv_iconst (v := 0) S.x S.b d_Mpg_declareArray_181 (by decide) ?_
            refine lv_goto (tgt := 186) S.x S.b d_Mpg_declareArray_182 (by decide) ?_
            refine px_put S k_Mpg hT hw 0 0 58 rfl rfl (by decide) m10_55 rfl rfl rfl (Nat.le_of_ble_eq_true rfl) d_Mpg_declareArray_186 (w' := wdP cs h r g tf ta pf na ma_73 wa (upd cf_73 58 0) ca ef ea xf xa) (ps' := [wdP cs h r g tf ta pf na ma_73 wa (upd cf_73 58 0) ca ef ea xf xa]) rfl rfl (fun H locs hw => ?_)
            refine lv_iload_n S.x S.b d_Mpg_declareArray_189 rfl (lv_at hl 2 rfl) ?_
            refine lv_if_eq (tgt := 204) S.x S.b d_Mpg_declareArray_190 (by decide) (fun c11 => ?_) (fun c11 => ?_)
            · have nc11 : p1.toInt = (0 : Int) := (i_eq (x := p1) (y := 0)).mp c11
              refine lv_aload_n S.x S.b d_Mpg_declareArray_204 rfl (lv_at hl 0 rfl) ?_
              refine px_get S k_Mpg hT hw 0 0 58 (v := .int 0) rfl rfl rfl (by decide) m10_55 d_Mpg_declareArray_205 ?_
              exact px_iret (v := 0) S hr rfl hlk hAe hw (Nat.le_of_ble_eq_true rfl) (Nat.le_of_ble_eq_true rfl) (⟨ma_73, (upd cf_73 58 0), rfl, (show (cf_73 30).toInt = 0 → (cf 30).toInt = 0 from by first | exact k73_0 | omega), (show WrV (upd cf_73 58 0) (tf 6).toInt from (WrV.u hwr (by decide) (by decide))), (show (cf_73 33).toInt = (cf 33).toInt from by first | exact k73_2 | omega), (show (cf_73 37).toInt = (cf 37).toInt from by first | exact k73_3 | omega), (show (cf_73 38).toInt = (cf 38).toInt from by first | exact k73_4 | omega), (show (cf_73 41).toInt = (cf 41).toInt from by first | exact k73_5 | omega), (show (cf_73 42).toInt = (cf 42).toInt from by first | exact k73_6 | omega), (show (cf_73 43).toInt = (cf 43).toInt from by first | exact k73_7 | omega), (show (cf_73 44).toInt = (cf 44).toInt from by first | exact k73_8 | omega), (show (cf_73 45).toInt = (cf 45).toInt from by first | exact k73_9 | omega), (show (cf_73 46).toInt = (cf 46).toInt from by first | exact k73_10 | omega), (show (cf_73 47).toInt = (cf 47).toInt from by first | exact k73_11 | omega), (show (cf_73 48).toInt = (cf 48).toInt from by first | exact k73_12 | omega), (show (cf_73 54).toInt = (cf 54).toInt from by first | exact k73_13 | omega), (show (cf_73 55).toInt = (cf 55).toInt from by first | exact k73_14 | omega), (show (cf_73 59).toInt = (cf 59).toInt from by first | exact k73_15 | omega), (show Ann na ma0 ma_73 from han), (show FrC lo hi ma ma_73 from hfc), (show 0 ≤ (0 : Int) from by first | exact oz_5a341f00aa | omega), (show (0 : Int) ≤ 4096 from by first | exact oz_37065d99f6 | omega), (show 0 ≤ (0 : Int) from by first | exact oz_5a341f00aa | omega), (show (0 : Int) ≤ 4096 from by first | exact oz_37065d99f6 | omega), (show (0 : Int) ≤ 4 * (0 : Int) from by first | exact oz_397c02ad98 | omega), (show ZAv (upd cf_73 58 0) ta na ma_73 p0 (0 : Int) from (ZAvF (by first | exact zr_no (by omega) | exact zr_no (by omega) | exact zav_0 han (by omega) (by have hav0 := hav.k0; omega) | exact zav_2 han (by omega) (by omega) hrl (by omega) (by omega) (by omega) | exact zav_3 han (by omega) (by omega) ha_zz (by omega)))), (show R_mp_declareArray tf ta na ca p0 p1 ma cf ma_73 (upd cf_73 58 0) (0 : Int32) from (k73_28 _ _ _ 1 (Or.inr (Or.inl ⟨rfl, x73_3, x73_4, x73_5, rfl, rfl, rfl, rfl, rfl, Or.inl ⟨nc1, Or.inl ⟨nc3, Or.inr ⟨nc5, Or.inl ⟨nc11, rfl, rfl, rfl⟩⟩⟩⟩⟩))))⟩) d_Mpg_declareArray_208
            · have nc11 : ¬ p1.toInt = (0 : Int) := mt (i_eq (x := p1) (y := 0)).mpr c11
              refine lv_aload_n S.x S.b d_Mpg_declareArray_193 rfl (lv_at hl 0 rfl) ?_
              refine px_get S k_Mpg hT hw 0 0 58 (v := .int 0) rfl rfl rfl (by decide) m10_55 d_Mpg_declareArray_194 ?_
              refine lv_iconst (v := 3) S.x S.b d_Mpg_declareArray_197 (by decide) ?_
              refine lv_iadd S.x S.b d_Mpg_declareArray_198 ?_
              refine lv_topi (fun z13 ez13 => ?_)
              have tz13 : z13.toInt = ((0 : Int) + (3 : Int) + 2147483648) % 4294967296 - 2147483648 := by rw [ez13]; exact i_add 0 3
              have lz13 := Int32.le_toInt z13
              have uz13 := Int32.toInt_lt z13
              try replace tz13 : z13.toInt = (0 : Int) + (3 : Int) := by omega
              refine lv_iconst (v := 4) S.x S.b d_Mpg_declareArray_199 (by decide) ?_
              refine lv_idiv S.x S.b d_Mpg_declareArray_200 (fun hz0 => by have hz1 := i_eq.mp hz0; omega) ?_
              refine lv_topi (fun z14 ez14 => ?_)
              have lz14 := Int32.le_toInt z14
              have uz14 := Int32.toInt_lt z14
              have hd4 := i_div4 ez14 (by omega)
              refine lv_goto (tgt := 208) S.x S.b d_Mpg_declareArray_201 (by decide) ?_
              exact px_iret (v := z14) S hr rfl hlk hAe hw (Nat.le_of_ble_eq_true rfl) (Nat.le_of_ble_eq_true rfl) (⟨ma_73, (upd cf_73 58 0), rfl, (show (cf_73 30).toInt = 0 → (cf 30).toInt = 0 from by first | exact k73_0 | omega), (show WrV (upd cf_73 58 0) (tf 6).toInt from (WrV.u hwr (by decide) (by decide))), (show (cf_73 33).toInt = (cf 33).toInt from by first | exact k73_2 | omega), (show (cf_73 37).toInt = (cf 37).toInt from by first | exact k73_3 | omega), (show (cf_73 38).toInt = (cf 38).toInt from by first | exact k73_4 | omega), (show (cf_73 41).toInt = (cf 41).toInt from by first | exact k73_5 | omega), (show (cf_73 42).toInt = (cf 42).toInt from by first | exact k73_6 | omega), (show (cf_73 43).toInt = (cf 43).toInt from by first | exact k73_7 | omega), (show (cf_73 44).toInt = (cf 44).toInt from by first | exact k73_8 | omega), (show (cf_73 45).toInt = (cf 45).toInt from by first | exact k73_9 | omega), (show (cf_73 46).toInt = (cf 46).toInt from by first | exact k73_10 | omega), (show (cf_73 47).toInt = (cf 47).toInt from by first | exact k73_11 | omega), (show (cf_73 48).toInt = (cf 48).toInt from by first | exact k73_12 | omega), (show (cf_73 54).toInt = (cf 54).toInt from by first | exact k73_13 | omega), (show (cf_73 55).toInt = (cf 55).toInt from by first | exact k73_14 | omega), (show (cf_73 59).toInt = (cf 59).toInt from by first | exact k73_15 | omega), (show Ann na ma0 ma_73 from han), (show FrC lo hi ma ma_73 from hfc), (show 0 ≤ (0 : Int) from by first | exact oz_5a341f00aa | omega), (show (0 : Int) ≤ 4096 from by first | exact oz_37065d99f6 | omega), (show 0 ≤ z14.toInt from by omega), (show z14.toInt ≤ 4096 from by omega), (show (0 : Int) ≤ 4 * z14.toInt from by omega), (show ZAv (upd cf_73 58 0) ta na ma_73 p0 (0 : Int) from (ZAvF (by first | exact zr_no (by omega) | exact zr_no (by omega) | exact zav_0 han (by omega) (by have hav0 := hav.k0; omega) | exact zav_2 han (by omega) (by omega) hrl (by omega) (by omega) (by omega) | exact zav_3 han (by omega) (by omega) ha_zz (by omega)))), (show R_mp_declareArray tf ta na ca p0 p1 ma cf ma_73 (upd cf_73 58 0) z14 from (k73_28 _ _ _ 1 (Or.inr (Or.inl ⟨rfl, x73_3, x73_4, x73_5, rfl, rfl, rfl, rfl, rfl, Or.inl ⟨nc1, Or.inl ⟨nc3, Or.inr ⟨nc5, Or.inr ⟨nc11, z13, ez13, z14, ez14, rfl, rfl, rfl⟩⟩⟩⟩⟩))))⟩) d_Mpg_declareArray_208
        · have nc3 : ¬ x73_3.toInt < (0 : Int) := mt (i_lt (x := x73_3) (y := 0)).mpr c3
          refine lv_iload S.x S.b d_Mpg_declareArray_104 (lv_at hl 4 rfl) ?_
          refine lv_iload_n S.x S.b d_Mpg_declareArray_106 rfl (lv_at hl 3 rfl) ?_
          refine lv_icmp_le (tgt := 122) S.x S.b d_Mpg_declareArray_107 (by decide) (fun c15 => ?_) (fun c15 => ?_)
          · have nc15 : x73_4.toInt ≤ x73_3.toInt := (i_le (x := x73_4) (y := x73_3)).mp c15
            refine lv_goto (tgt := 176) S.x S.b d_Mpg_declareArray_122 (by decide) ?_
            refine lv_aload_n S.x S.b d_Mpg_declareArray_176 rfl (lv_at hl 0 rfl) ?_
            refine lv_iload_n S.x S.b d_Mpg_declareArray_177 rfl (lv_at hl 3 rfl) ?_
            refine lv_if_ge (tgt := 185) S.x S.b d_Mpg_declareArray_178 (by decide) (fun c17 => ?_) (fun c17 => ?_)
            · have nc17 : (0 : Int) ≤ x73_3.toInt := (i_le (x := 0) (y := x73_3)).mp c17
              refine lv_iload_n S.x S.b d_Mpg_declareArray_185 rfl (lv_at hl 3 rfl) ?_
              refine px_put S k_Mpg hT hw 0 0 58 rfl rfl (by decide) m10_55 rfl rfl rfl (Nat.le_of_ble_eq_true rfl) d_Mpg_declareArray_186 (w' := wdP cs h r g tf ta pf na ma_73 wa (upd cf_73 58 x73_3) ca ef ea xf xa) (ps' := [wdP cs h r g tf ta pf na ma_73 wa (upd cf_73 58 x73_3) ca ef ea xf xa]) rfl rfl (fun H locs hw => ?_)
              refine lv_iload_n S.x S.b d_Mpg_declareArray_189 rfl (lv_at hl 2 rfl) ?_
              refine lv_if_eq (tgt := 204) S.x S.b d_Mpg_declareArray_190 (by decide) (fun c19 => ?_) (fun c19 => ?_)
              · have nc19 : p1.toInt = (0 : Int) := (i_eq (x := p1) (y := 0)).mp c19
                refine lv_aload_n S.x S.b d_Mpg_declareArray_204 rfl (lv_at hl 0 rfl) ?_
                refine px_get S k_Mpg hT hw 0 0 58 (v := .int x73_3) rfl rfl rfl (by decide) m10_55 d_Mpg_declareArray_205 ?_
                exact px_iret (v := x73_3) S hr rfl hlk hAe hw (Nat.le_of_ble_eq_true rfl) (Nat.le_of_ble_eq_true rfl) (⟨ma_73, (upd cf_73 58 x73_3), rfl, (show (cf_73 30).toInt = 0 → (cf 30).toInt = 0 from by first | exact k73_0 | omega), (show WrV (upd cf_73 58 x73_3) (tf 6).toInt from (WrV.u hwr (by decide) (by decide))), (show (cf_73 33).toInt = (cf 33).toInt from by first | exact k73_2 | omega), (show (cf_73 37).toInt = (cf 37).toInt from by first | exact k73_3 | omega), (show (cf_73 38).toInt = (cf 38).toInt from by first | exact k73_4 | omega), (show (cf_73 41).toInt = (cf 41).toInt from by first | exact k73_5 | omega), (show (cf_73 42).toInt = (cf 42).toInt from by first | exact k73_6 | omega), (show (cf_73 43).toInt = (cf 43).toInt from by first | exact k73_7 | omega), (show (cf_73 44).toInt = (cf 44).toInt from by first | exact k73_8 | omega), (show (cf_73 45).toInt = (cf 45).toInt from by first | exact k73_9 | omega), (show (cf_73 46).toInt = (cf 46).toInt from by first | exact k73_10 | omega), (show (cf_73 47).toInt = (cf 47).toInt from by first | exact k73_11 | omega), (show (cf_73 48).toInt = (cf 48).toInt from by first | exact k73_12 | omega), (show (cf_73 54).toInt = (cf 54).toInt from by first | exact k73_13 | omega), (show (cf_73 55).toInt = (cf 55).toInt from by first | exact k73_14 | omega), (show (cf_73 59).toInt = (cf 59).toInt from by first | exact k73_15 | omega), (show Ann na ma0 ma_73 from han), (show FrC lo hi ma ma_73 from hfc), (show 0 ≤ x73_3.toInt from by first | exact oz_16d7fa9f32 nc15 k73_21 | omega), (show x73_3.toInt ≤ 4096 from by first | exact k73_19 | omega), (show 0 ≤ x73_3.toInt from by first | exact oz_16d7fa9f32 nc15 k73_21 | omega), (show x73_3.toInt ≤ 4096 from by first | exact k73_19 | omega), (show x73_3.toInt ≤ 4 * x73_3.toInt from by first | exact oz_26cc6bf789 nc15 k73_21 | omega), (show ZAv (upd cf_73 58 x73_3) ta na ma_73 p0 x73_3.toInt from (ZAvF (by first | exact zav_2 han (by omega) (by omega) hrl (by omega) (by omega) (by omega) | exact zr_no (by omega) | exact zav_0 han (by omega) (by have hav0 := hav.k0; omega) | exact zav_2 han (by omega) (by omega) hrl (by omega) (by omega) (by omega) | exact zav_3 han (by omega) (by omega) ha_zz (by omega)))), (show R_mp_declareArray tf ta na ca p0 p1 ma cf ma_73 (upd cf_73 58 x73_3) x73_3 from (k73_28 _ _ _ 1 (Or.inr (Or.inl ⟨rfl, x73_3, x73_4, x73_5, rfl, rfl, rfl, rfl, rfl, Or.inl ⟨nc1, Or.inr ⟨nc3, Or.inl ⟨nc15, Or.inl ⟨nc17, Or.inl ⟨nc19, rfl, rfl, rfl⟩⟩⟩⟩⟩⟩))))⟩) d_Mpg_declareArray_208
              · have nc19 : ¬ p1.toInt = (0 : Int) := mt (i_eq (x := p1) (y := 0)).mpr c19
                refine lv_aload_n S.x S.b d_Mpg_declareArray_193 rfl (lv_at hl 0 rfl) ?_
                refine px_get S k_Mpg hT hw 0 0 58 (v := .int x73_3) rfl rfl rfl (by decide) m10_55 d_Mpg_declareArray_194 ?_
                refine lv_iconst (v := 3) S.x S.b d_Mpg_declareArray_197 (by decide) ?_
                refine lv_iadd S.x S.b d_Mpg_declareArray_198 ?_
                refine lv_topi (fun z21 ez21 => ?_)
                have tz21 : z21.toInt = (x73_3.toInt + (3 : Int) + 2147483648) % 4294967296 - 2147483648 := by rw [ez21]; exact i_add x73_3 3
                have lz21 := Int32.le_toInt z21
                have uz21 := Int32.toInt_lt z21
                try replace tz21 : z21.toInt = x73_3.toInt + (3 : Int) := by omega
                refine lv_iconst (v := 4) S.x S.b d_Mpg_declareArray_199 (by decide) ?_
                refine lv_idiv S.x S.b d_Mpg_declareArray_200 (fun hz0 => by have hz1 := i_eq.mp hz0; omega) ?_
                refine lv_topi (fun z22 ez22 => ?_)
                have lz22 := Int32.le_toInt z22
                have uz22 := Int32.toInt_lt z22
                have hd4 := i_div4 ez22 (by omega)
                refine lv_goto (tgt := 208) S.x S.b d_Mpg_declareArray_201 (by decide) ?_
                exact px_iret (v := z22) S hr rfl hlk hAe hw (Nat.le_of_ble_eq_true rfl) (Nat.le_of_ble_eq_true rfl) (⟨ma_73, (upd cf_73 58 x73_3), rfl, (show (cf_73 30).toInt = 0 → (cf 30).toInt = 0 from by first | exact k73_0 | omega), (show WrV (upd cf_73 58 x73_3) (tf 6).toInt from (WrV.u hwr (by decide) (by decide))), (show (cf_73 33).toInt = (cf 33).toInt from by first | exact k73_2 | omega), (show (cf_73 37).toInt = (cf 37).toInt from by first | exact k73_3 | omega), (show (cf_73 38).toInt = (cf 38).toInt from by first | exact k73_4 | omega), (show (cf_73 41).toInt = (cf 41).toInt from by first | exact k73_5 | omega), (show (cf_73 42).toInt = (cf 42).toInt from by first | exact k73_6 | omega), (show (cf_73 43).toInt = (cf 43).toInt from by first | exact k73_7 | omega), (show (cf_73 44).toInt = (cf 44).toInt from by first | exact k73_8 | omega), (show (cf_73 45).toInt = (cf 45).toInt from by first | exact k73_9 | omega), (show (cf_73 46).toInt = (cf 46).toInt from by first | exact k73_10 | omega), (show (cf_73 47).toInt = (cf 47).toInt from by first | exact k73_11 | omega), (show (cf_73 48).toInt = (cf 48).toInt from by first | exact k73_12 | omega), (show (cf_73 54).toInt = (cf 54).toInt from by first | exact k73_13 | omega), (show (cf_73 55).toInt = (cf 55).toInt from by first | exact k73_14 | omega), (show (cf_73 59).toInt = (cf 59).toInt from by first | exact k73_15 | omega), (show Ann na ma0 ma_73 from han), (show FrC lo hi ma ma_73 from hfc), (show 0 ≤ x73_3.toInt from by first | exact oz_16d7fa9f32 nc15 k73_21 | omega), (show x73_3.toInt ≤ 4096 from by first | exact k73_19 | omega), (show 0 ≤ z22.toInt from by omega), (show z22.toInt ≤ 4096 from by omega), (show x73_3.toInt ≤ 4 * z22.toInt from by omega), (show ZAv (upd cf_73 58 x73_3) ta na ma_73 p0 x73_3.toInt from (ZAvF (by first | exact zav_2 han (by omega) (by omega) hrl (by omega) (by omega) (by omega) | exact zr_no (by omega) | exact zav_0 han (by omega) (by have hav0 := hav.k0; omega) | exact zav_2 han (by omega) (by omega) hrl (by omega) (by omega) (by omega) | exact zav_3 han (by omega) (by omega) ha_zz (by omega)))), (show R_mp_declareArray tf ta na ca p0 p1 ma cf ma_73 (upd cf_73 58 x73_3) z22 from (k73_28 _ _ _ 1 (Or.inr (Or.inl ⟨rfl, x73_3, x73_4, x73_5, rfl, rfl, rfl, rfl, rfl, Or.inl ⟨nc1, Or.inr ⟨nc3, Or.inl ⟨nc15, Or.inl ⟨nc17, Or.inr ⟨nc19, z21, ez21, z22, ez22, rfl, rfl, rfl⟩⟩⟩⟩⟩⟩))))⟩) d_Mpg_declareArray_208
            · have nc17 : ¬ (0 : Int) ≤ x73_3.toInt := mt (i_le (x := 0) (y := x73_3)).mpr c17
              refine lv_iconst (v := 0) S.x S.b d_Mpg_declareArray_181 (by decide) ?_
              refine lv_goto (tgt := 186) S.x S.b d_Mpg_declareArray_182 (by decide) ?_
              refine px_put S k_Mpg hT hw 0 0 58 rfl rfl (by decide) m10_55 rfl rfl rfl (Nat.le_of_ble_eq_true rfl) d_Mpg_declareArray_186 (w' := wdP cs h r g tf ta pf na ma_73 wa (upd cf_73 58 0) ca ef ea xf xa) (ps' := [wdP cs h r g tf ta pf na ma_73 wa (upd cf_73 58 0) ca ef ea xf xa]) rfl rfl (fun H locs hw => ?_)
              refine lv_iload_n S.x S.b d_Mpg_declareArray_189 rfl (lv_at hl 2 rfl) ?_
              refine lv_if_eq (tgt := 204) S.x S.b d_Mpg_declareArray_190 (by decide) (fun c23 => ?_) (fun c23 => ?_)
              · have nc23 : p1.toInt = (0 : Int) := (i_eq (x := p1) (y := 0)).mp c23
                refine lv_aload_n S.x S.b d_Mpg_declareArray_204 rfl (lv_at hl 0 rfl) ?_
                refine px_get S k_Mpg hT hw 0 0 58 (v := .int 0) rfl rfl rfl (by decide) m10_55 d_Mpg_declareArray_205 ?_
                exact px_iret (v := 0) S hr rfl hlk hAe hw (Nat.le_of_ble_eq_true rfl) (Nat.le_of_ble_eq_true rfl) (⟨ma_73, (upd cf_73 58 0), rfl, (show (cf_73 30).toInt = 0 → (cf 30).toInt = 0 from by first | exact k73_0 | omega), (show WrV (upd cf_73 58 0) (tf 6).toInt from (WrV.u hwr (by decide) (by decide))), (show (cf_73 33).toInt = (cf 33).toInt from by first | exact k73_2 | omega), (show (cf_73 37).toInt = (cf 37).toInt from by first | exact k73_3 | omega), (show (cf_73 38).toInt = (cf 38).toInt from by first | exact k73_4 | omega), (show (cf_73 41).toInt = (cf 41).toInt from by first | exact k73_5 | omega), (show (cf_73 42).toInt = (cf 42).toInt from by first | exact k73_6 | omega), (show (cf_73 43).toInt = (cf 43).toInt from by first | exact k73_7 | omega), (show (cf_73 44).toInt = (cf 44).toInt from by first | exact k73_8 | omega), (show (cf_73 45).toInt = (cf 45).toInt from by first | exact k73_9 | omega), (show (cf_73 46).toInt = (cf 46).toInt from by first | exact k73_10 | omega), (show (cf_73 47).toInt = (cf 47).toInt from by first | exact k73_11 | omega), (show (cf_73 48).toInt = (cf 48).toInt from by first | exact k73_12 | omega), (show (cf_73 54).toInt = (cf 54).toInt from by first | exact k73_13 | omega), (show (cf_73 55).toInt = (cf 55).toInt from by first | exact k73_14 | omega), (show (cf_73 59).toInt = (cf 59).toInt from by first | exact k73_15 | omega), (show Ann na ma0 ma_73 from han), (show FrC lo hi ma ma_73 from hfc), (show 0 ≤ (0 : Int) from by first | exact oz_5a341f00aa | omega), (show (0 : Int) ≤ 4096 from by first | exact oz_37065d99f6 | omega), (show 0 ≤ (0 : Int) from by first | exact oz_5a341f00aa | omega), (show (0 : Int) ≤ 4096 from by first | exact oz_37065d99f6 | omega), (show (0 : Int) ≤ 4 * (0 : Int) from by first | exact oz_397c02ad98 | omega), (show ZAv (upd cf_73 58 0) ta na ma_73 p0 (0 : Int) from (ZAvF (by first | exact zr_no (by omega) | exact zr_no (by omega) | exact zav_0 han (by omega) (by have hav0 := hav.k0; omega) | exact zav_2 han (by omega) (by omega) hrl (by omega) (by omega) (by omega) | exact zav_3 han (by omega) (by omega) ha_zz (by omega)))), (show R_mp_declareArray tf ta na ca p0 p1 ma cf ma_73 (upd cf_73 58 0) (0 : Int32) from (k73_28 _ _ _ 1 (Or.inr (Or.inl ⟨rfl, x73_3, x73_4, x73_5, rfl, rfl, rfl, rfl, rfl, Or.inl ⟨nc1, Or.inr ⟨nc3, Or.inl ⟨nc15, Or.inr ⟨nc17, Or.inl ⟨nc23, rfl, rfl, rfl⟩⟩⟩⟩⟩⟩))))⟩) d_Mpg_declareArray_208
              · have nc23 : ¬ p1.toInt = (0 : Int) := mt (i_eq (x := p1) (y := 0)).mpr c23
                refine lv_aload_n S.x S.b d_Mpg_declareArray_193 rfl (lv_at hl 0 rfl) ?_
                refine px_get S k_Mpg hT hw 0 0 58 (v := .int 0) rfl rfl rfl (by decide) m10_55 d_Mpg_declareArray_194 ?_
                refine lv_iconst (v := 3) S.x S.b d_Mpg_declareArray_197 (by decide) ?_
                refine lv_iadd S.x S.b d_Mpg_declareArray_198 ?_
                refine lv_topi (fun z25 ez25 => ?_)
                have tz25 : z25.toInt = ((0 : Int) + (3 : Int) + 2147483648) % 4294967296 - 2147483648 := by rw [ez25]; exact i_add 0 3
                have lz25 := Int32.le_toInt z25
                have uz25 := Int32.toInt_lt z25
                try replace tz25 : z25.toInt = (0 : Int) + (3 : Int) := by omega
                refine lv_iconst (v := 4) S.x S.b d_Mpg_declareArray_199 (by decide) ?_
                refine lv_idiv S.x S.b d_Mpg_declareArray_200 (fun hz0 => by have hz1 := i_eq.mp hz0; omega) ?_
                refine lv_topi (fun z26 ez26 => ?_)
                have lz26 := Int32.le_toInt z26
                have uz26 := Int32.toInt_lt z26
                have hd4 := i_div4 ez26 (by omega)
                refine lv_goto (tgt := 208) S.x S.b d_Mpg_declareArray_201 (by decide) ?_
                exact px_iret (v := z26) S hr rfl hlk hAe hw (Nat.le_of_ble_eq_true rfl) (Nat.le_of_ble_eq_true rfl) (⟨ma_73, (upd cf_73 58 0), rfl, (show (cf_73 30).toInt = 0 → (cf 30).toInt = 0 from by first | exact k73_0 | omega), (show WrV (upd cf_73 58 0) (tf 6).toInt from (WrV.u hwr (by decide) (by decide))), (show (cf_73 33).toInt = (cf 33).toInt from by first | exact k73_2 | omega), (show (cf_73 37).toInt = (cf 37).toInt from by first | exact k73_3 | omega), (show (cf_73 38).toInt = (cf 38).toInt from by first | exact k73_4 | omega), (show (cf_73 41).toInt = (cf 41).toInt from by first | exact k73_5 | omega), (show (cf_73 42).toInt = (cf 42).toInt from by first | exact k73_6 | omega), (show (cf_73 43).toInt = (cf 43).toInt from by first | exact k73_7 | omega), (show (cf_73 44).toInt = (cf 44).toInt from by first | exact k73_8 | omega), (show (cf_73 45).toInt = (cf 45).toInt from by first | exact k73_9 | omega), (show (cf_73 46).toInt = (cf 46).toInt from by first | exact k73_10 | omega), (show (cf_73 47).toInt = (cf 47).toInt from by first | exact k73_11 | omega), (show (cf_73 48).toInt = (cf 48).toInt from by first | exact k73_12 | omega), (show (cf_73 54).toInt = (cf 54).toInt from by first | exact k73_13 | omega), (show (cf_73 55).toInt = (cf 55).toInt from by first | exact k73_14 | omega), (show (cf_73 59).toInt = (cf 59).toInt from by first | exact k73_15 | omega), (show Ann na ma0 ma_73 from han), (show FrC lo hi ma ma_73 from hfc), (show 0 ≤ (0 : Int) from by first | exact oz_5a341f00aa | omega), (show (0 : Int) ≤ 4096 from by first | exact oz_37065d99f6 | omega), (show 0 ≤ z26.toInt from by omega), (show z26.toInt ≤ 4096 from by omega), (show (0 : Int) ≤ 4 * z26.toInt from by omega), (show ZAv (upd cf_73 58 0) ta na ma_73 p0 (0 : Int) from (ZAvF (by first | exact zr_no (by omega) | exact zr_no (by omega) | exact zav_0 han (by omega) (by have hav0 := hav.k0; omega) | exact zav_2 han (by omega) (by omega) hrl (by omega) (by omega) (by omega) | exact zav_3 han (by omega) (by omega) ha_zz (by omega)))), (show R_mp_declareArray tf ta na ca p0 p1 ma cf ma_73 (upd cf_73 58 0) z26 from (k73_28 _ _ _ 1 (Or.inr (Or.inl ⟨rfl, x73_3, x73_4, x73_5, rfl, rfl, rfl, rfl, rfl, Or.inl ⟨nc1, Or.inr ⟨nc3, Or.inl ⟨nc15, Or.inr ⟨nc17, Or.inr ⟨nc23, z25, ez25, z26, ez26, rfl, rfl, rfl⟩⟩⟩⟩⟩⟩))))⟩) d_Mpg_declareArray_208
          · have nc15 : ¬ x73_4.toInt ≤ x73_3.toInt := mt (i_le (x := x73_4) (y := x73_3)).mpr c15
            refine lv_aload_n S.x S.b d_Mpg_declareArray_110 rfl (lv_at hl 0 rfl) ?_
            refine lv_bipush (v := 8) S.x S.b d_Mpg_declareArray_111 (by decide) ?_
            refine lv_aload_n S.x S.b d_Mpg_declareArray_113 rfl (lv_at hl 0 rfl) ?_
            refine px_get S k_Mpg hT hw 0 0 19 (v := .ref (r 19)) rfl rfl rfl (by decide) m10_5 d_Mpg_declareArray_114 ?_
            refine lv_iload_n S.x S.b d_Mpg_declareArray_117 rfl (lv_at hl 1 rfl) ?_
            refine px_iald S hT hw 0 15 (n := 2100) (f := (ma_73 19)) rfl gp_19 (x := p0) (vp_in_iff.mpr (by first | exact oz_06ab0f2373 hvr.2.2.1 hm1 g1 k73_22 k73_24 g2 nc15 nc3 | (constructor <;> omega))) d_Mpg_declareArray_118 ?_
            refine lv_topi (fun z27 ez27 => ?_)
            have lz27 := Int32.le_toInt z27
            have uz27 := Int32.toInt_lt z27
            have ha_z27 : z27 = ma0 19 p0.toNatClampNeg := ez27.trans (Ann.v19 han (by omega)); have hn_z27 : z27.toInt = (ma0 19 p0.toNatClampNeg).toInt := (by rw [ha_z27]); have hk2 := hav.k2 (by omega); have hk2b := hk2.2
            refine px_callv (pr := []) (px_runV (As := [.int 8, .int z27]) (rest := []) S (c_mp_bad l D cs h r g tf ta pf na ma_73 wa ca ef ea xf xa cf_73 8 z27  (show 1 ≤ (8 : Int) from by first | exact oz_fe427bacb1 | omega) (show 0 ≤ z27.toInt from by first | exact oz_f3ebed1ad0 hn_z27 hk2.2.1 | omega) (show z27.toInt < (tf 6).toInt from by first | exact oz_03643ffaec hn_z27 hk2.2.2 | omega) htk hwr _) hT (pr := []) (pcs := [wdP cs h r g tf ta pf na ma_73 wa cf_73 ca ef ea xf xa]) hw px_X.tt (px_recv hT hw 0 0 rfl rfl rfl) m12_173 m12_170 m12_172 ms_11_12 m1_21 q_Mpg_bad ⟨show 0 + 1 ≤ (4 * d + 20) from (by first | exact oz_8385159a22 | omega), show 8 + (3 + 11) + 0 ≤ (200 * d + 700) from (by first | exact oz_a3cd9048d3 | omega)⟩ hl.1 rfl (Nat.le_of_ble_eq_true rfl) d_Mpg_declareArray_119 ⟨Nat.le_of_ble_eq_true rfl, Nat.le_of_ble_eq_true rfl⟩) hw hA (fun p30 H locs hp30 hw => ?_)
            obtain ⟨cf29, rfl, e32, e33, e34, e35, e36, e37, e38, e39, e40, e41, e42, e43, e44, e45, e46, e47, e48, e49, e50, e51⟩ := hp30
            have e32 : KpE cf_73 cf29 := e32
            have hkz_e32 := e32.2
            have e33 : WrV cf29 (tf 6).toInt := e33
            have hwr := e33
            have hw0_e33 := hwr.1
            have e34 : 1 ≤ (cf29 30).toInt := e34
            have e35 : (cf29 33).toInt = (cf_73 33).toInt := e35
            have e36 : (cf29 38).toInt = (cf_73 38).toInt := e36
            have e37 : (cf29 48).toInt = (cf_73 48).toInt := e37
            have e38 : (cf29 46).toInt = (cf_73 46).toInt := e38
            have e39 : (cf29 47).toInt = (cf_73 47).toInt := e39
            have e40 : (cf29 57).toInt = (cf_73 57).toInt := e40
            have e41 : (cf29 37).toInt = (cf_73 37).toInt := e41
            have e42 : (cf29 42).toInt = (cf_73 42).toInt := e42
            have e43 : (cf29 43).toInt = (cf_73 43).toInt := e43
            have e44 : (cf29 44).toInt = (cf_73 44).toInt := e44
            have e45 : (cf29 45).toInt = (cf_73 45).toInt := e45
            have e46 : (cf29 54).toInt = (cf_73 54).toInt := e46
            have e47 : (cf29 55).toInt = (cf_73 55).toInt := e47
            have e48 : (cf29 58).toInt = (cf_73 58).toInt := e48
            have e49 : (cf29 59).toInt = (cf_73 59).toInt := e49
            have e50 : (cf29 41).toInt = (cf_73 41).toInt := e50
            have e51 : R_mp_bad (8 : Int32) z27 cf_73 cf29 := e51
            have hw : pw D A s.heap H locs [wdP cs h r g tf ta pf na ma_73 wa cf29 ca ef ea xf xa] := hw
            refine lv_goto (tgt := 176) S.x S.b d_Mpg_declareArray_122 (by decide) ?_
            refine lv_aload_n S.x S.b d_Mpg_declareArray_176 rfl (lv_at hl 0 rfl) ?_
            refine lv_iload_n S.x S.b d_Mpg_declareArray_177 rfl (lv_at hl 3 rfl) ?_
            refine lv_if_ge (tgt := 185) S.x S.b d_Mpg_declareArray_178 (by decide) (fun c52 => ?_) (fun c52 => ?_)
            · have nc52 : (0 : Int) ≤ x73_3.toInt := (i_le (x := 0) (y := x73_3)).mp c52
              refine lv_iload_n S.x S.b d_Mpg_declareArray_185 rfl (lv_at hl 3 rfl) ?_
              refine px_put S k_Mpg hT hw 0 0 58 rfl rfl (by decide) m10_55 rfl rfl rfl (Nat.le_of_ble_eq_true rfl) d_Mpg_declareArray_186 (w' := wdP cs h r g tf ta pf na ma_73 wa (upd cf29 58 x73_3) ca ef ea xf xa) (ps' := [wdP cs h r g tf ta pf na ma_73 wa (upd cf29 58 x73_3) ca ef ea xf xa]) rfl rfl (fun H locs hw => ?_)
              refine lv_iload_n S.x S.b d_Mpg_declareArray_189 rfl (lv_at hl 2 rfl) ?_
              refine lv_if_eq (tgt := 204) S.x S.b d_Mpg_declareArray_190 (by decide) (fun c54 => ?_) (fun c54 => ?_)
              · have nc54 : p1.toInt = (0 : Int) := (i_eq (x := p1) (y := 0)).mp c54
                refine lv_aload_n S.x S.b d_Mpg_declareArray_204 rfl (lv_at hl 0 rfl) ?_
                refine px_get S k_Mpg hT hw 0 0 58 (v := .int x73_3) rfl rfl rfl (by decide) m10_55 d_Mpg_declareArray_205 ?_
                exact px_iret (v := x73_3) S hr rfl hlk hAe hw (Nat.le_of_ble_eq_true rfl) (Nat.le_of_ble_eq_true rfl) (⟨ma_73, (upd cf29 58 x73_3), rfl, (show (cf29 30).toInt = 0 → (cf 30).toInt = 0 from by omega), (show WrV (upd cf29 58 x73_3) (tf 6).toInt from (WrV.u hwr (by decide) (by decide))), (show (cf29 33).toInt = (cf 33).toInt from by first | exact oz_1687f4cc65 k73_2 e35 | omega), (show (cf29 37).toInt = (cf 37).toInt from by first | exact oz_1687f4cc65 k73_3 e41 | omega), (show (cf29 38).toInt = (cf 38).toInt from by first | exact oz_1687f4cc65 k73_4 e36 | omega), (show (cf29 41).toInt = (cf 41).toInt from by first | exact oz_1687f4cc65 k73_5 e50 | omega), (show (cf29 42).toInt = (cf 42).toInt from by first | exact oz_1687f4cc65 k73_6 e42 | omega), (show (cf29 43).toInt = (cf 43).toInt from by first | exact oz_1687f4cc65 k73_7 e43 | omega), (show (cf29 44).toInt = (cf 44).toInt from by first | exact oz_1687f4cc65 k73_8 e44 | omega), (show (cf29 45).toInt = (cf 45).toInt from by first | exact oz_1687f4cc65 k73_9 e45 | omega), (show (cf29 46).toInt = (cf 46).toInt from by first | exact oz_1687f4cc65 k73_10 e38 | omega), (show (cf29 47).toInt = (cf 47).toInt from by first | exact oz_1687f4cc65 k73_11 e39 | omega), (show (cf29 48).toInt = (cf 48).toInt from by first | exact oz_1687f4cc65 k73_12 e37 | omega), (show (cf29 54).toInt = (cf 54).toInt from by first | exact oz_1687f4cc65 k73_13 e46 | omega), (show (cf29 55).toInt = (cf 55).toInt from by first | exact oz_1687f4cc65 k73_14 e47 | omega), (show (cf29 59).toInt = (cf 59).toInt from by first | exact oz_1687f4cc65 k73_15 e49 | omega), (show Ann na ma0 ma_73 from han), (show FrC lo hi ma ma_73 from hfc), (show 0 ≤ x73_3.toInt from by first | exact oz_18a5c06a28 nc3 | omega), (show x73_3.toInt ≤ 4096 from by first | exact k73_19 | omega), (show 0 ≤ x73_3.toInt from by first | exact oz_18a5c06a28 nc3 | omega), (show x73_3.toInt ≤ 4096 from by first | exact k73_19 | omega), (show x73_3.toInt ≤ 4 * x73_3.toInt from by first | exact oz_f1bd93de6e nc3 | omega), (show ZAv (upd cf29 58 x73_3) ta na ma_73 p0 x73_3.toInt from (zr_no (by first | omega | (show 1 ≤ _; rw [pk_un (by decide)]; omega)))), (show R_mp_declareArray tf ta na ca p0 p1 ma cf ma_73 (upd cf29 58 x73_3) x73_3 from (k73_28 _ _ _ 1 (Or.inr (Or.inl ⟨rfl, x73_3, x73_4, x73_5, rfl, rfl, rfl, rfl, rfl, Or.inl ⟨nc1, Or.inr ⟨nc3, Or.inr ⟨nc15, z27, ez27, cf29, e51, Or.inl ⟨nc52, Or.inl ⟨nc54, rfl, rfl, rfl⟩⟩⟩⟩⟩⟩))))⟩) d_Mpg_declareArray_208
              · have nc54 : ¬ p1.toInt = (0 : Int) := mt (i_eq (x := p1) (y := 0)).mpr c54
                refine lv_aload_n S.x S.b d_Mpg_declareArray_193 rfl (lv_at hl 0 rfl) ?_
                refine px_get S k_Mpg hT hw 0 0 58 (v := .int x73_3) rfl rfl rfl (by decide) m10_55 d_Mpg_declareArray_194 ?_
                refine lv_iconst (v := 3) S.x S.b d_Mpg_declareArray_197 (by decide) ?_
                refine lv_iadd S.x S.b d_Mpg_declareArray_198 ?_
                refine lv_topi (fun z56 ez56 => ?_)
                have tz56 : z56.toInt = (x73_3.toInt + (3 : Int) + 2147483648) % 4294967296 - 2147483648 := by rw [ez56]; exact i_add x73_3 3
                have lz56 := Int32.le_toInt z56
                have uz56 := Int32.toInt_lt z56
                try replace tz56 : z56.toInt = x73_3.toInt + (3 : Int) := by omega
                refine lv_iconst (v := 4) S.x S.b d_Mpg_declareArray_199 (by decide) ?_
                refine lv_idiv S.x S.b d_Mpg_declareArray_200 (fun hz0 => by have hz1 := i_eq.mp hz0; omega) ?_
                refine lv_topi (fun z57 ez57 => ?_)
                have lz57 := Int32.le_toInt z57
                have uz57 := Int32.toInt_lt z57
                have hd4 := i_div4 ez57 (by omega)
                refine lv_goto (tgt := 208) S.x S.b d_Mpg_declareArray_201 (by decide) ?_
                exact px_iret (v := z57) S hr rfl hlk hAe hw (Nat.le_of_ble_eq_true rfl) (Nat.le_of_ble_eq_true rfl) (⟨ma_73, (upd cf29 58 x73_3), rfl, (show (cf29 30).toInt = 0 → (cf 30).toInt = 0 from by omega), (show WrV (upd cf29 58 x73_3) (tf 6).toInt from (WrV.u hwr (by decide) (by decide))), (show (cf29 33).toInt = (cf 33).toInt from by first | exact oz_1687f4cc65 k73_2 e35 | omega), (show (cf29 37).toInt = (cf 37).toInt from by first | exact oz_1687f4cc65 k73_3 e41 | omega), (show (cf29 38).toInt = (cf 38).toInt from by first | exact oz_1687f4cc65 k73_4 e36 | omega), (show (cf29 41).toInt = (cf 41).toInt from by first | exact oz_1687f4cc65 k73_5 e50 | omega), (show (cf29 42).toInt = (cf 42).toInt from by first | exact oz_1687f4cc65 k73_6 e42 | omega), (show (cf29 43).toInt = (cf 43).toInt from by first | exact oz_1687f4cc65 k73_7 e43 | omega), (show (cf29 44).toInt = (cf 44).toInt from by first | exact oz_1687f4cc65 k73_8 e44 | omega), (show (cf29 45).toInt = (cf 45).toInt from by first | exact oz_1687f4cc65 k73_9 e45 | omega), (show (cf29 46).toInt = (cf 46).toInt from by first | exact oz_1687f4cc65 k73_10 e38 | omega), (show (cf29 47).toInt = (cf 47).toInt from by first | exact oz_1687f4cc65 k73_11 e39 | omega), (show (cf29 48).toInt = (cf 48).toInt from by first | exact oz_1687f4cc65 k73_12 e37 | omega), (show (cf29 54).toInt = (cf 54).toInt from by first | exact oz_1687f4cc65 k73_13 e46 | omega), (show (cf29 55).toInt = (cf 55).toInt from by first | exact oz_1687f4cc65 k73_14 e47 | omega), (show (cf29 59).toInt = (cf 59).toInt from by first | exact oz_1687f4cc65 k73_15 e49 | omega), (show Ann na ma0 ma_73 from han), (show FrC lo hi ma ma_73 from hfc), (show 0 ≤ x73_3.toInt from by first | exact oz_18a5c06a28 nc3 | omega), (show x73_3.toInt ≤ 4096 from by first | exact k73_19 | omega), (show 0 ≤ z57.toInt from by omega), (show z57.toInt ≤ 4096 from by omega), (show x73_3.toInt ≤ 4 * z57.toInt from by omega), (show ZAv (upd cf29 58 x73_3) ta na ma_73 p0 x73_3.toInt from (zr_no (by first | omega | (show 1 ≤ _; rw [pk_un (by decide)]; omega)))), (show R_mp_declareArray tf ta na ca p0 p1 ma cf ma_73 (upd cf29 58 x73_3) z57 from (k73_28 _ _ _ 1 (Or.inr (Or.inl ⟨rfl, x73_3, x73_4, x73_5, rfl, rfl, rfl, rfl, rfl, Or.inl ⟨nc1, Or.inr ⟨nc3, Or.inr ⟨nc15, z27, ez27, cf29, e51, Or.inl ⟨nc52, Or.inr ⟨nc54, z56, ez56, z57, ez57, rfl, rfl, rfl⟩⟩⟩⟩⟩⟩))))⟩) d_Mpg_declareArray_208
            · have nc52 : ¬ (0 : Int) ≤ x73_3.toInt := mt (i_le (x := 0) (y := x73_3)).mpr c52
              refine lv_iconst (v := 0) S.x S.b d_Mpg_declareArray_181 (by decide) ?_
              refine lv_goto (tgt := 186) S.x S.b d_Mpg_declareArray_182 (by decide) ?_
              refine px_put S k_Mpg hT hw 0 0 58 rfl rfl (by decide) m10_55 rfl rfl rfl (Nat.le_of_ble_eq_true rfl) d_Mpg_declareArray_186 (w' := wdP cs h r g tf ta pf na ma_73 wa (upd cf29 58 0) ca ef ea xf xa) (ps' := [wdP cs h r g tf ta pf na ma_73 wa (upd cf29 58 0) ca ef ea xf xa]) rfl rfl (fun H locs hw => ?_)
              refine lv_iload_n S.x S.b d_Mpg_declareArray_189 rfl (lv_at hl 2 rfl) ?_
              refine lv_if_eq (tgt := 204) S.x S.b d_Mpg_declareArray_190 (by decide) (fun c58 => ?_) (fun c58 => ?_)
              · have nc58 : p1.toInt = (0 : Int) := (i_eq (x := p1) (y := 0)).mp c58
                refine lv_aload_n S.x S.b d_Mpg_declareArray_204 rfl (lv_at hl 0 rfl) ?_
                refine px_get S k_Mpg hT hw 0 0 58 (v := .int 0) rfl rfl rfl (by decide) m10_55 d_Mpg_declareArray_205 ?_
                exact px_iret (v := 0) S hr rfl hlk hAe hw (Nat.le_of_ble_eq_true rfl) (Nat.le_of_ble_eq_true rfl) (⟨ma_73, (upd cf29 58 0), rfl, (show (cf29 30).toInt = 0 → (cf 30).toInt = 0 from by omega), (show WrV (upd cf29 58 0) (tf 6).toInt from (WrV.u hwr (by decide) (by decide))), (show (cf29 33).toInt = (cf 33).toInt from by first | exact oz_1687f4cc65 k73_2 e35 | omega), (show (cf29 37).toInt = (cf 37).toInt from by first | exact oz_1687f4cc65 k73_3 e41 | omega), (show (cf29 38).toInt = (cf 38).toInt from by first | exact oz_1687f4cc65 k73_4 e36 | omega), (show (cf29 41).toInt = (cf 41).toInt from by first | exact oz_1687f4cc65 k73_5 e50 | omega), (show (cf29 42).toInt = (cf 42).toInt from by first | exact oz_1687f4cc65 k73_6 e42 | omega), (show (cf29 43).toInt = (cf 43).toInt from by first | exact oz_1687f4cc65 k73_7 e43 | omega), (show (cf29 44).toInt = (cf 44).toInt from by first | exact oz_1687f4cc65 k73_8 e44 | omega), (show (cf29 45).toInt = (cf 45).toInt from by first | exact oz_1687f4cc65 k73_9 e45 | omega), (show (cf29 46).toInt = (cf 46).toInt from by first | exact oz_1687f4cc65 k73_10 e38 | omega), (show (cf29 47).toInt = (cf 47).toInt from by first | exact oz_1687f4cc65 k73_11 e39 | omega), (show (cf29 48).toInt = (cf 48).toInt from by first | exact oz_1687f4cc65 k73_12 e37 | omega), (show (cf29 54).toInt = (cf 54).toInt from by first | exact oz_1687f4cc65 k73_13 e46 | omega), (show (cf29 55).toInt = (cf 55).toInt from by first | exact oz_1687f4cc65 k73_14 e47 | omega), (show (cf29 59).toInt = (cf 59).toInt from by first | exact oz_1687f4cc65 k73_15 e49 | omega), (show Ann na ma0 ma_73 from han), (show FrC lo hi ma ma_73 from hfc), (show 0 ≤ (0 : Int) from by first | exact oz_5a341f00aa | omega), (show (0 : Int) ≤ 4096 from by first | exact oz_37065d99f6 | omega), (show 0 ≤ (0 : Int) from by first | exact oz_5a341f00aa | omega), (show (0 : Int) ≤ 4096 from by first | exact oz_37065d99f6 | omega), (show (0 : Int) ≤ 4 * (0 : Int) from by first | exact oz_397c02ad98 | omega), (show ZAv (upd cf29 58 0) ta na ma_73 p0 (0 : Int) from (zr_no (by first | omega | (show 1 ≤ _; rw [pk_un (by decide)]; omega)))), (show R_mp_declareArray tf ta na ca p0 p1 ma cf ma_73 (upd cf29 58 0) (0 : Int32) from (k73_28 _ _ _ 1 (Or.inr (Or.inl ⟨rfl, x73_3, x73_4, x73_5, rfl, rfl, rfl, rfl, rfl, Or.inl ⟨nc1, Or.inr ⟨nc3, Or.inr ⟨nc15, z27, ez27, cf29, e51, Or.inr ⟨nc52, Or.inl ⟨nc58, rfl, rfl, rfl⟩⟩⟩⟩⟩⟩))))⟩) d_Mpg_declareArray_208
              · have nc58 : ¬ p1.toInt = (0 : Int) := mt (i_eq (x := p1) (y := 0)).mpr c58
                refine lv_aload_n S.x S.b d_Mpg_declareArray_193 rfl (lv_at hl 0 rfl) ?_
                refine px_get S k_Mpg hT hw 0 0 58 (v := .int 0) rfl rfl rfl (by decide) m10_55 d_Mpg_declareArray_194 ?_
                refine lv_iconst (v := 3) S.x S.b d_Mpg_declareArray_197 (by decide) ?_
                refine lv_iadd S.x S.b d_Mpg_declareArray_198 ?_
                refine lv_topi (fun z60 ez60 => ?_)
                have tz60 : z60.toInt = ((0 : Int) + (3 : Int) + 2147483648) % 4294967296 - 2147483648 := by rw [ez60]; exact i_add 0 3
                have lz60 := Int32.le_toInt z60
                have uz60 := Int32.toInt_lt z60
                try replace tz60 : z60.toInt = (0 : Int) + (3 : Int) := by omega
                refine lv_iconst (v := 4) S.x S.b d_Mpg_declareArray_199 (by decide) ?_
                refine lv_idiv S.x S.b d_Mpg_declareArray_200 (fun hz0 => by have hz1 := i_eq.mp hz0; omega) ?_
                refine lv_topi (fun z61 ez61 => ?_)
                have lz61 := Int32.le_toInt z61
                have uz61 := Int32.toInt_lt z61
                have hd4 := i_div4 ez61 (by omega)
                refine lv_goto (tgt := 208) S.x S.b d_Mpg_declareArray_201 (by decide) ?_
                exact px_iret (v := z61) S hr rfl hlk hAe hw (Nat.le_of_ble_eq_true rfl) (Nat.le_of_ble_eq_true rfl) (⟨ma_73, (upd cf29 58 0), rfl, (show (cf29 30).toInt = 0 → (cf 30).toInt = 0 from by omega), (show WrV (upd cf29 58 0) (tf 6).toInt from (WrV.u hwr (by decide) (by decide))), (show (cf29 33).toInt = (cf 33).toInt from by first | exact oz_1687f4cc65 k73_2 e35 | omega), (show (cf29 37).toInt = (cf 37).toInt from by first | exact oz_1687f4cc65 k73_3 e41 | omega), (show (cf29 38).toInt = (cf 38).toInt from by first | exact oz_1687f4cc65 k73_4 e36 | omega), (show (cf29 41).toInt = (cf 41).toInt from by first | exact oz_1687f4cc65 k73_5 e50 | omega), (show (cf29 42).toInt = (cf 42).toInt from by first | exact oz_1687f4cc65 k73_6 e42 | omega), (show (cf29 43).toInt = (cf 43).toInt from by first | exact oz_1687f4cc65 k73_7 e43 | omega), (show (cf29 44).toInt = (cf 44).toInt from by first | exact oz_1687f4cc65 k73_8 e44 | omega), (show (cf29 45).toInt = (cf 45).toInt from by first | exact oz_1687f4cc65 k73_9 e45 | omega), (show (cf29 46).toInt = (cf 46).toInt from by first | exact oz_1687f4cc65 k73_10 e38 | omega), (show (cf29 47).toInt = (cf 47).toInt from by first | exact oz_1687f4cc65 k73_11 e39 | omega), (show (cf29 48).toInt = (cf 48).toInt from by first | exact oz_1687f4cc65 k73_12 e37 | omega), (show (cf29 54).toInt = (cf 54).toInt from by first | exact oz_1687f4cc65 k73_13 e46 | omega), (show (cf29 55).toInt = (cf 55).toInt from by first | exact oz_1687f4cc65 k73_14 e47 | omega), (show (cf29 59).toInt = (cf 59).toInt from by first | exact oz_1687f4cc65 k73_15 e49 | omega), (show Ann na ma0 ma_73 from han), (show FrC lo hi ma ma_73 from hfc), (show 0 ≤ (0 : Int) from by first | exact oz_5a341f00aa | omega), (show (0 : Int) ≤ 4096 from by first | exact oz_37065d99f6 | omega), (show 0 ≤ z61.toInt from by omega), (show z61.toInt ≤ 4096 from by omega), (show (0 : Int) ≤ 4 * z61.toInt from by omega), (show ZAv (upd cf29 58 0) ta na ma_73 p0 (0 : Int) from (zr_no (by first | omega | (show 1 ≤ _; rw [pk_un (by decide)]; omega)))), (show R_mp_declareArray tf ta na ca p0 p1 ma cf ma_73 (upd cf29 58 0) z61 from (k73_28 _ _ _ 1 (Or.inr (Or.inl ⟨rfl, x73_3, x73_4, x73_5, rfl, rfl, rfl, rfl, rfl, Or.inl ⟨nc1, Or.inr ⟨nc3, Or.inr ⟨nc15, z27, ez27, cf29, e51, Or.inr ⟨nc52, Or.inr ⟨nc58, z60, ez60, z61, ez61, rfl, rfl, rfl⟩⟩⟩⟩⟩⟩))))⟩) d_Mpg_declareArray_208
      · have nc1 : ¬ x73_5.toInt < (0 : Int) := mt (i_lt (x := x73_5) (y := 0)).mpr c1
        refine lv_aload_n S.x S.b d_Mpg_declareArray_78 rfl (lv_at hl 0 rfl) ?_
        obtain ⟨md62, wv63, hm1_md62, hm2_md62, hm3_md62, hev_x73_5, hx3_md62, hrv2⟩ := RvE.step hrv (by omega); obtain ⟨hec_x73_5, h20_x73_5, hw_x73_5⟩ := hev_x73_5.ec
        refine lv_iload S.x S.b d_Mpg_declareArray_79 (lv_at hl 5 rfl) ?_
        refine px_calli (pr := []) (px_runV (As := [.int x73_5]) (rest := []) S (c_mp_checkConstant l D cs ma0 ys (cf_73 48).toInt nf (cf_73 33).toInt d mid_73 md62 h r g tf ta pf na wa ca ef ea xf xa ma_73 cf_73 x73_5  (show 0 ≤ mid_73 from by first | exact oz_8df2b9da5a k73_23 hm1 hvr.2.2.1 | omega) (show md62 ≤ (pf 13).toInt from by first | exact oz_bbb5b20c1a g1 hm2_md62 | omega) (show (pf 13).toInt ≤ 2100 from by first | exact g2 | omega) (show (tf 6).toInt ≤ 2049 from by first | exact g3 | omega) (show (cf_73 33).toInt = (cf_73 33).toInt from rfl) (show 0 ≤ (cf_73 33).toInt from by first | exact oz_f3ebed1ad0 k73_2 g4 | omega) (show (cf_73 48).toInt = (cf_73 48).toInt from rfl) (show (cf_73 38).toInt = nf from by first | exact oz_1687f4cc65 g9 k73_4 | omega) (show 0 ≤ nf from by first | exact g10 | omega) (show 0 ≤ (cf_73 46).toInt from by first | exact oz_f3ebed1ad0 k73_10 g19 | omega) (show (cf_73 46).toInt ≤ 1 from by first | exact oz_878017becc k73_10 g20 | omega) (show 0 ≤ (cf_73 47).toInt from by first | exact oz_f3ebed1ad0 k73_11 g21 | omega) (show (cf_73 47).toInt ≤ 1 from by first | exact oz_878017becc k73_11 g22 | omega) htk (FsI.le (N' := (pf 13).toInt) hfs (by omega)) hwr (KnT.eq hkt (by omega)) (FnT.eq hft (by omega)) (KnS.eq hks (by omega) (by omega)) hfp han hec_x73_5 (by first | assumption | omega) _) hT (pr := []) (pcs := [wdP cs h r g tf ta pf na ma_73 wa cf_73 ca ef ea xf xa]) hw (oX_call (P := (fun A U H => (oP A g U H))) (pr := []) oG_P hw hA hP) (px_recv hT hw 0 0 rfl rfl rfl) m12_237 m12_234 m12_236 ms_12_12 m1_21 q_Mpg_checkConstant ⟨show (4 * d + 18) + 1 ≤ (4 * d + 20) from (by first | exact oz_806aa97e85 | omega), show 8 + (5 + 11) + (200 * d + 640) ≤ (200 * d + 700) from (by first | exact oz_38cf6322af | omega)⟩ hl.1 rfl (Nat.le_of_ble_eq_true rfl) d_Mpg_declareArray_81 ⟨Nat.le_of_ble_eq_true rfl, Nat.le_of_ble_eq_true rfl⟩) hw hA (fun v69 p68 H locs hp68 hw => ?_)
        obtain ⟨ma66, cf67, rfl, e70, e71, e72, e73, e74, e75, e76, e77, e78, e79, e80, e81⟩ := hp68
        have e70 : KpE cf_73 cf67 := e70
        have hkz_e70 := e70.2
        have hkk37_e70 : (cf67 37).toInt = (cf_73 37).toInt := (by rw [e70.1 37 (by decide) (by decide) (by decide) (by decide) (by decide)] <;> rfl)
        have hkk43_e70 : (cf67 43).toInt = (cf_73 43).toInt := (by rw [e70.1 43 (by decide) (by decide) (by decide) (by decide) (by decide)] <;> rfl)
        have hkk44_e70 : (cf67 44).toInt = (cf_73 44).toInt := (by rw [e70.1 44 (by decide) (by decide) (by decide) (by decide) (by decide)] <;> rfl)
        have hkk45_e70 : (cf67 45).toInt = (cf_73 45).toInt := (by rw [e70.1 45 (by decide) (by decide) (by decide) (by decide) (by decide)] <;> rfl)
        have hkk41_e70 : (cf67 41).toInt = (cf_73 41).toInt := (by rw [e70.1 41 (by decide) (by decide) (by decide) (by decide) (by decide)] <;> rfl)
        have hkk55_e70 : (cf67 55).toInt = (cf_73 55).toInt := (by rw [e70.1 55 (by decide) (by decide) (by decide) (by decide) (by decide)] <;> rfl)
        have hkk59_e70 : (cf67 59).toInt = (cf_73 59).toInt := (by rw [e70.1 59 (by decide) (by decide) (by decide) (by decide) (by decide)] <;> rfl)
        have hkk42_e70 : (cf67 42).toInt = (cf_73 42).toInt := (by rw [e70.1 42 (by decide) (by decide) (by decide) (by decide) (by decide)] <;> rfl)
        have hkk54_e70 : (cf67 54).toInt = (cf_73 54).toInt := (by rw [e70.1 54 (by decide) (by decide) (by decide) (by decide) (by decide)] <;> rfl)
        have hkk58_e70 : (cf67 58).toInt = (cf_73 58).toInt := (by rw [e70.1 58 (by decide) (by decide) (by decide) (by decide) (by decide)] <;> rfl)
        have e71 : WrV cf67 (tf 6).toInt := e71
        have hwr := e71
        have hw0_e71 := hwr.1
        have e72 : (cf67 33).toInt = (cf_73 33).toInt := e72
        have e73 : (cf67 38).toInt = (cf_73 38).toInt := e73
        have e74 : (cf67 48).toInt = (cf_73 48).toInt := e74
        have e75 : (cf67 46).toInt = (cf_73 46).toInt := e75
        have e76 : (cf67 47).toInt = (cf_73 47).toInt := e76
        have e77 : Ann na ma0 ma66 := e77
        have han := e77
        have e78 : FrC mid_73 md62 ma_73 ma66 := e78
        have hfc := hfc.tr e78 (by omega) (by omega)
        have e79 := z_rng e79
        have e80 : v69.toInt = 0 → 1 ≤ (cf67 30).toInt := e80
        have e81 : R_mp_checkConstant tf ta na ca x73_5 ma_73 cf_73 ma66 cf67 v69 := e81
        have hw : pw D A s.heap H locs [wdP cs h r g tf ta pf na ma66 wa cf67 ca ef ea xf xa] := hw
        have lv69 := Int32.le_toInt v69
        have uv69 := Int32.toInt_lt v69
        refine lv_pop S.x S.b d_Mpg_declareArray_84 rfl ?_
        obtain ⟨z82, ez82⟩ : ∃ y : Int32, y = x73_4 + 1 := ⟨_, rfl⟩
        have tz82 : z82.toInt = (x73_4.toInt + 1 + 2147483648) % 4294967296 - 2147483648 := by rw [ez82]; exact i_add x73_4 1
        have lz82 := Int32.le_toInt z82
        have uz82 := Int32.toInt_lt z82
        try replace tz82 : z82.toInt = x73_4.toInt + 1 := by omega
        refine lv_iinc (v := z82) (lv' := [(4, .int z82), (0, .ref h), (1, .int p0), (2, .int p1), (3, .int x73_3), (5, .int x73_5)]) S.x S.b d_Mpg_declareArray_85 hl (k := 4) rfl (by rw [ez82]; rfl) (by decide) rfl (fun ls hl => ?_)
        refine lv_aload_n S.x S.b d_Mpg_declareArray_88 rfl (lv_at hl 1 rfl) ?_
        refine px_get S k_Mpg hT hw 0 0 21 (v := .ref (r 21)) rfl rfl rfl (by decide) m10_7 d_Mpg_declareArray_89 ?_
        refine lv_iload S.x S.b d_Mpg_declareArray_92 (lv_at hl 5 rfl) ?_
        refine px_iald S hT hw 0 17 (n := 2100) (f := (na 21)) rfl gp_21 (x := x73_5) (vp_in_iff.mpr (by constructor <;> omega)) d_Mpg_declareArray_94 ?_
        refine lv_topi (fun z83 ez83 => ?_)
        have lz83 := Int32.le_toInt z83
        have uz83 := Int32.toInt_lt z83
        refine lv_istore (lv' := [(5, .int z83), (4, .int z82), (0, .ref h), (1, .int p0), (2, .int p1), (3, .int x73_3)]) S.x S.b d_Mpg_declareArray_95 hl (by decide) rfl (fun ls hl => ?_)
        refine lv_goto (tgt := 73) S.x S.b d_Mpg_declareArray_97 (by decide) ?_
        exact ih73 ma66 cf67 md62 (wr_73 - wv63) x73_3 z82 z83 _ _ ls (show (cf67 30).toInt = 0 → (cf 30).toInt = 0 from by omega) (show WrV cf67 (tf 6).toInt from hwr) (show (cf67 33).toInt = (cf 33).toInt from by first | exact oz_1687f4cc65 k73_2 e72 | omega) (show (cf67 37).toInt = (cf 37).toInt from by first | exact oz_1687f4cc65 k73_3 hkk37_e70 | omega) (show (cf67 38).toInt = (cf 38).toInt from by first | exact oz_1687f4cc65 k73_4 e73 | omega) (show (cf67 41).toInt = (cf 41).toInt from by first | exact oz_1687f4cc65 k73_5 hkk41_e70 | omega) (show (cf67 42).toInt = (cf 42).toInt from by first | exact oz_1687f4cc65 k73_6 hkk42_e70 | omega) (show (cf67 43).toInt = (cf 43).toInt from by first | exact oz_1687f4cc65 k73_7 hkk43_e70 | omega) (show (cf67 44).toInt = (cf 44).toInt from by first | exact oz_1687f4cc65 k73_8 hkk44_e70 | omega) (show (cf67 45).toInt = (cf 45).toInt from by first | exact oz_1687f4cc65 k73_9 hkk45_e70 | omega) (show (cf67 46).toInt = (cf 46).toInt from by first | exact oz_1687f4cc65 k73_10 e75 | omega) (show (cf67 47).toInt = (cf 47).toInt from by first | exact oz_1687f4cc65 k73_11 e76 | omega) (show (cf67 48).toInt = (cf 48).toInt from by first | exact oz_1687f4cc65 k73_12 e74 | omega) (show (cf67 54).toInt = (cf 54).toInt from by first | exact oz_1687f4cc65 k73_13 hkk54_e70 | omega) (show (cf67 55).toInt = (cf 55).toInt from by first | exact oz_1687f4cc65 k73_14 hkk55_e70 | omega) (show (cf67 59).toInt = (cf 59).toInt from by first | exact oz_1687f4cc65 k73_15 hkk59_e70 | omega) (show Ann na ma0 ma66 from han) (show FrC lo hi ma ma66 from hfc) (show -1 ≤ x73_3.toInt from by first | exact k73_18 | omega) (show x73_3.toInt ≤ 4096 from by first | exact k73_19 | omega) (show x73_3.toInt = -1 → 1 ≤ (cf67 30).toInt from by omega) (show 0 ≤ z82.toInt from by first | exact oz_ae613611c0 tz82 k73_21 | omega) (show z82.toInt + m1 ≤ md62 from by omega) (show m1 ≤ md62 from by omega) (show md62 ≤ hi from by first | exact hm2_md62 | omega) (show (ma0 22 p0.toNatClampNeg).toInt = 2 from by first | exact k73_25 | omega) (show RvI ta (tf 6).toInt na ma0 d md62 hi (wr_73 - wv63) z83 from (by rw [ez83]; exact hrv2)) (show RlC na (ma0 18 p0.toNatClampNeg) z83 z82.toInt from (RlC.nx hrl (by omega) (by omega) ez83 (by omega))) (show K_mp_declareArray_73 tf ta na ca p0 p1 ma cf ma66 cf67 x73_3 z82 z83 from (fun y_f0 y_f1 y_v k hE => k73_28 y_f0 y_f1 y_v (k + 1) (Or.inr (Or.inl ⟨rfl, x73_3, x73_4, x73_5, rfl, rfl, rfl, rfl, rfl, Or.inr ⟨nc1, ma66, cf67, v69, e81, z82, ez82, z83, ez83, hE⟩⟩)))) (show hi - md62 < (n_73 : Int) from by omega) hw (lv_sub hl [2, 3, 4, 5, 1, 0] rfl)
  refine lv_iconst (v := (-1)) S.x S.b d_Mpg_declareArray_0 (by decide) ?_
  refine lv_istore_n (lv' := [(3, .int (-1)), (0, .ref h), (1, .int p0), (2, .int p1)]) S.x S.b d_Mpg_declareArray_1 rfl hl (by decide) rfl (fun ls hl => ?_)
  refine lv_aload_n S.x S.b d_Mpg_declareArray_2 rfl (lv_at hl 1 rfl) ?_
  refine lv_aload_n S.x S.b d_Mpg_declareArray_3 rfl (lv_at hl 1 rfl) ?_
  refine px_get S k_Mpg hT hw 0 0 17 (v := .ref (r 17)) rfl rfl rfl (by decide) m10_1 d_Mpg_declareArray_4 ?_
  refine lv_iload_n S.x S.b d_Mpg_declareArray_7 rfl (lv_at hl 2 rfl) ?_
  refine px_iald S hT hw 0 13 (n := 2100) (f := (na 17)) rfl gp_17 (x := p0) (vp_in_iff.mpr (by first | exact oz_a7e05de1cd hvr.2.2.1 hvr.2.1 g1 g2 | (constructor <;> omega))) d_Mpg_declareArray_8 ?_
  refine lv_topi (fun z84 ez84 => ?_)
  have lz84 := Int32.le_toInt z84
  have uz84 := Int32.toInt_lt z84
  have rz84 : z84.toInt = (na 17 p0.toNatClampNeg).toInt := by rw [ez84]
  have hec_z84 : EcV ta (tf 6).toInt na ma0 d (p0.toInt + 1) m1 z84 := (by rw [ez84]; exact hec_a); have h20_z84 : (ma0 20 z84.toNatClampNeg).toInt < 0 := (by rw [ez84]; exact h20_a)
  refine px_calli (pr := []) (px_runV (As := [.int z84]) (rest := []) S (c_mp_checkConstant l D cs ma0 ys (cf 48).toInt nf (cf 33).toInt d (p0.toInt + 1) m1 h r g tf ta pf na wa ca ef ea xf xa ma cf z84  (show 0 ≤ (p0.toInt + 1) from by first | exact oz_c12c169b81 hvr.2.2.1 | omega) (show m1 ≤ (pf 13).toInt from by first | exact oz_bbb5b20c1a g1 hm2 | omega) (show (pf 13).toInt ≤ 2100 from by first | exact g2 | omega) (show (tf 6).toInt ≤ 2049 from by first | exact g3 | omega) (show (cf 33).toInt = (cf 33).toInt from rfl) (show 0 ≤ (cf 33).toInt from by first | exact g4 | omega) (show (cf 48).toInt = (cf 48).toInt from rfl) (show (cf 38).toInt = nf from by first | exact g9 | omega) (show 0 ≤ nf from by first | exact g10 | omega) (show 0 ≤ (cf 46).toInt from by first | exact g19 | omega) (show (cf 46).toInt ≤ 1 from by first | exact g20 | omega) (show 0 ≤ (cf 47).toInt from by first | exact g21 | omega) (show (cf 47).toInt ≤ 1 from by first | exact g22 | omega) htk (FsI.le (N' := (pf 13).toInt) hfs (by omega)) hwr (KnT.eq hkt (by omega)) (FnT.eq hft (by omega)) (KnS.eq hks (by omega) (by omega)) hfp han hec_z84 (by first | assumption | omega) _) hT (pr := []) (pcs := [wdP cs h r g tf ta pf na ma wa cf ca ef ea xf xa]) hw (oX_call (P := (fun A U H => (oP A g U H))) (pr := []) oG_P hw hA hP) (px_recv hT hw 0 0 rfl rfl rfl) m12_237 m12_234 m12_236 ms_12_12 m1_21 q_Mpg_checkConstant ⟨show (4 * d + 18) + 1 ≤ (4 * d + 20) from (by first | exact oz_806aa97e85 | omega), show 8 + (5 + 11) + (200 * d + 640) ≤ (200 * d + 700) from (by first | exact oz_38cf6322af | omega)⟩ hl.1 rfl (Nat.le_of_ble_eq_true rfl) d_Mpg_declareArray_9 ⟨Nat.le_of_ble_eq_true rfl, Nat.le_of_ble_eq_true rfl⟩) hw hA (fun v90 p89 H locs hp89 hw => ?_)
  obtain ⟨ma87, cf88, rfl, e91, e92, e93, e94, e95, e96, e97, e98, e99, e100, e101, e102⟩ := hp89
  have e91 : KpE cf cf88 := e91
  have hkz_e91 := e91.2
  have hkk37_e91 : (cf88 37).toInt = (cf 37).toInt := (by rw [e91.1 37 (by decide) (by decide) (by decide) (by decide) (by decide)] <;> rfl)
  have hkk43_e91 : (cf88 43).toInt = (cf 43).toInt := (by rw [e91.1 43 (by decide) (by decide) (by decide) (by decide) (by decide)] <;> rfl)
  have hkk44_e91 : (cf88 44).toInt = (cf 44).toInt := (by rw [e91.1 44 (by decide) (by decide) (by decide) (by decide) (by decide)] <;> rfl)
  have hkk45_e91 : (cf88 45).toInt = (cf 45).toInt := (by rw [e91.1 45 (by decide) (by decide) (by decide) (by decide) (by decide)] <;> rfl)
  have hkk41_e91 : (cf88 41).toInt = (cf 41).toInt := (by rw [e91.1 41 (by decide) (by decide) (by decide) (by decide) (by decide)] <;> rfl)
  have hkk55_e91 : (cf88 55).toInt = (cf 55).toInt := (by rw [e91.1 55 (by decide) (by decide) (by decide) (by decide) (by decide)] <;> rfl)
  have hkk59_e91 : (cf88 59).toInt = (cf 59).toInt := (by rw [e91.1 59 (by decide) (by decide) (by decide) (by decide) (by decide)] <;> rfl)
  have hkk42_e91 : (cf88 42).toInt = (cf 42).toInt := (by rw [e91.1 42 (by decide) (by decide) (by decide) (by decide) (by decide)] <;> rfl)
  have hkk54_e91 : (cf88 54).toInt = (cf 54).toInt := (by rw [e91.1 54 (by decide) (by decide) (by decide) (by decide) (by decide)] <;> rfl)
  have hkk58_e91 : (cf88 58).toInt = (cf 58).toInt := (by rw [e91.1 58 (by decide) (by decide) (by decide) (by decide) (by decide)] <;> rfl)
  have e92 : WrV cf88 (tf 6).toInt := e92
  have hwr := e92
  have hw0_e92 := hwr.1
  have e93 : (cf88 33).toInt = (cf 33).toInt := e93
  have e94 : (cf88 38).toInt = (cf 38).toInt := e94
  have e95 : (cf88 48).toInt = (cf 48).toInt := e95
  have e96 : (cf88 46).toInt = (cf 46).toInt := e96
  have e97 : (cf88 47).toInt = (cf 47).toInt := e97
  have e98 : Ann na ma0 ma87 := e98
  have han := e98
  have e99 : FrC (p0.toInt + 1) m1 ma ma87 := e99
  have hfc := hfc.tr e99 (by omega) (by omega)
  have e100 := z_rng e100
  have e101 : v90.toInt = 0 → 1 ≤ (cf88 30).toInt := e101
  have e102 : R_mp_checkConstant tf ta na ca z84 ma cf ma87 cf88 v90 := e102
  have hw : pw D A s.heap H locs [wdP cs h r g tf ta pf na ma87 wa cf88 ca ef ea xf xa] := hw
  have lv90 := Int32.le_toInt v90
  have uv90 := Int32.toInt_lt v90
  refine lv_if_eq (tgt := 52) S.x S.b d_Mpg_declareArray_12 (by decide) (fun c103 => ?_) (fun c103 => ?_)
  · have nc103 : v90.toInt = (0 : Int) := (i_eq (x := v90) (y := 0)).mp c103
    refine lv_aload_n S.x S.b d_Mpg_declareArray_52 rfl (lv_at hl 1 rfl) ?_
    refine px_get S k_Mpg hT hw 0 0 22 (v := .ref (r 22)) rfl rfl rfl (by decide) m10_9 d_Mpg_declareArray_53 ?_
    refine lv_iload_n S.x S.b d_Mpg_declareArray_56 rfl (lv_at hl 2 rfl) ?_
    refine px_iald S hT hw 0 18 (n := 2100) (f := (ma87 22)) rfl gp_22 (x := p0) (vp_in_iff.mpr (by first | exact oz_a7e05de1cd hvr.2.2.1 hvr.2.1 g1 g2 | (constructor <;> omega))) d_Mpg_declareArray_57 ?_
    refine lv_topi (fun z105 ez105 => ?_)
    have lz105 := Int32.le_toInt z105
    have uz105 := Int32.toInt_lt z105
    have rz105 : z105.toInt = (ma0 22 p0.toNatClampNeg).toInt := (by rw [ez105, Ann.v22 han (by omega)])
    refine lv_iconst (v := 2) S.x S.b d_Mpg_declareArray_58 (by decide) ?_
    refine lv_icmp_ne (tgt := 125) S.x S.b d_Mpg_declareArray_59 (by decide) (fun c106 => ?_) (fun c106 => ?_)
    · have nc106 : ¬ z105.toInt = (2 : Int) := mt (i_eq (x := z105) (y := 2)).mpr c106
      refine lv_aload_n S.x S.b d_Mpg_declareArray_125 rfl (lv_at hl 1 rfl) ?_
      refine px_get S k_Mpg hT hw 0 0 22 (v := .ref (r 22)) rfl rfl rfl (by decide) m10_9 d_Mpg_declareArray_126 ?_
      refine lv_iload_n S.x S.b d_Mpg_declareArray_129 rfl (lv_at hl 2 rfl) ?_
      refine px_iald S hT hw 0 18 (n := 2100) (f := (ma87 22)) rfl gp_22 (x := p0) (vp_in_iff.mpr (by first | exact oz_a7e05de1cd hvr.2.2.1 hvr.2.1 g1 g2 | (constructor <;> omega))) d_Mpg_declareArray_130 ?_
      refine lv_topi (fun z108 ez108 => ?_)
      have lz108 := Int32.le_toInt z108
      have uz108 := Int32.toInt_lt z108
      have rz108 : z108.toInt = (ma0 22 p0.toNatClampNeg).toInt := (by rw [ez108, Ann.v22 han (by omega)])
      refine lv_iconst (v := 3) S.x S.b d_Mpg_declareArray_131 (by decide) ?_
      refine lv_icmp_ne (tgt := 176) S.x S.b d_Mpg_declareArray_132 (by decide) (fun c109 => ?_) (fun c109 => ?_)
      · have nc109 : ¬ z108.toInt = (3 : Int) := mt (i_eq (x := z108) (y := 3)).mpr c109
        refine lv_aload_n S.x S.b d_Mpg_declareArray_176 rfl (lv_at hl 1 rfl) ?_
        refine lv_iload_n S.x S.b d_Mpg_declareArray_177 rfl (lv_at hl 0 rfl) ?_
        refine lv_if_ge (tgt := 185) S.x S.b d_Mpg_declareArray_178 (by decide) (fun c111 => ?_) (fun c111 => ?_)
        · exact absurd c111 (by decide)
        ·
          refine lv_iconst (v := 0) S.x S.b d_Mpg_declareArray_181 (by decide) ?_
          refine lv_goto (tgt := 186) S.x S.b d_Mpg_declareArray_182 (by decide) ?_
          refine px_put S k_Mpg hT hw 0 0 58 rfl rfl (by decide) m10_55 rfl rfl rfl (Nat.le_of_ble_eq_true rfl) d_Mpg_declareArray_186 (w' := wdP cs h r g tf ta pf na ma87 wa (upd cf88 58 0) ca ef ea xf xa) (ps' := [wdP cs h r g tf ta pf na ma87 wa (upd cf88 58 0) ca ef ea xf xa]) rfl rfl (fun H locs hw => ?_)
          refine lv_iload_n S.x S.b d_Mpg_declareArray_189 rfl (lv_at hl 3 rfl) ?_
          refine lv_if_eq (tgt := 204) S.x S.b d_Mpg_declareArray_190 (by decide) (fun c112 => ?_) (fun c112 => ?_)
          · have nc112 : p1.toInt = (0 : Int) := (i_eq (x := p1) (y := 0)).mp c112
            refine lv_aload_n S.x S.b d_Mpg_declareArray_204 rfl (lv_at hl 1 rfl) ?_
            refine px_get S k_Mpg hT hw 0 0 58 (v := .int 0) rfl rfl rfl (by decide) m10_55 d_Mpg_declareArray_205 ?_
            exact px_iret (v := 0) S hr rfl hlk hAe hw (Nat.le_of_ble_eq_true rfl) (Nat.le_of_ble_eq_true rfl) (⟨ma87, (upd cf88 58 0), rfl, (show (cf88 30).toInt = 0 → (cf 30).toInt = 0 from by first | exact hkz_e91 | omega), (show WrV (upd cf88 58 0) (tf 6).toInt from (WrV.u hwr (by decide) (by decide))), (show (cf88 33).toInt = (cf 33).toInt from by first | exact e93 | omega), (show (cf88 37).toInt = (cf 37).toInt from by first | exact hkk37_e91 | omega), (show (cf88 38).toInt = (cf 38).toInt from by first | exact e94 | omega), (show (cf88 41).toInt = (cf 41).toInt from by first | exact hkk41_e91 | omega), (show (cf88 42).toInt = (cf 42).toInt from by first | exact hkk42_e91 | omega), (show (cf88 43).toInt = (cf 43).toInt from by first | exact hkk43_e91 | omega), (show (cf88 44).toInt = (cf 44).toInt from by first | exact hkk44_e91 | omega), (show (cf88 45).toInt = (cf 45).toInt from by first | exact hkk45_e91 | omega), (show (cf88 46).toInt = (cf 46).toInt from by first | exact e96 | omega), (show (cf88 47).toInt = (cf 47).toInt from by first | exact e97 | omega), (show (cf88 48).toInt = (cf 48).toInt from by first | exact e95 | omega), (show (cf88 54).toInt = (cf 54).toInt from by first | exact hkk54_e91 | omega), (show (cf88 55).toInt = (cf 55).toInt from by first | exact hkk55_e91 | omega), (show (cf88 59).toInt = (cf 59).toInt from by first | exact hkk59_e91 | omega), (show Ann na ma0 ma87 from han), (show FrC lo hi ma ma87 from hfc), (show 0 ≤ (0 : Int) from by first | exact oz_5a341f00aa | omega), (show (0 : Int) ≤ 4096 from by first | exact oz_37065d99f6 | omega), (show 0 ≤ (0 : Int) from by first | exact oz_5a341f00aa | omega), (show (0 : Int) ≤ 4096 from by first | exact oz_37065d99f6 | omega), (show (0 : Int) ≤ 4 * (0 : Int) from by first | exact oz_397c02ad98 | omega), (show ZAv (upd cf88 58 0) ta na ma87 p0 (0 : Int) from (ZAvF (by first | exact zr_no (by omega) | exact zr_no (by omega) | exact zav_0 han (by omega) (by have hav0 := hav.k0; omega) | exact zav_2 han (by omega) (by omega) hrl (by omega) (by omega) (by omega) | exact zav_3 han (by omega) (by omega) ha_zz (by omega)))), (show R_mp_declareArray tf ta na ca p0 p1 ma cf ma87 (upd cf88 58 0) (0 : Int32) from (Exists.intro 1 (Or.inl ⟨rfl, z84, ez84, ma87, cf88, v90, e102, Or.inl ⟨nc103, z105, ez105, Or.inl ⟨nc106, z108, ez108, Or.inl ⟨nc109, Or.inl ⟨nc112, rfl, rfl, rfl⟩⟩⟩⟩⟩)))⟩) d_Mpg_declareArray_208
          · have nc112 : ¬ p1.toInt = (0 : Int) := mt (i_eq (x := p1) (y := 0)).mpr c112
            refine lv_aload_n S.x S.b d_Mpg_declareArray_193 rfl (lv_at hl 1 rfl) ?_
            refine px_get S k_Mpg hT hw 0 0 58 (v := .int 0) rfl rfl rfl (by decide) m10_55 d_Mpg_declareArray_194 ?_
            refine lv_iconst (v := 3) S.x S.b d_Mpg_declareArray_197 (by decide) ?_
            refine lv_iadd S.x S.b d_Mpg_declareArray_198 ?_
            refine lv_topi (fun z114 ez114 => ?_)
            have tz114 : z114.toInt = ((0 : Int) + (3 : Int) + 2147483648) % 4294967296 - 2147483648 := by rw [ez114]; exact i_add 0 3
            have lz114 := Int32.le_toInt z114
            have uz114 := Int32.toInt_lt z114
            try replace tz114 : z114.toInt = (0 : Int) + (3 : Int) := by omega
            refine lv_iconst (v := 4) S.x S.b d_Mpg_declareArray_199 (by decide) ?_
            refine lv_idiv S.x S.b d_Mpg_declareArray_200 (fun hz0 => by have hz1 := i_eq.mp hz0; omega) ?_
            refine lv_topi (fun z115 ez115 => ?_)
            have lz115 := Int32.le_toInt z115
            have uz115 := Int32.toInt_lt z115
            have hd4 := i_div4 ez115 (by omega)
            refine lv_goto (tgt := 208) S.x S.b d_Mpg_declareArray_201 (by decide) ?_
            exact px_iret (v := z115) S hr rfl hlk hAe hw (Nat.le_of_ble_eq_true rfl) (Nat.le_of_ble_eq_true rfl) (⟨ma87, (upd cf88 58 0), rfl, (show (cf88 30).toInt = 0 → (cf 30).toInt = 0 from by first | exact hkz_e91 | omega), (show WrV (upd cf88 58 0) (tf 6).toInt from (WrV.u hwr (by decide) (by decide))), (show (cf88 33).toInt = (cf 33).toInt from by first | exact e93 | omega), (show (cf88 37).toInt = (cf 37).toInt from by first | exact hkk37_e91 | omega), (show (cf88 38).toInt = (cf 38).toInt from by first | exact e94 | omega), (show (cf88 41).toInt = (cf 41).toInt from by first | exact hkk41_e91 | omega), (show (cf88 42).toInt = (cf 42).toInt from by first | exact hkk42_e91 | omega), (show (cf88 43).toInt = (cf 43).toInt from by first | exact hkk43_e91 | omega), (show (cf88 44).toInt = (cf 44).toInt from by first | exact hkk44_e91 | omega), (show (cf88 45).toInt = (cf 45).toInt from by first | exact hkk45_e91 | omega), (show (cf88 46).toInt = (cf 46).toInt from by first | exact e96 | omega), (show (cf88 47).toInt = (cf 47).toInt from by first | exact e97 | omega), (show (cf88 48).toInt = (cf 48).toInt from by first | exact e95 | omega), (show (cf88 54).toInt = (cf 54).toInt from by first | exact hkk54_e91 | omega), (show (cf88 55).toInt = (cf 55).toInt from by first | exact hkk55_e91 | omega), (show (cf88 59).toInt = (cf 59).toInt from by first | exact hkk59_e91 | omega), (show Ann na ma0 ma87 from han), (show FrC lo hi ma ma87 from hfc), (show 0 ≤ (0 : Int) from by first | exact oz_5a341f00aa | omega), (show (0 : Int) ≤ 4096 from by first | exact oz_37065d99f6 | omega), (show 0 ≤ z115.toInt from by omega), (show z115.toInt ≤ 4096 from by omega), (show (0 : Int) ≤ 4 * z115.toInt from by omega), (show ZAv (upd cf88 58 0) ta na ma87 p0 (0 : Int) from (ZAvF (by first | exact zr_no (by omega) | exact zr_no (by omega) | exact zav_0 han (by omega) (by have hav0 := hav.k0; omega) | exact zav_2 han (by omega) (by omega) hrl (by omega) (by omega) (by omega) | exact zav_3 han (by omega) (by omega) ha_zz (by omega)))), (show R_mp_declareArray tf ta na ca p0 p1 ma cf ma87 (upd cf88 58 0) z115 from (Exists.intro 1 (Or.inl ⟨rfl, z84, ez84, ma87, cf88, v90, e102, Or.inl ⟨nc103, z105, ez105, Or.inl ⟨nc106, z108, ez108, Or.inl ⟨nc109, Or.inr ⟨nc112, z114, ez114, z115, ez115, rfl, rfl, rfl⟩⟩⟩⟩⟩)))⟩) d_Mpg_declareArray_208
      · have nc109 : z108.toInt = (3 : Int) := (i_eq (x := z108) (y := 3)).mp c109
        refine lv_aload_n S.x S.b d_Mpg_declareArray_135 rfl (lv_at hl 1 rfl) ?_
        refine px_get S k_Mpg hT hw 0 0 10 (v := .ref (r 10)) rfl rfl rfl (by decide) m9_234 d_Mpg_declareArray_136 ?_
        refine lv_aload_n S.x S.b d_Mpg_declareArray_139 rfl (lv_at hl 1 rfl) ?_
        refine px_get S k_Mpg hT hw 0 0 19 (v := .ref (r 19)) rfl rfl rfl (by decide) m10_5 d_Mpg_declareArray_140 ?_
        refine lv_iload_n S.x S.b d_Mpg_declareArray_143 rfl (lv_at hl 2 rfl) ?_
        refine px_iald S hT hw 0 15 (n := 2100) (f := (ma87 19)) rfl gp_19 (x := p0) (vp_in_iff.mpr (by first | exact oz_a7e05de1cd hvr.2.2.1 hvr.2.1 g1 g2 | (constructor <;> omega))) d_Mpg_declareArray_144 ?_
        refine lv_topi (fun z116 ez116 => ?_)
        have lz116 := Int32.le_toInt z116
        have uz116 := Int32.toInt_lt z116
        have ha_z116 : z116 = ma0 19 p0.toNatClampNeg := ez116.trans (Ann.v19 han (by omega)); have hn_z116 : z116.toInt = (ma0 19 p0.toNatClampNeg).toInt := (by rw [ha_z116]); have hk3 := hav.k3 (by omega); rw [← ha_z116] at hk3
        refine px_iald S hT hw 0 9 (n := 2060) (f := (ta 10)) rfl gp_10 (x := z116) (vp_in_iff.mpr (by first | exact oz_8859ebd461 hn_z116 hk3.1 hk3.2.1 g3 | (constructor <;> omega))) d_Mpg_declareArray_145 ?_
        refine lv_topi (fun z117 ez117 => ?_)
        have lz117 := Int32.le_toInt z117
        have uz117 := Int32.toInt_lt z117
        have rz117 : z117.toInt = wh ta z116 := by rw [ez117]; rfl
        have hw4 := tk_w4 htk (x := z116) (by omega) (by omega) ez117 (by omega)
        refine lv_iconst (v := 1) S.x S.b d_Mpg_declareArray_146 (by decide) ?_
        refine lv_iadd S.x S.b d_Mpg_declareArray_147 ?_
        refine lv_topi (fun z118 ez118 => ?_)
        have tz118 : z118.toInt = (z117.toInt + (1 : Int) + 2147483648) % 4294967296 - 2147483648 := by rw [ez118]; exact i_add z117 1
        have lz118 := Int32.le_toInt z118
        have uz118 := Int32.toInt_lt z118
        try replace tz118 : z118.toInt = z117.toInt + (1 : Int) := by omega
        refine lv_istore (lv' := [(4, .int z118), (3, .int (-1)), (0, .ref h), (1, .int p0), (2, .int p1)]) S.x S.b d_Mpg_declareArray_148 hl (by decide) rfl (fun ls hl => ?_)
        refine lv_iload_n S.x S.b d_Mpg_declareArray_150 rfl (lv_at hl 4 rfl) ?_
        refine lv_if_eq (tgt := 164) S.x S.b d_Mpg_declareArray_151 (by decide) (fun c119 => ?_) (fun c119 => ?_)
        · have nc119 : p1.toInt = (0 : Int) := (i_eq (x := p1) (y := 0)).mp c119
          refine lv_aload_n S.x S.b d_Mpg_declareArray_164 rfl (lv_at hl 2 rfl) ?_
          refine lv_bipush (v := 8) S.x S.b d_Mpg_declareArray_165 (by decide) ?_
          refine lv_aload_n S.x S.b d_Mpg_declareArray_167 rfl (lv_at hl 2 rfl) ?_
          refine px_get S k_Mpg hT hw 0 0 19 (v := .ref (r 19)) rfl rfl rfl (by decide) m10_5 d_Mpg_declareArray_168 ?_
          refine lv_iload_n S.x S.b d_Mpg_declareArray_171 rfl (lv_at hl 3 rfl) ?_
          refine px_iald S hT hw 0 15 (n := 2100) (f := (ma87 19)) rfl gp_19 (x := p0) (vp_in_iff.mpr (by first | exact oz_a7e05de1cd hvr.2.2.1 hvr.2.1 g1 g2 | (constructor <;> omega))) d_Mpg_declareArray_172 ?_
          refine lv_topi (fun z121 ez121 => ?_)
          have lz121 := Int32.le_toInt z121
          have uz121 := Int32.toInt_lt z121
          have ha_z121 : z121 = ma0 19 p0.toNatClampNeg := ez121.trans (Ann.v19 han (by omega)); have hn_z121 : z121.toInt = (ma0 19 p0.toNatClampNeg).toInt := (by rw [ha_z121]); have hk3 := hav.k3 (by omega); rw [← ha_z121] at hk3
          refine px_callv (pr := []) (px_runV (As := [.int 8, .int z121]) (rest := []) S (c_mp_bad l D cs h r g tf ta pf na ma87 wa ca ef ea xf xa cf88 8 z121  (show 1 ≤ (8 : Int) from by first | exact oz_fe427bacb1 | omega) (show 0 ≤ z121.toInt from by first | exact oz_f3ebed1ad0 hn_z121 hk3.1 | omega) (show z121.toInt < (tf 6).toInt from by first | exact oz_b0a61accca hk3.2.1 hn_z121 | omega) htk hwr _) hT (pr := []) (pcs := [wdP cs h r g tf ta pf na ma87 wa cf88 ca ef ea xf xa]) hw px_X.tt (px_recv hT hw 0 0 rfl rfl rfl) m12_173 m12_170 m12_172 ms_11_12 m1_21 q_Mpg_bad ⟨show 0 + 1 ≤ (4 * d + 20) from (by first | exact oz_8385159a22 | omega), show 8 + (3 + 11) + 0 ≤ (200 * d + 700) from (by first | exact oz_a3cd9048d3 | omega)⟩ hl.1 rfl (Nat.le_of_ble_eq_true rfl) d_Mpg_declareArray_173 ⟨Nat.le_of_ble_eq_true rfl, Nat.le_of_ble_eq_true rfl⟩) hw hA (fun p124 H locs hp124 hw => ?_)
          obtain ⟨cf123, rfl, e126, e127, e128, e129, e130, e131, e132, e133, e134, e135, e136, e137, e138, e139, e140, e141, e142, e143, e144, e145⟩ := hp124
          have e126 : KpE cf88 cf123 := e126
          have hkz_e126 := e126.2
          have e127 : WrV cf123 (tf 6).toInt := e127
          have hwr := e127
          have hw0_e127 := hwr.1
          have e128 : 1 ≤ (cf123 30).toInt := e128
          have e129 : (cf123 33).toInt = (cf88 33).toInt := e129
          have e130 : (cf123 38).toInt = (cf88 38).toInt := e130
          have e131 : (cf123 48).toInt = (cf88 48).toInt := e131
          have e132 : (cf123 46).toInt = (cf88 46).toInt := e132
          have e133 : (cf123 47).toInt = (cf88 47).toInt := e133
          have e134 : (cf123 57).toInt = (cf88 57).toInt := e134
          have e135 : (cf123 37).toInt = (cf88 37).toInt := e135
          have e136 : (cf123 42).toInt = (cf88 42).toInt := e136
          have e137 : (cf123 43).toInt = (cf88 43).toInt := e137
          have e138 : (cf123 44).toInt = (cf88 44).toInt := e138
          have e139 : (cf123 45).toInt = (cf88 45).toInt := e139
          have e140 : (cf123 54).toInt = (cf88 54).toInt := e140
          have e141 : (cf123 55).toInt = (cf88 55).toInt := e141
          have e142 : (cf123 58).toInt = (cf88 58).toInt := e142
          have e143 : (cf123 59).toInt = (cf88 59).toInt := e143
          have e144 : (cf123 41).toInt = (cf88 41).toInt := e144
          have e145 : R_mp_bad (8 : Int32) z121 cf88 cf123 := e145
          have hw : pw D A s.heap H locs [wdP cs h r g tf ta pf na ma87 wa cf123 ca ef ea xf xa] := hw
          refine lv_aload_n S.x S.b d_Mpg_declareArray_176 rfl (lv_at hl 2 rfl) ?_
          refine lv_iload_n S.x S.b d_Mpg_declareArray_177 rfl (lv_at hl 1 rfl) ?_
          refine lv_if_ge (tgt := 185) S.x S.b d_Mpg_declareArray_178 (by decide) (fun c146 => ?_) (fun c146 => ?_)
          · exact absurd c146 (by decide)
          ·
            refine lv_iconst (v := 0) S.x S.b d_Mpg_declareArray_181 (by decide) ?_
            refine lv_goto (tgt := 186) S.x S.b d_Mpg_declareArray_182 (by decide) ?_
            refine px_put S k_Mpg hT hw 0 0 58 rfl rfl (by decide) m10_55 rfl rfl rfl (Nat.le_of_ble_eq_true rfl) d_Mpg_declareArray_186 (w' := wdP cs h r g tf ta pf na ma87 wa (upd cf123 58 0) ca ef ea xf xa) (ps' := [wdP cs h r g tf ta pf na ma87 wa (upd cf123 58 0) ca ef ea xf xa]) rfl rfl (fun H locs hw => ?_)
            refine lv_iload_n S.x S.b d_Mpg_declareArray_189 rfl (lv_at hl 4 rfl) ?_
            refine lv_if_eq (tgt := 204) S.x S.b d_Mpg_declareArray_190 (by decide) (fun c147 => ?_) (fun c147 => ?_)
            · have nc147 : p1.toInt = (0 : Int) := (i_eq (x := p1) (y := 0)).mp c147
              refine lv_aload_n S.x S.b d_Mpg_declareArray_204 rfl (lv_at hl 2 rfl) ?_
              refine px_get S k_Mpg hT hw 0 0 58 (v := .int 0) rfl rfl rfl (by decide) m10_55 d_Mpg_declareArray_205 ?_
              exact px_iret (v := 0) S hr rfl hlk hAe hw (Nat.le_of_ble_eq_true rfl) (Nat.le_of_ble_eq_true rfl) (⟨ma87, (upd cf123 58 0), rfl, (show (cf123 30).toInt = 0 → (cf 30).toInt = 0 from by omega), (show WrV (upd cf123 58 0) (tf 6).toInt from (WrV.u hwr (by decide) (by decide))), (show (cf123 33).toInt = (cf 33).toInt from by first | exact oz_1687f4cc65 e93 e129 | omega), (show (cf123 37).toInt = (cf 37).toInt from by first | exact oz_1687f4cc65 hkk37_e91 e135 | omega), (show (cf123 38).toInt = (cf 38).toInt from by first | exact oz_1687f4cc65 e94 e130 | omega), (show (cf123 41).toInt = (cf 41).toInt from by first | exact oz_1687f4cc65 hkk41_e91 e144 | omega), (show (cf123 42).toInt = (cf 42).toInt from by first | exact oz_1687f4cc65 hkk42_e91 e136 | omega), (show (cf123 43).toInt = (cf 43).toInt from by first | exact oz_1687f4cc65 hkk43_e91 e137 | omega), (show (cf123 44).toInt = (cf 44).toInt from by first | exact oz_1687f4cc65 hkk44_e91 e138 | omega), (show (cf123 45).toInt = (cf 45).toInt from by first | exact oz_1687f4cc65 hkk45_e91 e139 | omega), (show (cf123 46).toInt = (cf 46).toInt from by first | exact oz_1687f4cc65 e96 e132 | omega), (show (cf123 47).toInt = (cf 47).toInt from by first | exact oz_1687f4cc65 e97 e133 | omega), (show (cf123 48).toInt = (cf 48).toInt from by first | exact oz_1687f4cc65 e95 e131 | omega), (show (cf123 54).toInt = (cf 54).toInt from by first | exact oz_1687f4cc65 hkk54_e91 e140 | omega), (show (cf123 55).toInt = (cf 55).toInt from by first | exact oz_1687f4cc65 hkk55_e91 e141 | omega), (show (cf123 59).toInt = (cf 59).toInt from by first | exact oz_1687f4cc65 hkk59_e91 e143 | omega), (show Ann na ma0 ma87 from han), (show FrC lo hi ma ma87 from hfc), (show 0 ≤ (0 : Int) from by first | exact oz_5a341f00aa | omega), (show (0 : Int) ≤ 4096 from by first | exact oz_37065d99f6 | omega), (show 0 ≤ (0 : Int) from by first | exact oz_5a341f00aa | omega), (show (0 : Int) ≤ 4096 from by first | exact oz_37065d99f6 | omega), (show (0 : Int) ≤ 4 * (0 : Int) from by first | exact oz_397c02ad98 | omega), (show ZAv (upd cf123 58 0) ta na ma87 p0 (0 : Int) from (zr_no (by first | omega | (show 1 ≤ _; rw [pk_un (by decide)]; omega)))), (show R_mp_declareArray tf ta na ca p0 p1 ma cf ma87 (upd cf123 58 0) (0 : Int32) from (Exists.intro 1 (Or.inl ⟨rfl, z84, ez84, ma87, cf88, v90, e102, Or.inl ⟨nc103, z105, ez105, Or.inl ⟨nc106, z108, ez108, Or.inr ⟨nc109, z116, ez116, z117, ez117, z118, ez118, Or.inl ⟨nc119, z121, ez121, cf123, e145, Or.inl ⟨nc147, rfl, rfl, rfl⟩⟩⟩⟩⟩⟩)))⟩) d_Mpg_declareArray_208
            · have nc147 : ¬ p1.toInt = (0 : Int) := mt (i_eq (x := p1) (y := 0)).mpr c147
              refine lv_aload_n S.x S.b d_Mpg_declareArray_193 rfl (lv_at hl 2 rfl) ?_
              refine px_get S k_Mpg hT hw 0 0 58 (v := .int 0) rfl rfl rfl (by decide) m10_55 d_Mpg_declareArray_194 ?_
              refine lv_iconst (v := 3) S.x S.b d_Mpg_declareArray_197 (by decide) ?_
              refine lv_iadd S.x S.b d_Mpg_declareArray_198 ?_
              refine lv_topi (fun z149 ez149 => ?_)
              have tz149 : z149.toInt = ((0 : Int) + (3 : Int) + 2147483648) % 4294967296 - 2147483648 := by rw [ez149]; exact i_add 0 3
              have lz149 := Int32.le_toInt z149
              have uz149 := Int32.toInt_lt z149
              try replace tz149 : z149.toInt = (0 : Int) + (3 : Int) := by omega
              refine lv_iconst (v := 4) S.x S.b d_Mpg_declareArray_199 (by decide) ?_
              refine lv_idiv S.x S.b d_Mpg_declareArray_200 (fun hz0 => by have hz1 := i_eq.mp hz0; omega) ?_
              refine lv_topi (fun z150 ez150 => ?_)
              have lz150 := Int32.le_toInt z150
              have uz150 := Int32.toInt_lt z150
              have hd4 := i_div4 ez150 (by omega)
              refine lv_goto (tgt := 208) S.x S.b d_Mpg_declareArray_201 (by decide) ?_
              exact px_iret (v := z150) S hr rfl hlk hAe hw (Nat.le_of_ble_eq_true rfl) (Nat.le_of_ble_eq_true rfl) (⟨ma87, (upd cf123 58 0), rfl, (show (cf123 30).toInt = 0 → (cf 30).toInt = 0 from by omega), (show WrV (upd cf123 58 0) (tf 6).toInt from (WrV.u hwr (by decide) (by decide))), (show (cf123 33).toInt = (cf 33).toInt from by first | exact oz_1687f4cc65 e93 e129 | omega), (show (cf123 37).toInt = (cf 37).toInt from by first | exact oz_1687f4cc65 hkk37_e91 e135 | omega), (show (cf123 38).toInt = (cf 38).toInt from by first | exact oz_1687f4cc65 e94 e130 | omega), (show (cf123 41).toInt = (cf 41).toInt from by first | exact oz_1687f4cc65 hkk41_e91 e144 | omega), (show (cf123 42).toInt = (cf 42).toInt from by first | exact oz_1687f4cc65 hkk42_e91 e136 | omega), (show (cf123 43).toInt = (cf 43).toInt from by first | exact oz_1687f4cc65 hkk43_e91 e137 | omega), (show (cf123 44).toInt = (cf 44).toInt from by first | exact oz_1687f4cc65 hkk44_e91 e138 | omega), (show (cf123 45).toInt = (cf 45).toInt from by first | exact oz_1687f4cc65 hkk45_e91 e139 | omega), (show (cf123 46).toInt = (cf 46).toInt from by first | exact oz_1687f4cc65 e96 e132 | omega), (show (cf123 47).toInt = (cf 47).toInt from by first | exact oz_1687f4cc65 e97 e133 | omega), (show (cf123 48).toInt = (cf 48).toInt from by first | exact oz_1687f4cc65 e95 e131 | omega), (show (cf123 54).toInt = (cf 54).toInt from by first | exact oz_1687f4cc65 hkk54_e91 e140 | omega), (show (cf123 55).toInt = (cf 55).toInt from by first | exact oz_1687f4cc65 hkk55_e91 e141 | omega), (show (cf123 59).toInt = (cf 59).toInt from by first | exact oz_1687f4cc65 hkk59_e91 e143 | omega), (show Ann na ma0 ma87 from han), (show FrC lo hi ma ma87 from hfc), (show 0 ≤ (0 : Int) from by first | exact oz_5a341f00aa | omega), (show (0 : Int) ≤ 4096 from by first | exact oz_37065d99f6 | omega), (show 0 ≤ z150.toInt from by omega), (show z150.toInt ≤ 4096 from by omega), (show (0 : Int) ≤ 4 * z150.toInt from by omega), (show ZAv (upd cf123 58 0) ta na ma87 p0 (0 : Int) from (zr_no (by first | omega | (show 1 ≤ _; rw [pk_un (by decide)]; omega)))), (show R_mp_declareArray tf ta na ca p0 p1 ma cf ma87 (upd cf123 58 0) z150 from (Exists.intro 1 (Or.inl ⟨rfl, z84, ez84, ma87, cf88, v90, e102, Or.inl ⟨nc103, z105, ez105, Or.inl ⟨nc106, z108, ez108, Or.inr ⟨nc109, z116, ez116, z117, ez117, z118, ez118, Or.inl ⟨nc119, z121, ez121, cf123, e145, Or.inr ⟨nc147, z149, ez149, z150, ez150, rfl, rfl, rfl⟩⟩⟩⟩⟩⟩)))⟩) d_Mpg_declareArray_208
        · have nc119 : ¬ p1.toInt = (0 : Int) := mt (i_eq (x := p1) (y := 0)).mpr c119
          refine lv_iload_n S.x S.b d_Mpg_declareArray_154 rfl (lv_at hl 1 rfl) ?_
          refine lv_if_lt (tgt := 176) S.x S.b d_Mpg_declareArray_155 (by decide) (fun c151 => ?_) (fun c151 => ?_)
          ·
            refine lv_aload_n S.x S.b d_Mpg_declareArray_176 rfl (lv_at hl 2 rfl) ?_
            refine lv_iload_n S.x S.b d_Mpg_declareArray_177 rfl (lv_at hl 1 rfl) ?_
            refine lv_if_ge (tgt := 185) S.x S.b d_Mpg_declareArray_178 (by decide) (fun c152 => ?_) (fun c152 => ?_)
            · exact absurd c152 (by decide)
            ·
              refine lv_iconst (v := 0) S.x S.b d_Mpg_declareArray_181 (by decide) ?_
              refine lv_goto (tgt := 186) S.x S.b d_Mpg_declareArray_182 (by decide) ?_
              refine px_put S k_Mpg hT hw 0 0 58 rfl rfl (by decide) m10_55 rfl rfl rfl (Nat.le_of_ble_eq_true rfl) d_Mpg_declareArray_186 (w' := wdP cs h r g tf ta pf na ma87 wa (upd cf88 58 0) ca ef ea xf xa) (ps' := [wdP cs h r g tf ta pf na ma87 wa (upd cf88 58 0) ca ef ea xf xa]) rfl rfl (fun H locs hw => ?_)
              refine lv_iload_n S.x S.b d_Mpg_declareArray_189 rfl (lv_at hl 4 rfl) ?_
              refine lv_if_eq (tgt := 204) S.x S.b d_Mpg_declareArray_190 (by decide) (fun c153 => ?_) (fun c153 => ?_)
              · have nc153 : p1.toInt = (0 : Int) := (i_eq (x := p1) (y := 0)).mp c153
                refine lv_aload_n S.x S.b d_Mpg_declareArray_204 rfl (lv_at hl 2 rfl) ?_
                refine px_get S k_Mpg hT hw 0 0 58 (v := .int 0) rfl rfl rfl (by decide) m10_55 d_Mpg_declareArray_205 ?_
                exact px_iret (v := 0) S hr rfl hlk hAe hw (Nat.le_of_ble_eq_true rfl) (Nat.le_of_ble_eq_true rfl) (⟨ma87, (upd cf88 58 0), rfl, (show (cf88 30).toInt = 0 → (cf 30).toInt = 0 from by first | exact hkz_e91 | omega), (show WrV (upd cf88 58 0) (tf 6).toInt from (WrV.u hwr (by decide) (by decide))), (show (cf88 33).toInt = (cf 33).toInt from by first | exact e93 | omega), (show (cf88 37).toInt = (cf 37).toInt from by first | exact hkk37_e91 | omega), (show (cf88 38).toInt = (cf 38).toInt from by first | exact e94 | omega), (show (cf88 41).toInt = (cf 41).toInt from by first | exact hkk41_e91 | omega), (show (cf88 42).toInt = (cf 42).toInt from by first | exact hkk42_e91 | omega), (show (cf88 43).toInt = (cf 43).toInt from by first | exact hkk43_e91 | omega), (show (cf88 44).toInt = (cf 44).toInt from by first | exact hkk44_e91 | omega), (show (cf88 45).toInt = (cf 45).toInt from by first | exact hkk45_e91 | omega), (show (cf88 46).toInt = (cf 46).toInt from by first | exact e96 | omega), (show (cf88 47).toInt = (cf 47).toInt from by first | exact e97 | omega), (show (cf88 48).toInt = (cf 48).toInt from by first | exact e95 | omega), (show (cf88 54).toInt = (cf 54).toInt from by first | exact hkk54_e91 | omega), (show (cf88 55).toInt = (cf 55).toInt from by first | exact hkk55_e91 | omega), (show (cf88 59).toInt = (cf 59).toInt from by first | exact hkk59_e91 | omega), (show Ann na ma0 ma87 from han), (show FrC lo hi ma ma87 from hfc), (show 0 ≤ (0 : Int) from by first | exact oz_5a341f00aa | omega), (show (0 : Int) ≤ 4096 from by first | exact oz_37065d99f6 | omega), (show 0 ≤ (0 : Int) from by first | exact oz_5a341f00aa | omega), (show (0 : Int) ≤ 4096 from by first | exact oz_37065d99f6 | omega), (show (0 : Int) ≤ 4 * (0 : Int) from by first | exact oz_397c02ad98 | omega), (show ZAv (upd cf88 58 0) ta na ma87 p0 (0 : Int) from (ZAvF (by first | exact zr_no (by omega) | exact zr_no (by omega) | exact zav_0 han (by omega) (by have hav0 := hav.k0; omega) | exact zav_2 han (by omega) (by omega) hrl (by omega) (by omega) (by omega) | exact zav_3 han (by omega) (by omega) ha_z116 (by omega)))), (show R_mp_declareArray tf ta na ca p0 p1 ma cf ma87 (upd cf88 58 0) (0 : Int32) from (Exists.intro 1 (Or.inl ⟨rfl, z84, ez84, ma87, cf88, v90, e102, Or.inl ⟨nc103, z105, ez105, Or.inl ⟨nc106, z108, ez108, Or.inr ⟨nc109, z116, ez116, z117, ez117, z118, ez118, Or.inr ⟨nc119, Or.inl ⟨nc153, rfl, rfl, rfl⟩⟩⟩⟩⟩⟩)))⟩) d_Mpg_declareArray_208
              · have nc153 : ¬ p1.toInt = (0 : Int) := mt (i_eq (x := p1) (y := 0)).mpr c153
                refine lv_aload_n S.x S.b d_Mpg_declareArray_193 rfl (lv_at hl 2 rfl) ?_
                refine px_get S k_Mpg hT hw 0 0 58 (v := .int 0) rfl rfl rfl (by decide) m10_55 d_Mpg_declareArray_194 ?_
                refine lv_iconst (v := 3) S.x S.b d_Mpg_declareArray_197 (by decide) ?_
                refine lv_iadd S.x S.b d_Mpg_declareArray_198 ?_
                refine lv_topi (fun z155 ez155 => ?_)
                have tz155 : z155.toInt = ((0 : Int) + (3 : Int) + 2147483648) % 4294967296 - 2147483648 := by rw [ez155]; exact i_add 0 3
                have lz155 := Int32.le_toInt z155
                have uz155 := Int32.toInt_lt z155
                try replace tz155 : z155.toInt = (0 : Int) + (3 : Int) := by omega
                refine lv_iconst (v := 4) S.x S.b d_Mpg_declareArray_199 (by decide) ?_
                refine lv_idiv S.x S.b d_Mpg_declareArray_200 (fun hz0 => by have hz1 := i_eq.mp hz0; omega) ?_
                refine lv_topi (fun z156 ez156 => ?_)
                have lz156 := Int32.le_toInt z156
                have uz156 := Int32.toInt_lt z156
                have hd4 := i_div4 ez156 (by omega)
                refine lv_goto (tgt := 208) S.x S.b d_Mpg_declareArray_201 (by decide) ?_
                exact px_iret (v := z156) S hr rfl hlk hAe hw (Nat.le_of_ble_eq_true rfl) (Nat.le_of_ble_eq_true rfl) (⟨ma87, (upd cf88 58 0), rfl, (show (cf88 30).toInt = 0 → (cf 30).toInt = 0 from by first | exact hkz_e91 | omega), (show WrV (upd cf88 58 0) (tf 6).toInt from (WrV.u hwr (by decide) (by decide))), (show (cf88 33).toInt = (cf 33).toInt from by first | exact e93 | omega), (show (cf88 37).toInt = (cf 37).toInt from by first | exact hkk37_e91 | omega), (show (cf88 38).toInt = (cf 38).toInt from by first | exact e94 | omega), (show (cf88 41).toInt = (cf 41).toInt from by first | exact hkk41_e91 | omega), (show (cf88 42).toInt = (cf 42).toInt from by first | exact hkk42_e91 | omega), (show (cf88 43).toInt = (cf 43).toInt from by first | exact hkk43_e91 | omega), (show (cf88 44).toInt = (cf 44).toInt from by first | exact hkk44_e91 | omega), (show (cf88 45).toInt = (cf 45).toInt from by first | exact hkk45_e91 | omega), (show (cf88 46).toInt = (cf 46).toInt from by first | exact e96 | omega), (show (cf88 47).toInt = (cf 47).toInt from by first | exact e97 | omega), (show (cf88 48).toInt = (cf 48).toInt from by first | exact e95 | omega), (show (cf88 54).toInt = (cf 54).toInt from by first | exact hkk54_e91 | omega), (show (cf88 55).toInt = (cf 55).toInt from by first | exact hkk55_e91 | omega), (show (cf88 59).toInt = (cf 59).toInt from by first | exact hkk59_e91 | omega), (show Ann na ma0 ma87 from han), (show FrC lo hi ma ma87 from hfc), (show 0 ≤ (0 : Int) from by first | exact oz_5a341f00aa | omega), (show (0 : Int) ≤ 4096 from by first | exact oz_37065d99f6 | omega), (show 0 ≤ z156.toInt from by omega), (show z156.toInt ≤ 4096 from by omega), (show (0 : Int) ≤ 4 * z156.toInt from by omega), (show ZAv (upd cf88 58 0) ta na ma87 p0 (0 : Int) from (ZAvF (by first | exact zr_no (by omega) | exact zr_no (by omega) | exact zav_0 han (by omega) (by have hav0 := hav.k0; omega) | exact zav_2 han (by omega) (by omega) hrl (by omega) (by omega) (by omega) | exact zav_3 han (by omega) (by omega) ha_z116 (by omega)))), (show R_mp_declareArray tf ta na ca p0 p1 ma cf ma87 (upd cf88 58 0) z156 from (Exists.intro 1 (Or.inl ⟨rfl, z84, ez84, ma87, cf88, v90, e102, Or.inl ⟨nc103, z105, ez105, Or.inl ⟨nc106, z108, ez108, Or.inr ⟨nc109, z116, ez116, z117, ez117, z118, ez118, Or.inr ⟨nc119, Or.inr ⟨nc153, z155, ez155, z156, ez156, rfl, rfl, rfl⟩⟩⟩⟩⟩⟩)))⟩) d_Mpg_declareArray_208
          · exact absurd c151 (by decide)
    · have nc106 : z105.toInt = (2 : Int) := (i_eq (x := z105) (y := 2)).mp c106
      refine lv_iconst (v := 0) S.x S.b d_Mpg_declareArray_62 (by decide) ?_
      refine lv_istore (lv' := [(4, .int 0), (3, .int (-1)), (0, .ref h), (1, .int p0), (2, .int p1)]) S.x S.b d_Mpg_declareArray_63 hl (by decide) rfl (fun ls hl => ?_)
      refine lv_aload_n S.x S.b d_Mpg_declareArray_65 rfl (lv_at hl 2 rfl) ?_
      refine px_get S k_Mpg hT hw 0 0 18 (v := .ref (r 18)) rfl rfl rfl (by decide) m10_3 d_Mpg_declareArray_66 ?_
      refine lv_iload_n S.x S.b d_Mpg_declareArray_69 rfl (lv_at hl 3 rfl) ?_
      refine px_iald S hT hw 0 14 (n := 2100) (f := (ma87 18)) rfl gp_18 (x := p0) (vp_in_iff.mpr (by first | exact oz_a7e05de1cd hvr.2.2.1 hvr.2.1 g1 g2 | (constructor <;> omega))) d_Mpg_declareArray_70 ?_
      refine lv_topi (fun z157 ez157 => ?_)
      have lz157 := Int32.le_toInt z157
      have uz157 := Int32.toInt_lt z157
      obtain ⟨⟨wr, hrv, hwr9⟩, h19a, h19b⟩ := hav.k2 (by omega); have ha_z157 : z157 = ma0 18 p0.toNatClampNeg := ez157.trans (Ann.v18 han (by omega))
      refine lv_istore (lv' := [(5, .int z157), (4, .int 0), (3, .int (-1)), (0, .ref h), (1, .int p0), (2, .int p1)]) S.x S.b d_Mpg_declareArray_71 hl (by decide) rfl (fun ls hl => ?_)
      exact J73 ((hi - m1).toNat + 1) ma87 cf88 m1 wr (-1) (0 : Int32) z157 _ _ ls (show (cf88 30).toInt = 0 → (cf 30).toInt = 0 from by first | exact hkz_e91 | omega) (show WrV cf88 (tf 6).toInt from hwr) (show (cf88 33).toInt = (cf 33).toInt from by first | exact e93 | omega) (show (cf88 37).toInt = (cf 37).toInt from by first | exact hkk37_e91 | omega) (show (cf88 38).toInt = (cf 38).toInt from by first | exact e94 | omega) (show (cf88 41).toInt = (cf 41).toInt from by first | exact hkk41_e91 | omega) (show (cf88 42).toInt = (cf 42).toInt from by first | exact hkk42_e91 | omega) (show (cf88 43).toInt = (cf 43).toInt from by first | exact hkk43_e91 | omega) (show (cf88 44).toInt = (cf 44).toInt from by first | exact hkk44_e91 | omega) (show (cf88 45).toInt = (cf 45).toInt from by first | exact hkk45_e91 | omega) (show (cf88 46).toInt = (cf 46).toInt from by first | exact e96 | omega) (show (cf88 47).toInt = (cf 47).toInt from by first | exact e97 | omega) (show (cf88 48).toInt = (cf 48).toInt from by first | exact e95 | omega) (show (cf88 54).toInt = (cf 54).toInt from by first | exact hkk54_e91 | omega) (show (cf88 55).toInt = (cf 55).toInt from by first | exact hkk55_e91 | omega) (show (cf88 59).toInt = (cf 59).toInt from by first | exact hkk59_e91 | omega) (show Ann na ma0 ma87 from han) (show FrC lo hi ma ma87 from hfc) (show -1 ≤ (-1 : Int) from by first | exact oz_268d846349 | omega) (show (-1 : Int) ≤ 4096 from by first | exact oz_42d99b7330 | omega) (show (-1 : Int) = -1 → 1 ≤ (cf88 30).toInt from by omega) (show 0 ≤ (0 : Int) from by first | exact oz_5a341f00aa | omega) (show (0 : Int) + m1 ≤ m1 from by first | exact oz_05158eb67a | omega) (show m1 ≤ m1 from by first | exact oz_1cb5f934a5 | omega) (show m1 ≤ hi from by first | exact hm2 | omega) (show (ma0 22 p0.toNatClampNeg).toInt = 2 from by first | exact oz_70422203cd rz105 nc106 | omega) (show RvI ta (tf 6).toInt na ma0 d m1 hi wr z157 from (by rw [ha_z157]; exact hrv)) (show RlC na (ma0 18 p0.toNatClampNeg) z157 (0 : Int) from (by rw [ha_z157]; exact rlc_0)) (show K_mp_declareArray_73 tf ta na ca p0 p1 ma cf ma87 cf88 (-1) 0 z157 from (fun y_f0 y_f1 y_v k hE => Exists.intro (k + 1) (Or.inl ⟨rfl, z84, ez84, ma87, cf88, v90, e102, Or.inl ⟨nc103, z105, ez105, Or.inr ⟨nc106, z157, ez157, hE⟩⟩⟩))) (show hi - m1 < ((((hi - m1).toNat + 1 : Nat) : Int) : Int) from by first | exact oz_natlt | omega) hw (lv_sub hl [3, 4, 5, 2, 1, 0] rfl)
  · have nc103 : ¬ v90.toInt = (0 : Int) := mt (i_eq (x := v90) (y := 0)).mpr c103
    refine lv_aload_n S.x S.b d_Mpg_declareArray_15 rfl (lv_at hl 1 rfl) ?_
    refine px_get S k_Mpg hT hw 0 0 57 (v := .int (cf88 57)) rfl rfl rfl (by decide) m10_54 d_Mpg_declareArray_16 ?_
    refine lv_istore_n (lv' := [(3, .int (cf88 57)), (0, .ref h), (1, .int p0), (2, .int p1)]) S.x S.b d_Mpg_declareArray_19 rfl hl (by decide) rfl (fun ls hl => ?_)
    refine lv_iload_n S.x S.b d_Mpg_declareArray_20 rfl (lv_at hl 0 rfl) ?_
    refine lv_iconst (v := 1) S.x S.b d_Mpg_declareArray_21 (by decide) ?_
    refine lv_icmp_lt (tgt := 32) S.x S.b d_Mpg_declareArray_22 (by decide) (fun c158 => ?_) (fun c158 => ?_)
    · have nc158 : (cf88 57).toInt < (1 : Int) := (i_lt (x := (cf88 57)) (y := 1)).mp c158
      refine lv_aload_n S.x S.b d_Mpg_declareArray_32 rfl (lv_at hl 1 rfl) ?_
      refine lv_bipush (v := 8) S.x S.b d_Mpg_declareArray_33 (by decide) ?_
      refine lv_aload_n S.x S.b d_Mpg_declareArray_35 rfl (lv_at hl 1 rfl) ?_
      refine lv_aload_n S.x S.b d_Mpg_declareArray_36 rfl (lv_at hl 1 rfl) ?_
      refine px_get S k_Mpg hT hw 0 0 17 (v := .ref (r 17)) rfl rfl rfl (by decide) m10_1 d_Mpg_declareArray_37 ?_
      refine lv_iload_n S.x S.b d_Mpg_declareArray_40 rfl (lv_at hl 2 rfl) ?_
      refine px_iald S hT hw 0 13 (n := 2100) (f := (na 17)) rfl gp_17 (x := p0) (vp_in_iff.mpr (by first | exact oz_a7e05de1cd hvr.2.2.1 hvr.2.1 g1 g2 | (constructor <;> omega))) d_Mpg_declareArray_41 ?_
      refine lv_topi (fun z160 ez160 => ?_)
      have lz160 := Int32.le_toInt z160
      have uz160 := Int32.toInt_lt z160
      have rz160 : z160.toInt = (na 17 p0.toNatClampNeg).toInt := by rw [ez160]
      have hqz160 : z160.toInt = (na 17 p0.toNatClampNeg).toInt := (by rw [ez160])
      refine px_calli (pr := []) (px_runV (As := [.int z160]) (rest := [.int 8, .ref h]) S (c_mp_first l D cs h r g tf ta pf na ma87 wa cf88 ca ef ea xf xa z160  (show 0 ≤ z160.toInt from by first | exact oz_f3ebed1ad0 rz160 g23 | omega) (show z160.toInt < (pf 13).toInt from by omega) (show (pf 13).toInt ≤ 2100 from by first | exact g2 | omega) htk (FsI.le (N' := (pf 13).toInt) hfs (by omega)) _) hT (pr := []) (pcs := [wdP cs h r g tf ta pf na ma87 wa cf88 ca ef ea xf xa]) hw px_X.tt (px_recv hT hw 0 0 rfl rfl rfl) m13_9 m13_6 m13_8 ms_12_15 m1_21 q_Mpg_first ⟨show 0 + 1 ≤ (4 * d + 20) from (by first | exact oz_8385159a22 | omega), show 8 + (2 + 11) + 0 ≤ (200 * d + 700) from (by first | exact oz_ddfb5238da | omega)⟩ hl.1 rfl (Nat.le_of_ble_eq_true rfl) d_Mpg_declareArray_42 ⟨Nat.le_of_ble_eq_true rfl, Nat.le_of_ble_eq_true rfl⟩) hw hA (fun v162 p161 H locs hp161 hw => ?_)
      obtain ⟨rfl, e163, e164, e165⟩ := hp161
      have e163 : 0 ≤ v162.toInt := e163
      have e164 : v162.toInt < (tf 6).toInt := e164
      have e165 : R_mp_first na z160 v162 := e165
      have hw : pw D A s.heap H locs [wdP cs h r g tf ta pf na ma87 wa cf88 ca ef ea xf xa] := hw
      have lv162 := Int32.le_toInt v162
      have uv162 := Int32.toInt_lt v162
      refine px_callv (pr := []) (px_runV (As := [.int 8, .int v162]) (rest := []) S (c_mp_bad l D cs h r g tf ta pf na ma87 wa ca ef ea xf xa cf88 8 v162  (show 1 ≤ (8 : Int) from by first | exact oz_fe427bacb1 | omega) (show 0 ≤ v162.toInt from by first | exact e163 | omega) (show v162.toInt < (tf 6).toInt from by first | exact e164 | omega) htk hwr _) hT (pr := []) (pcs := [wdP cs h r g tf ta pf na ma87 wa cf88 ca ef ea xf xa]) hw px_X.tt (px_recv hT hw 0 0 rfl rfl rfl) m12_173 m12_170 m12_172 ms_11_12 m1_21 q_Mpg_bad ⟨show 0 + 1 ≤ (4 * d + 20) from (by first | exact oz_8385159a22 | omega), show 8 + (3 + 11) + 0 ≤ (200 * d + 700) from (by first | exact oz_a3cd9048d3 | omega)⟩ hl.1 rfl (Nat.le_of_ble_eq_true rfl) d_Mpg_declareArray_45 ⟨Nat.le_of_ble_eq_true rfl, Nat.le_of_ble_eq_true rfl⟩) hw hA (fun p168 H locs hp168 hw => ?_)
      obtain ⟨cf167, rfl, e170, e171, e172, e173, e174, e175, e176, e177, e178, e179, e180, e181, e182, e183, e184, e185, e186, e187, e188, e189⟩ := hp168
      have e170 : KpE cf88 cf167 := e170
      have hkz_e170 := e170.2
      have e171 : WrV cf167 (tf 6).toInt := e171
      have hwr := e171
      have hw0_e171 := hwr.1
      have e172 : 1 ≤ (cf167 30).toInt := e172
      have e173 : (cf167 33).toInt = (cf88 33).toInt := e173
      have e174 : (cf167 38).toInt = (cf88 38).toInt := e174
      have e175 : (cf167 48).toInt = (cf88 48).toInt := e175
      have e176 : (cf167 46).toInt = (cf88 46).toInt := e176
      have e177 : (cf167 47).toInt = (cf88 47).toInt := e177
      have e178 : (cf167 57).toInt = (cf88 57).toInt := e178
      have e179 : (cf167 37).toInt = (cf88 37).toInt := e179
      have e180 : (cf167 42).toInt = (cf88 42).toInt := e180
      have e181 : (cf167 43).toInt = (cf88 43).toInt := e181
      have e182 : (cf167 44).toInt = (cf88 44).toInt := e182
      have e183 : (cf167 45).toInt = (cf88 45).toInt := e183
      have e184 : (cf167 54).toInt = (cf88 54).toInt := e184
      have e185 : (cf167 55).toInt = (cf88 55).toInt := e185
      have e186 : (cf167 58).toInt = (cf88 58).toInt := e186
      have e187 : (cf167 59).toInt = (cf88 59).toInt := e187
      have e188 : (cf167 41).toInt = (cf88 41).toInt := e188
      have e189 : R_mp_bad (8 : Int32) v162 cf88 cf167 := e189
      have hw : pw D A s.heap H locs [wdP cs h r g tf ta pf na ma87 wa cf167 ca ef ea xf xa] := hw
      refine lv_sipush (v := 4096) S.x S.b d_Mpg_declareArray_48 (by decide) ?_
      refine lv_istore_n (lv' := [(3, .int 4096), (0, .ref h), (1, .int p0), (2, .int p1)]) S.x S.b d_Mpg_declareArray_51 rfl hl (by decide) rfl (fun ls hl => ?_)
      refine lv_aload_n S.x S.b d_Mpg_declareArray_52 rfl (lv_at hl 1 rfl) ?_
      refine px_get S k_Mpg hT hw 0 0 22 (v := .ref (r 22)) rfl rfl rfl (by decide) m10_9 d_Mpg_declareArray_53 ?_
      refine lv_iload_n S.x S.b d_Mpg_declareArray_56 rfl (lv_at hl 2 rfl) ?_
      refine px_iald S hT hw 0 18 (n := 2100) (f := (ma87 22)) rfl gp_22 (x := p0) (vp_in_iff.mpr (by first | exact oz_a7e05de1cd hvr.2.2.1 hvr.2.1 g1 g2 | (constructor <;> omega))) d_Mpg_declareArray_57 ?_
      refine lv_topi (fun z190 ez190 => ?_)
      have lz190 := Int32.le_toInt z190
      have uz190 := Int32.toInt_lt z190
      have rz190 : z190.toInt = (ma0 22 p0.toNatClampNeg).toInt := (by rw [ez190, Ann.v22 han (by omega)])
      refine lv_iconst (v := 2) S.x S.b d_Mpg_declareArray_58 (by decide) ?_
      refine lv_icmp_ne (tgt := 125) S.x S.b d_Mpg_declareArray_59 (by decide) (fun c191 => ?_) (fun c191 => ?_)
      · have nc191 : ¬ z190.toInt = (2 : Int) := mt (i_eq (x := z190) (y := 2)).mpr c191
        refine lv_aload_n S.x S.b d_Mpg_declareArray_125 rfl (lv_at hl 1 rfl) ?_
        refine px_get S k_Mpg hT hw 0 0 22 (v := .ref (r 22)) rfl rfl rfl (by decide) m10_9 d_Mpg_declareArray_126 ?_
        refine lv_iload_n S.x S.b d_Mpg_declareArray_129 rfl (lv_at hl 2 rfl) ?_
        refine px_iald S hT hw 0 18 (n := 2100) (f := (ma87 22)) rfl gp_22 (x := p0) (vp_in_iff.mpr (by first | exact oz_a7e05de1cd hvr.2.2.1 hvr.2.1 g1 g2 | (constructor <;> omega))) d_Mpg_declareArray_130 ?_
        refine lv_topi (fun z193 ez193 => ?_)
        have lz193 := Int32.le_toInt z193
        have uz193 := Int32.toInt_lt z193
        have rz193 : z193.toInt = (ma0 22 p0.toNatClampNeg).toInt := (by rw [ez193, Ann.v22 han (by omega)])
        refine lv_iconst (v := 3) S.x S.b d_Mpg_declareArray_131 (by decide) ?_
        refine lv_icmp_ne (tgt := 176) S.x S.b d_Mpg_declareArray_132 (by decide) (fun c194 => ?_) (fun c194 => ?_)
        · have nc194 : ¬ z193.toInt = (3 : Int) := mt (i_eq (x := z193) (y := 3)).mpr c194
          refine lv_aload_n S.x S.b d_Mpg_declareArray_176 rfl (lv_at hl 1 rfl) ?_
          refine lv_iload_n S.x S.b d_Mpg_declareArray_177 rfl (lv_at hl 0 rfl) ?_
          refine lv_if_ge (tgt := 185) S.x S.b d_Mpg_declareArray_178 (by decide) (fun c196 => ?_) (fun c196 => ?_)
          ·
            refine lv_iload_n S.x S.b d_Mpg_declareArray_185 rfl (lv_at hl 0 rfl) ?_
            refine px_put S k_Mpg hT hw 0 0 58 rfl rfl (by decide) m10_55 rfl rfl rfl (Nat.le_of_ble_eq_true rfl) d_Mpg_declareArray_186 (w' := wdP cs h r g tf ta pf na ma87 wa (upd cf167 58 4096) ca ef ea xf xa) (ps' := [wdP cs h r g tf ta pf na ma87 wa (upd cf167 58 4096) ca ef ea xf xa]) rfl rfl (fun H locs hw => ?_)
            refine lv_iload_n S.x S.b d_Mpg_declareArray_189 rfl (lv_at hl 3 rfl) ?_
            refine lv_if_eq (tgt := 204) S.x S.b d_Mpg_declareArray_190 (by decide) (fun c197 => ?_) (fun c197 => ?_)
            · have nc197 : p1.toInt = (0 : Int) := (i_eq (x := p1) (y := 0)).mp c197
              refine lv_aload_n S.x S.b d_Mpg_declareArray_204 rfl (lv_at hl 1 rfl) ?_
              refine px_get S k_Mpg hT hw 0 0 58 (v := .int 4096) rfl rfl rfl (by decide) m10_55 d_Mpg_declareArray_205 ?_
              exact px_iret (v := 4096) S hr rfl hlk hAe hw (Nat.le_of_ble_eq_true rfl) (Nat.le_of_ble_eq_true rfl) (⟨ma87, (upd cf167 58 4096), rfl, (show (cf167 30).toInt = 0 → (cf 30).toInt = 0 from by omega), (show WrV (upd cf167 58 4096) (tf 6).toInt from (WrV.u hwr (by decide) (by decide))), (show (cf167 33).toInt = (cf 33).toInt from by first | exact oz_1687f4cc65 e93 e173 | omega), (show (cf167 37).toInt = (cf 37).toInt from by first | exact oz_1687f4cc65 hkk37_e91 e179 | omega), (show (cf167 38).toInt = (cf 38).toInt from by first | exact oz_1687f4cc65 e94 e174 | omega), (show (cf167 41).toInt = (cf 41).toInt from by first | exact oz_1687f4cc65 hkk41_e91 e188 | omega), (show (cf167 42).toInt = (cf 42).toInt from by first | exact oz_1687f4cc65 hkk42_e91 e180 | omega), (show (cf167 43).toInt = (cf 43).toInt from by first | exact oz_1687f4cc65 hkk43_e91 e181 | omega), (show (cf167 44).toInt = (cf 44).toInt from by first | exact oz_1687f4cc65 hkk44_e91 e182 | omega), (show (cf167 45).toInt = (cf 45).toInt from by first | exact oz_1687f4cc65 hkk45_e91 e183 | omega), (show (cf167 46).toInt = (cf 46).toInt from by first | exact oz_1687f4cc65 e96 e176 | omega), (show (cf167 47).toInt = (cf 47).toInt from by first | exact oz_1687f4cc65 e97 e177 | omega), (show (cf167 48).toInt = (cf 48).toInt from by first | exact oz_1687f4cc65 e95 e175 | omega), (show (cf167 54).toInt = (cf 54).toInt from by first | exact oz_1687f4cc65 hkk54_e91 e184 | omega), (show (cf167 55).toInt = (cf 55).toInt from by first | exact oz_1687f4cc65 hkk55_e91 e185 | omega), (show (cf167 59).toInt = (cf 59).toInt from by first | exact oz_1687f4cc65 hkk59_e91 e187 | omega), (show Ann na ma0 ma87 from han), (show FrC lo hi ma ma87 from hfc), (show 0 ≤ (4096 : Int) from by first | exact oz_0229090d46 | omega), (show (4096 : Int) ≤ 4096 from by first | exact oz_44e5be0b59 | omega), (show 0 ≤ (4096 : Int) from by first | exact oz_0229090d46 | omega), (show (4096 : Int) ≤ 4096 from by first | exact oz_44e5be0b59 | omega), (show (4096 : Int) ≤ 4 * (4096 : Int) from by first | exact oz_e232d82f68 | omega), (show ZAv (upd cf167 58 4096) ta na ma87 p0 (4096 : Int) from (zr_no (by first | omega | (show 1 ≤ _; rw [pk_un (by decide)]; omega)))), (show R_mp_declareArray tf ta na ca p0 p1 ma cf ma87 (upd cf167 58 4096) (4096 : Int32) from (Exists.intro 1 (Or.inl ⟨rfl, z84, ez84, ma87, cf88, v90, e102, Or.inr ⟨nc103, Or.inl ⟨nc158, z160, ez160, v162, e165, cf167, e189, z190, ez190, Or.inl ⟨nc191, z193, ez193, Or.inl ⟨nc194, Or.inl ⟨nc197, rfl, rfl, rfl⟩⟩⟩⟩⟩⟩)))⟩) d_Mpg_declareArray_208
            · have nc197 : ¬ p1.toInt = (0 : Int) := mt (i_eq (x := p1) (y := 0)).mpr c197
              refine lv_aload_n S.x S.b d_Mpg_declareArray_193 rfl (lv_at hl 1 rfl) ?_
              refine px_get S k_Mpg hT hw 0 0 58 (v := .int 4096) rfl rfl rfl (by decide) m10_55 d_Mpg_declareArray_194 ?_
              refine lv_iconst (v := 3) S.x S.b d_Mpg_declareArray_197 (by decide) ?_
              refine lv_iadd S.x S.b d_Mpg_declareArray_198 ?_
              refine lv_topi (fun z199 ez199 => ?_)
              have tz199 : z199.toInt = ((4096 : Int) + (3 : Int) + 2147483648) % 4294967296 - 2147483648 := by rw [ez199]; exact i_add 4096 3
              have lz199 := Int32.le_toInt z199
              have uz199 := Int32.toInt_lt z199
              try replace tz199 : z199.toInt = (4096 : Int) + (3 : Int) := by omega
              refine lv_iconst (v := 4) S.x S.b d_Mpg_declareArray_199 (by decide) ?_
              refine lv_idiv S.x S.b d_Mpg_declareArray_200 (fun hz0 => by have hz1 := i_eq.mp hz0; omega) ?_
              refine lv_topi (fun z200 ez200 => ?_)
              have lz200 := Int32.le_toInt z200
              have uz200 := Int32.toInt_lt z200
              have hd4 := i_div4 ez200 (by omega)
              refine lv_goto (tgt := 208) S.x S.b d_Mpg_declareArray_201 (by decide) ?_
              exact px_iret (v := z200) S hr rfl hlk hAe hw (Nat.le_of_ble_eq_true rfl) (Nat.le_of_ble_eq_true rfl) (⟨ma87, (upd cf167 58 4096), rfl, (show (cf167 30).toInt = 0 → (cf 30).toInt = 0 from by omega), (show WrV (upd cf167 58 4096) (tf 6).toInt from (WrV.u hwr (by decide) (by decide))), (show (cf167 33).toInt = (cf 33).toInt from by first | exact oz_1687f4cc65 e93 e173 | omega), (show (cf167 37).toInt = (cf 37).toInt from by first | exact oz_1687f4cc65 hkk37_e91 e179 | omega), (show (cf167 38).toInt = (cf 38).toInt from by first | exact oz_1687f4cc65 e94 e174 | omega), (show (cf167 41).toInt = (cf 41).toInt from by first | exact oz_1687f4cc65 hkk41_e91 e188 | omega), (show (cf167 42).toInt = (cf 42).toInt from by first | exact oz_1687f4cc65 hkk42_e91 e180 | omega), (show (cf167 43).toInt = (cf 43).toInt from by first | exact oz_1687f4cc65 hkk43_e91 e181 | omega), (show (cf167 44).toInt = (cf 44).toInt from by first | exact oz_1687f4cc65 hkk44_e91 e182 | omega), (show (cf167 45).toInt = (cf 45).toInt from by first | exact oz_1687f4cc65 hkk45_e91 e183 | omega), (show (cf167 46).toInt = (cf 46).toInt from by first | exact oz_1687f4cc65 e96 e176 | omega), (show (cf167 47).toInt = (cf 47).toInt from by first | exact oz_1687f4cc65 e97 e177 | omega), (show (cf167 48).toInt = (cf 48).toInt from by first | exact oz_1687f4cc65 e95 e175 | omega), (show (cf167 54).toInt = (cf 54).toInt from by first | exact oz_1687f4cc65 hkk54_e91 e184 | omega), (show (cf167 55).toInt = (cf 55).toInt from by first | exact oz_1687f4cc65 hkk55_e91 e185 | omega), (show (cf167 59).toInt = (cf 59).toInt from by first | exact oz_1687f4cc65 hkk59_e91 e187 | omega), (show Ann na ma0 ma87 from han), (show FrC lo hi ma ma87 from hfc), (show 0 ≤ (4096 : Int) from by first | exact oz_0229090d46 | omega), (show (4096 : Int) ≤ 4096 from by first | exact oz_44e5be0b59 | omega), (show 0 ≤ z200.toInt from by omega), (show z200.toInt ≤ 4096 from by omega), (show (4096 : Int) ≤ 4 * z200.toInt from by omega), (show ZAv (upd cf167 58 4096) ta na ma87 p0 (4096 : Int) from (zr_no (by first | omega | (show 1 ≤ _; rw [pk_un (by decide)]; omega)))), (show R_mp_declareArray tf ta na ca p0 p1 ma cf ma87 (upd cf167 58 4096) z200 from (Exists.intro 1 (Or.inl ⟨rfl, z84, ez84, ma87, cf88, v90, e102, Or.inr ⟨nc103, Or.inl ⟨nc158, z160, ez160, v162, e165, cf167, e189, z190, ez190, Or.inl ⟨nc191, z193, ez193, Or.inl ⟨nc194, Or.inr ⟨nc197, z199, ez199, z200, ez200, rfl, rfl, rfl⟩⟩⟩⟩⟩⟩)))⟩) d_Mpg_declareArray_208
          · exact absurd c196 (by decide)
        · have nc194 : z193.toInt = (3 : Int) := (i_eq (x := z193) (y := 3)).mp c194
          refine lv_aload_n S.x S.b d_Mpg_declareArray_135 rfl (lv_at hl 1 rfl) ?_
          refine px_get S k_Mpg hT hw 0 0 10 (v := .ref (r 10)) rfl rfl rfl (by decide) m9_234 d_Mpg_declareArray_136 ?_
          refine lv_aload_n S.x S.b d_Mpg_declareArray_139 rfl (lv_at hl 1 rfl) ?_
          refine px_get S k_Mpg hT hw 0 0 19 (v := .ref (r 19)) rfl rfl rfl (by decide) m10_5 d_Mpg_declareArray_140 ?_
          refine lv_iload_n S.x S.b d_Mpg_declareArray_143 rfl (lv_at hl 2 rfl) ?_
          refine px_iald S hT hw 0 15 (n := 2100) (f := (ma87 19)) rfl gp_19 (x := p0) (vp_in_iff.mpr (by first | exact oz_a7e05de1cd hvr.2.2.1 hvr.2.1 g1 g2 | (constructor <;> omega))) d_Mpg_declareArray_144 ?_
          refine lv_topi (fun z201 ez201 => ?_)
          have lz201 := Int32.le_toInt z201
          have uz201 := Int32.toInt_lt z201
          have ha_z201 : z201 = ma0 19 p0.toNatClampNeg := ez201.trans (Ann.v19 han (by omega)); have hn_z201 : z201.toInt = (ma0 19 p0.toNatClampNeg).toInt := (by rw [ha_z201]); have hk3 := hav.k3 (by omega); rw [← ha_z201] at hk3
          refine px_iald S hT hw 0 9 (n := 2060) (f := (ta 10)) rfl gp_10 (x := z201) (vp_in_iff.mpr (by first | exact oz_8859ebd461 hn_z201 hk3.1 hk3.2.1 g3 | (constructor <;> omega))) d_Mpg_declareArray_145 ?_
          refine lv_topi (fun z202 ez202 => ?_)
          have lz202 := Int32.le_toInt z202
          have uz202 := Int32.toInt_lt z202
          have rz202 : z202.toInt = wh ta z201 := by rw [ez202]; rfl
          have hw4 := tk_w4 htk (x := z201) (by omega) (by omega) ez202 (by omega)
          refine lv_iconst (v := 1) S.x S.b d_Mpg_declareArray_146 (by decide) ?_
          refine lv_iadd S.x S.b d_Mpg_declareArray_147 ?_
          refine lv_topi (fun z203 ez203 => ?_)
          have tz203 : z203.toInt = (z202.toInt + (1 : Int) + 2147483648) % 4294967296 - 2147483648 := by rw [ez203]; exact i_add z202 1
          have lz203 := Int32.le_toInt z203
          have uz203 := Int32.toInt_lt z203
          try replace tz203 : z203.toInt = z202.toInt + (1 : Int) := by omega
          refine lv_istore (lv' := [(4, .int z203), (3, .int 4096), (0, .ref h), (1, .int p0), (2, .int p1)]) S.x S.b d_Mpg_declareArray_148 hl (by decide) rfl (fun ls hl => ?_)
          refine lv_iload_n S.x S.b d_Mpg_declareArray_150 rfl (lv_at hl 4 rfl) ?_
          refine lv_if_eq (tgt := 164) S.x S.b d_Mpg_declareArray_151 (by decide) (fun c204 => ?_) (fun c204 => ?_)
          · have nc204 : p1.toInt = (0 : Int) := (i_eq (x := p1) (y := 0)).mp c204
            refine lv_aload_n S.x S.b d_Mpg_declareArray_164 rfl (lv_at hl 2 rfl) ?_
            refine lv_bipush (v := 8) S.x S.b d_Mpg_declareArray_165 (by decide) ?_
            refine lv_aload_n S.x S.b d_Mpg_declareArray_167 rfl (lv_at hl 2 rfl) ?_
            refine px_get S k_Mpg hT hw 0 0 19 (v := .ref (r 19)) rfl rfl rfl (by decide) m10_5 d_Mpg_declareArray_168 ?_
            refine lv_iload_n S.x S.b d_Mpg_declareArray_171 rfl (lv_at hl 3 rfl) ?_
            refine px_iald S hT hw 0 15 (n := 2100) (f := (ma87 19)) rfl gp_19 (x := p0) (vp_in_iff.mpr (by first | exact oz_a7e05de1cd hvr.2.2.1 hvr.2.1 g1 g2 | (constructor <;> omega))) d_Mpg_declareArray_172 ?_
            refine lv_topi (fun z206 ez206 => ?_)
            have lz206 := Int32.le_toInt z206
            have uz206 := Int32.toInt_lt z206
            have ha_z206 : z206 = ma0 19 p0.toNatClampNeg := ez206.trans (Ann.v19 han (by omega)); have hn_z206 : z206.toInt = (ma0 19 p0.toNatClampNeg).toInt := (by rw [ha_z206]); have hk3 := hav.k3 (by omega); rw [← ha_z206] at hk3
            refine px_callv (pr := []) (px_runV (As := [.int 8, .int z206]) (rest := []) S (c_mp_bad l D cs h r g tf ta pf na ma87 wa ca ef ea xf xa cf167 8 z206  (show 1 ≤ (8 : Int) from by first | exact oz_fe427bacb1 | omega) (show 0 ≤ z206.toInt from by first | exact oz_f3ebed1ad0 hn_z206 hk3.1 | omega) (show z206.toInt < (tf 6).toInt from by first | exact oz_b0a61accca hk3.2.1 hn_z206 | omega) htk hwr _) hT (pr := []) (pcs := [wdP cs h r g tf ta pf na ma87 wa cf167 ca ef ea xf xa]) hw px_X.tt (px_recv hT hw 0 0 rfl rfl rfl) m12_173 m12_170 m12_172 ms_11_12 m1_21 q_Mpg_bad ⟨show 0 + 1 ≤ (4 * d + 20) from (by first | exact oz_8385159a22 | omega), show 8 + (3 + 11) + 0 ≤ (200 * d + 700) from (by first | exact oz_a3cd9048d3 | omega)⟩ hl.1 rfl (Nat.le_of_ble_eq_true rfl) d_Mpg_declareArray_173 ⟨Nat.le_of_ble_eq_true rfl, Nat.le_of_ble_eq_true rfl⟩) hw hA (fun p209 H locs hp209 hw => ?_)
            obtain ⟨cf208, rfl, e211, e212, e213, e214, e215, e216, e217, e218, e219, e220, e221, e222, e223, e224, e225, e226, e227, e228, e229, e230⟩ := hp209
            have e211 : KpE cf167 cf208 := e211
            have hkz_e211 := e211.2
            have e212 : WrV cf208 (tf 6).toInt := e212
            have hwr := e212
            have hw0_e212 := hwr.1
            have e213 : 1 ≤ (cf208 30).toInt := e213
            have e214 : (cf208 33).toInt = (cf167 33).toInt := e214
            have e215 : (cf208 38).toInt = (cf167 38).toInt := e215
            have e216 : (cf208 48).toInt = (cf167 48).toInt := e216
            have e217 : (cf208 46).toInt = (cf167 46).toInt := e217
            have e218 : (cf208 47).toInt = (cf167 47).toInt := e218
            have e219 : (cf208 57).toInt = (cf167 57).toInt := e219
            have e220 : (cf208 37).toInt = (cf167 37).toInt := e220
            have e221 : (cf208 42).toInt = (cf167 42).toInt := e221
            have e222 : (cf208 43).toInt = (cf167 43).toInt := e222
            have e223 : (cf208 44).toInt = (cf167 44).toInt := e223
            have e224 : (cf208 45).toInt = (cf167 45).toInt := e224
            have e225 : (cf208 54).toInt = (cf167 54).toInt := e225
            have e226 : (cf208 55).toInt = (cf167 55).toInt := e226
            have e227 : (cf208 58).toInt = (cf167 58).toInt := e227
            have e228 : (cf208 59).toInt = (cf167 59).toInt := e228
            have e229 : (cf208 41).toInt = (cf167 41).toInt := e229
            have e230 : R_mp_bad (8 : Int32) z206 cf167 cf208 := e230
            have hw : pw D A s.heap H locs [wdP cs h r g tf ta pf na ma87 wa cf208 ca ef ea xf xa] := hw
            refine lv_aload_n S.x S.b d_Mpg_declareArray_176 rfl (lv_at hl 2 rfl) ?_
            refine lv_iload_n S.x S.b d_Mpg_declareArray_177 rfl (lv_at hl 1 rfl) ?_
            refine lv_if_ge (tgt := 185) S.x S.b d_Mpg_declareArray_178 (by decide) (fun c231 => ?_) (fun c231 => ?_)
            ·
              refine lv_iload_n S.x S.b d_Mpg_declareArray_185 rfl (lv_at hl 1 rfl) ?_
              refine px_put S k_Mpg hT hw 0 0 58 rfl rfl (by decide) m10_55 rfl rfl rfl (Nat.le_of_ble_eq_true rfl) d_Mpg_declareArray_186 (w' := wdP cs h r g tf ta pf na ma87 wa (upd cf208 58 4096) ca ef ea xf xa) (ps' := [wdP cs h r g tf ta pf na ma87 wa (upd cf208 58 4096) ca ef ea xf xa]) rfl rfl (fun H locs hw => ?_)
              refine lv_iload_n S.x S.b d_Mpg_declareArray_189 rfl (lv_at hl 4 rfl) ?_
              refine lv_if_eq (tgt := 204) S.x S.b d_Mpg_declareArray_190 (by decide) (fun c232 => ?_) (fun c232 => ?_)
              · have nc232 : p1.toInt = (0 : Int) := (i_eq (x := p1) (y := 0)).mp c232
                refine lv_aload_n S.x S.b d_Mpg_declareArray_204 rfl (lv_at hl 2 rfl) ?_
                refine px_get S k_Mpg hT hw 0 0 58 (v := .int 4096) rfl rfl rfl (by decide) m10_55 d_Mpg_declareArray_205 ?_
                exact px_iret (v := 4096) S hr rfl hlk hAe hw (Nat.le_of_ble_eq_true rfl) (Nat.le_of_ble_eq_true rfl) (⟨ma87, (upd cf208 58 4096), rfl, (show (cf208 30).toInt = 0 → (cf 30).toInt = 0 from by omega), (show WrV (upd cf208 58 4096) (tf 6).toInt from (WrV.u hwr (by decide) (by decide))), (show (cf208 33).toInt = (cf 33).toInt from by first | exact oz_e13fc83238 e93 e214 e173 | omega), (show (cf208 37).toInt = (cf 37).toInt from by first | exact oz_e13fc83238 hkk37_e91 e220 e179 | omega), (show (cf208 38).toInt = (cf 38).toInt from by first | exact oz_e13fc83238 e94 e215 e174 | omega), (show (cf208 41).toInt = (cf 41).toInt from by first | exact oz_e13fc83238 hkk41_e91 e229 e188 | omega), (show (cf208 42).toInt = (cf 42).toInt from by first | exact oz_e13fc83238 hkk42_e91 e221 e180 | omega), (show (cf208 43).toInt = (cf 43).toInt from by first | exact oz_e13fc83238 hkk43_e91 e222 e181 | omega), (show (cf208 44).toInt = (cf 44).toInt from by first | exact oz_e13fc83238 hkk44_e91 e223 e182 | omega), (show (cf208 45).toInt = (cf 45).toInt from by first | exact oz_e13fc83238 hkk45_e91 e224 e183 | omega), (show (cf208 46).toInt = (cf 46).toInt from by first | exact oz_e13fc83238 e96 e217 e176 | omega), (show (cf208 47).toInt = (cf 47).toInt from by first | exact oz_e13fc83238 e97 e218 e177 | omega), (show (cf208 48).toInt = (cf 48).toInt from by first | exact oz_e13fc83238 e95 e216 e175 | omega), (show (cf208 54).toInt = (cf 54).toInt from by first | exact oz_e13fc83238 hkk54_e91 e225 e184 | omega), (show (cf208 55).toInt = (cf 55).toInt from by first | exact oz_e13fc83238 hkk55_e91 e226 e185 | omega), (show (cf208 59).toInt = (cf 59).toInt from by first | exact oz_e13fc83238 hkk59_e91 e228 e187 | omega), (show Ann na ma0 ma87 from han), (show FrC lo hi ma ma87 from hfc), (show 0 ≤ (4096 : Int) from by first | exact oz_0229090d46 | omega), (show (4096 : Int) ≤ 4096 from by first | exact oz_44e5be0b59 | omega), (show 0 ≤ (4096 : Int) from by first | exact oz_0229090d46 | omega), (show (4096 : Int) ≤ 4096 from by first | exact oz_44e5be0b59 | omega), (show (4096 : Int) ≤ 4 * (4096 : Int) from by first | exact oz_e232d82f68 | omega), (show ZAv (upd cf208 58 4096) ta na ma87 p0 (4096 : Int) from (zr_no (by first | omega | (show 1 ≤ _; rw [pk_un (by decide)]; omega)))), (show R_mp_declareArray tf ta na ca p0 p1 ma cf ma87 (upd cf208 58 4096) (4096 : Int32) from (Exists.intro 1 (Or.inl ⟨rfl, z84, ez84, ma87, cf88, v90, e102, Or.inr ⟨nc103, Or.inl ⟨nc158, z160, ez160, v162, e165, cf167, e189, z190, ez190, Or.inl ⟨nc191, z193, ez193, Or.inr ⟨nc194, z201, ez201, z202, ez202, z203, ez203, Or.inl ⟨nc204, z206, ez206, cf208, e230, Or.inl ⟨nc232, rfl, rfl, rfl⟩⟩⟩⟩⟩⟩⟩)))⟩) d_Mpg_declareArray_208
              · have nc232 : ¬ p1.toInt = (0 : Int) := mt (i_eq (x := p1) (y := 0)).mpr c232
                refine lv_aload_n S.x S.b d_Mpg_declareArray_193 rfl (lv_at hl 2 rfl) ?_
                refine px_get S k_Mpg hT hw 0 0 58 (v := .int 4096) rfl rfl rfl (by decide) m10_55 d_Mpg_declareArray_194 ?_
                refine lv_iconst (v := 3) S.x S.b d_Mpg_declareArray_197 (by decide) ?_
                refine lv_iadd S.x S.b d_Mpg_declareArray_198 ?_
                refine lv_topi (fun z234 ez234 => ?_)
                have tz234 : z234.toInt = ((4096 : Int) + (3 : Int) + 2147483648) % 4294967296 - 2147483648 := by rw [ez234]; exact i_add 4096 3
                have lz234 := Int32.le_toInt z234
                have uz234 := Int32.toInt_lt z234
                try replace tz234 : z234.toInt = (4096 : Int) + (3 : Int) := by omega
                refine lv_iconst (v := 4) S.x S.b d_Mpg_declareArray_199 (by decide) ?_
                refine lv_idiv S.x S.b d_Mpg_declareArray_200 (fun hz0 => by have hz1 := i_eq.mp hz0; omega) ?_
                refine lv_topi (fun z235 ez235 => ?_)
                have lz235 := Int32.le_toInt z235
                have uz235 := Int32.toInt_lt z235
                have hd4 := i_div4 ez235 (by omega)
                refine lv_goto (tgt := 208) S.x S.b d_Mpg_declareArray_201 (by decide) ?_
                exact px_iret (v := z235) S hr rfl hlk hAe hw (Nat.le_of_ble_eq_true rfl) (Nat.le_of_ble_eq_true rfl) (⟨ma87, (upd cf208 58 4096), rfl, (show (cf208 30).toInt = 0 → (cf 30).toInt = 0 from by omega), (show WrV (upd cf208 58 4096) (tf 6).toInt from (WrV.u hwr (by decide) (by decide))), (show (cf208 33).toInt = (cf 33).toInt from by first | exact oz_e13fc83238 e93 e214 e173 | omega), (show (cf208 37).toInt = (cf 37).toInt from by first | exact oz_e13fc83238 hkk37_e91 e220 e179 | omega), (show (cf208 38).toInt = (cf 38).toInt from by first | exact oz_e13fc83238 e94 e215 e174 | omega), (show (cf208 41).toInt = (cf 41).toInt from by first | exact oz_e13fc83238 hkk41_e91 e229 e188 | omega), (show (cf208 42).toInt = (cf 42).toInt from by first | exact oz_e13fc83238 hkk42_e91 e221 e180 | omega), (show (cf208 43).toInt = (cf 43).toInt from by first | exact oz_e13fc83238 hkk43_e91 e222 e181 | omega), (show (cf208 44).toInt = (cf 44).toInt from by first | exact oz_e13fc83238 hkk44_e91 e223 e182 | omega), (show (cf208 45).toInt = (cf 45).toInt from by first | exact oz_e13fc83238 hkk45_e91 e224 e183 | omega), (show (cf208 46).toInt = (cf 46).toInt from by first | exact oz_e13fc83238 e96 e217 e176 | omega), (show (cf208 47).toInt = (cf 47).toInt from by first | exact oz_e13fc83238 e97 e218 e177 | omega), (show (cf208 48).toInt = (cf 48).toInt from by first | exact oz_e13fc83238 e95 e216 e175 | omega), (show (cf208 54).toInt = (cf 54).toInt from by first | exact oz_e13fc83238 hkk54_e91 e225 e184 | omega), (show (cf208 55).toInt = (cf 55).toInt from by first | exact oz_e13fc83238 hkk55_e91 e226 e185 | omega), (show (cf208 59).toInt = (cf 59).toInt from by first | exact oz_e13fc83238 hkk59_e91 e228 e187 | omega), (show Ann na ma0 ma87 from han), (show FrC lo hi ma ma87 from hfc), (show 0 ≤ (4096 : Int) from by first | exact oz_0229090d46 | omega), (show (4096 : Int) ≤ 4096 from by first | exact oz_44e5be0b59 | omega), (show 0 ≤ z235.toInt from by omega), (show z235.toInt ≤ 4096 from by omega), (show (4096 : Int) ≤ 4 * z235.toInt from by omega), (show ZAv (upd cf208 58 4096) ta na ma87 p0 (4096 : Int) from (zr_no (by first | omega | (show 1 ≤ _; rw [pk_un (by decide)]; omega)))), (show R_mp_declareArray tf ta na ca p0 p1 ma cf ma87 (upd cf208 58 4096) z235 from (Exists.intro 1 (Or.inl ⟨rfl, z84, ez84, ma87, cf88, v90, e102, Or.inr ⟨nc103, Or.inl ⟨nc158, z160, ez160, v162, e165, cf167, e189, z190, ez190, Or.inl ⟨nc191, z193, ez193, Or.inr ⟨nc194, z201, ez201, z202, ez202, z203, ez203, Or.inl ⟨nc204, z206, ez206, cf208, e230, Or.inr ⟨nc232, z234, ez234, z235, ez235, rfl, rfl, rfl⟩⟩⟩⟩⟩⟩⟩)))⟩) d_Mpg_declareArray_208
            · exact absurd c231 (by decide)
          · have nc204 : ¬ p1.toInt = (0 : Int) := mt (i_eq (x := p1) (y := 0)).mpr c204
            refine lv_iload_n S.x S.b d_Mpg_declareArray_154 rfl (lv_at hl 1 rfl) ?_
            refine lv_if_lt (tgt := 176) S.x S.b d_Mpg_declareArray_155 (by decide) (fun c236 => ?_) (fun c236 => ?_)
            · exact absurd c236 (by decide)
            ·
              refine lv_iload S.x S.b d_Mpg_declareArray_158 (lv_at hl 0 rfl) ?_
              refine lv_iload_n S.x S.b d_Mpg_declareArray_160 rfl (lv_at hl 1 rfl) ?_
              refine lv_icmp_le (tgt := 176) S.x S.b d_Mpg_declareArray_161 (by decide) (fun c237 => ?_) (fun c237 => ?_)
              · have nc237 : z203.toInt ≤ (4096 : Int) := (i_le (x := z203) (y := 4096)).mp c237
                refine lv_aload_n S.x S.b d_Mpg_declareArray_176 rfl (lv_at hl 2 rfl) ?_
                refine lv_iload_n S.x S.b d_Mpg_declareArray_177 rfl (lv_at hl 1 rfl) ?_
                refine lv_if_ge (tgt := 185) S.x S.b d_Mpg_declareArray_178 (by decide) (fun c239 => ?_) (fun c239 => ?_)
                ·
                  refine lv_iload_n S.x S.b d_Mpg_declareArray_185 rfl (lv_at hl 1 rfl) ?_
                  refine px_put S k_Mpg hT hw 0 0 58 rfl rfl (by decide) m10_55 rfl rfl rfl (Nat.le_of_ble_eq_true rfl) d_Mpg_declareArray_186 (w' := wdP cs h r g tf ta pf na ma87 wa (upd cf167 58 4096) ca ef ea xf xa) (ps' := [wdP cs h r g tf ta pf na ma87 wa (upd cf167 58 4096) ca ef ea xf xa]) rfl rfl (fun H locs hw => ?_)
                  refine lv_iload_n S.x S.b d_Mpg_declareArray_189 rfl (lv_at hl 4 rfl) ?_
                  refine lv_if_eq (tgt := 204) S.x S.b d_Mpg_declareArray_190 (by decide) (fun c240 => ?_) (fun c240 => ?_)
                  · have nc240 : p1.toInt = (0 : Int) := (i_eq (x := p1) (y := 0)).mp c240
                    refine lv_aload_n S.x S.b d_Mpg_declareArray_204 rfl (lv_at hl 2 rfl) ?_
                    refine px_get S k_Mpg hT hw 0 0 58 (v := .int 4096) rfl rfl rfl (by decide) m10_55 d_Mpg_declareArray_205 ?_
                    exact px_iret (v := 4096) S hr rfl hlk hAe hw (Nat.le_of_ble_eq_true rfl) (Nat.le_of_ble_eq_true rfl) (⟨ma87, (upd cf167 58 4096), rfl, (show (cf167 30).toInt = 0 → (cf 30).toInt = 0 from by omega), (show WrV (upd cf167 58 4096) (tf 6).toInt from (WrV.u hwr (by decide) (by decide))), (show (cf167 33).toInt = (cf 33).toInt from by first | exact oz_1687f4cc65 e93 e173 | omega), (show (cf167 37).toInt = (cf 37).toInt from by first | exact oz_1687f4cc65 hkk37_e91 e179 | omega), (show (cf167 38).toInt = (cf 38).toInt from by first | exact oz_1687f4cc65 e94 e174 | omega), (show (cf167 41).toInt = (cf 41).toInt from by first | exact oz_1687f4cc65 hkk41_e91 e188 | omega), (show (cf167 42).toInt = (cf 42).toInt from by first | exact oz_1687f4cc65 hkk42_e91 e180 | omega), (show (cf167 43).toInt = (cf 43).toInt from by first | exact oz_1687f4cc65 hkk43_e91 e181 | omega), (show (cf167 44).toInt = (cf 44).toInt from by first | exact oz_1687f4cc65 hkk44_e91 e182 | omega), (show (cf167 45).toInt = (cf 45).toInt from by first | exact oz_1687f4cc65 hkk45_e91 e183 | omega), (show (cf167 46).toInt = (cf 46).toInt from by first | exact oz_1687f4cc65 e96 e176 | omega), (show (cf167 47).toInt = (cf 47).toInt from by first | exact oz_1687f4cc65 e97 e177 | omega), (show (cf167 48).toInt = (cf 48).toInt from by first | exact oz_1687f4cc65 e95 e175 | omega), (show (cf167 54).toInt = (cf 54).toInt from by first | exact oz_1687f4cc65 hkk54_e91 e184 | omega), (show (cf167 55).toInt = (cf 55).toInt from by first | exact oz_1687f4cc65 hkk55_e91 e185 | omega), (show (cf167 59).toInt = (cf 59).toInt from by first | exact oz_1687f4cc65 hkk59_e91 e187 | omega), (show Ann na ma0 ma87 from han), (show FrC lo hi ma ma87 from hfc), (show 0 ≤ (4096 : Int) from by first | exact oz_0229090d46 | omega), (show (4096 : Int) ≤ 4096 from by first | exact oz_44e5be0b59 | omega), (show 0 ≤ (4096 : Int) from by first | exact oz_0229090d46 | omega), (show (4096 : Int) ≤ 4096 from by first | exact oz_44e5be0b59 | omega), (show (4096 : Int) ≤ 4 * (4096 : Int) from by first | exact oz_e232d82f68 | omega), (show ZAv (upd cf167 58 4096) ta na ma87 p0 (4096 : Int) from (zr_no (by first | omega | (show 1 ≤ _; rw [pk_un (by decide)]; omega)))), (show R_mp_declareArray tf ta na ca p0 p1 ma cf ma87 (upd cf167 58 4096) (4096 : Int32) from (Exists.intro 1 (Or.inl ⟨rfl, z84, ez84, ma87, cf88, v90, e102, Or.inr ⟨nc103, Or.inl ⟨nc158, z160, ez160, v162, e165, cf167, e189, z190, ez190, Or.inl ⟨nc191, z193, ez193, Or.inr ⟨nc194, z201, ez201, z202, ez202, z203, ez203, Or.inr ⟨nc204, Or.inl ⟨nc237, Or.inl ⟨nc240, rfl, rfl, rfl⟩⟩⟩⟩⟩⟩⟩⟩)))⟩) d_Mpg_declareArray_208
                  · have nc240 : ¬ p1.toInt = (0 : Int) := mt (i_eq (x := p1) (y := 0)).mpr c240
                    refine lv_aload_n S.x S.b d_Mpg_declareArray_193 rfl (lv_at hl 2 rfl) ?_
                    refine px_get S k_Mpg hT hw 0 0 58 (v := .int 4096) rfl rfl rfl (by decide) m10_55 d_Mpg_declareArray_194 ?_
                    refine lv_iconst (v := 3) S.x S.b d_Mpg_declareArray_197 (by decide) ?_
                    refine lv_iadd S.x S.b d_Mpg_declareArray_198 ?_
                    refine lv_topi (fun z242 ez242 => ?_)
                    have tz242 : z242.toInt = ((4096 : Int) + (3 : Int) + 2147483648) % 4294967296 - 2147483648 := by rw [ez242]; exact i_add 4096 3
                    have lz242 := Int32.le_toInt z242
                    have uz242 := Int32.toInt_lt z242
                    try replace tz242 : z242.toInt = (4096 : Int) + (3 : Int) := by omega
                    refine lv_iconst (v := 4) S.x S.b d_Mpg_declareArray_199 (by decide) ?_
                    refine lv_idiv S.x S.b d_Mpg_declareArray_200 (fun hz0 => by have hz1 := i_eq.mp hz0; omega) ?_
                    refine lv_topi (fun z243 ez243 => ?_)
                    have lz243 := Int32.le_toInt z243
                    have uz243 := Int32.toInt_lt z243
                    have hd4 := i_div4 ez243 (by omega)
                    refine lv_goto (tgt := 208) S.x S.b d_Mpg_declareArray_201 (by decide) ?_
                    exact px_iret (v := z243) S hr rfl hlk hAe hw (Nat.le_of_ble_eq_true rfl) (Nat.le_of_ble_eq_true rfl) (⟨ma87, (upd cf167 58 4096), rfl, (show (cf167 30).toInt = 0 → (cf 30).toInt = 0 from by omega), (show WrV (upd cf167 58 4096) (tf 6).toInt from (WrV.u hwr (by decide) (by decide))), (show (cf167 33).toInt = (cf 33).toInt from by first | exact oz_1687f4cc65 e93 e173 | omega), (show (cf167 37).toInt = (cf 37).toInt from by first | exact oz_1687f4cc65 hkk37_e91 e179 | omega), (show (cf167 38).toInt = (cf 38).toInt from by first | exact oz_1687f4cc65 e94 e174 | omega), (show (cf167 41).toInt = (cf 41).toInt from by first | exact oz_1687f4cc65 hkk41_e91 e188 | omega), (show (cf167 42).toInt = (cf 42).toInt from by first | exact oz_1687f4cc65 hkk42_e91 e180 | omega), (show (cf167 43).toInt = (cf 43).toInt from by first | exact oz_1687f4cc65 hkk43_e91 e181 | omega), (show (cf167 44).toInt = (cf 44).toInt from by first | exact oz_1687f4cc65 hkk44_e91 e182 | omega), (show (cf167 45).toInt = (cf 45).toInt from by first | exact oz_1687f4cc65 hkk45_e91 e183 | omega), (show (cf167 46).toInt = (cf 46).toInt from by first | exact oz_1687f4cc65 e96 e176 | omega), (show (cf167 47).toInt = (cf 47).toInt from by first | exact oz_1687f4cc65 e97 e177 | omega), (show (cf167 48).toInt = (cf 48).toInt from by first | exact oz_1687f4cc65 e95 e175 | omega), (show (cf167 54).toInt = (cf 54).toInt from by first | exact oz_1687f4cc65 hkk54_e91 e184 | omega), (show (cf167 55).toInt = (cf 55).toInt from by first | exact oz_1687f4cc65 hkk55_e91 e185 | omega), (show (cf167 59).toInt = (cf 59).toInt from by first | exact oz_1687f4cc65 hkk59_e91 e187 | omega), (show Ann na ma0 ma87 from han), (show FrC lo hi ma ma87 from hfc), (show 0 ≤ (4096 : Int) from by first | exact oz_0229090d46 | omega), (show (4096 : Int) ≤ 4096 from by first | exact oz_44e5be0b59 | omega), (show 0 ≤ z243.toInt from by omega), (show z243.toInt ≤ 4096 from by omega), (show (4096 : Int) ≤ 4 * z243.toInt from by omega), (show ZAv (upd cf167 58 4096) ta na ma87 p0 (4096 : Int) from (zr_no (by first | omega | (show 1 ≤ _; rw [pk_un (by decide)]; omega)))), (show R_mp_declareArray tf ta na ca p0 p1 ma cf ma87 (upd cf167 58 4096) z243 from (Exists.intro 1 (Or.inl ⟨rfl, z84, ez84, ma87, cf88, v90, e102, Or.inr ⟨nc103, Or.inl ⟨nc158, z160, ez160, v162, e165, cf167, e189, z190, ez190, Or.inl ⟨nc191, z193, ez193, Or.inr ⟨nc194, z201, ez201, z202, ez202, z203, ez203, Or.inr ⟨nc204, Or.inl ⟨nc237, Or.inr ⟨nc240, z242, ez242, z243, ez243, rfl, rfl, rfl⟩⟩⟩⟩⟩⟩⟩⟩)))⟩) d_Mpg_declareArray_208
                · exact absurd c239 (by decide)
              · have nc237 : ¬ z203.toInt ≤ (4096 : Int) := mt (i_le (x := z203) (y := 4096)).mpr c237
                refine lv_aload_n S.x S.b d_Mpg_declareArray_164 rfl (lv_at hl 2 rfl) ?_
                refine lv_bipush (v := 8) S.x S.b d_Mpg_declareArray_165 (by decide) ?_
                refine lv_aload_n S.x S.b d_Mpg_declareArray_167 rfl (lv_at hl 2 rfl) ?_
                refine px_get S k_Mpg hT hw 0 0 19 (v := .ref (r 19)) rfl rfl rfl (by decide) m10_5 d_Mpg_declareArray_168 ?_
                refine lv_iload_n S.x S.b d_Mpg_declareArray_171 rfl (lv_at hl 3 rfl) ?_
                refine px_iald S hT hw 0 15 (n := 2100) (f := (ma87 19)) rfl gp_19 (x := p0) (vp_in_iff.mpr (by first | exact oz_a7e05de1cd hvr.2.2.1 hvr.2.1 g1 g2 | (constructor <;> omega))) d_Mpg_declareArray_172 ?_
                refine lv_topi (fun z244 ez244 => ?_)
                have lz244 := Int32.le_toInt z244
                have uz244 := Int32.toInt_lt z244
                have ha_z244 : z244 = ma0 19 p0.toNatClampNeg := ez244.trans (Ann.v19 han (by omega)); have hn_z244 : z244.toInt = (ma0 19 p0.toNatClampNeg).toInt := (by rw [ha_z244]); have hk3 := hav.k3 (by omega); rw [← ha_z244] at hk3
                refine px_callv (pr := []) (px_runV (As := [.int 8, .int z244]) (rest := []) S (c_mp_bad l D cs h r g tf ta pf na ma87 wa ca ef ea xf xa cf167 8 z244  (show 1 ≤ (8 : Int) from by first | exact oz_fe427bacb1 | omega) (show 0 ≤ z244.toInt from by first | exact oz_f3ebed1ad0 hn_z244 hk3.1 | omega) (show z244.toInt < (tf 6).toInt from by first | exact oz_b0a61accca hk3.2.1 hn_z244 | omega) htk hwr _) hT (pr := []) (pcs := [wdP cs h r g tf ta pf na ma87 wa cf167 ca ef ea xf xa]) hw px_X.tt (px_recv hT hw 0 0 rfl rfl rfl) m12_173 m12_170 m12_172 ms_11_12 m1_21 q_Mpg_bad ⟨show 0 + 1 ≤ (4 * d + 20) from (by first | exact oz_8385159a22 | omega), show 8 + (3 + 11) + 0 ≤ (200 * d + 700) from (by first | exact oz_a3cd9048d3 | omega)⟩ hl.1 rfl (Nat.le_of_ble_eq_true rfl) d_Mpg_declareArray_173 ⟨Nat.le_of_ble_eq_true rfl, Nat.le_of_ble_eq_true rfl⟩) hw hA (fun p247 H locs hp247 hw => ?_)
                obtain ⟨cf246, rfl, e249, e250, e251, e252, e253, e254, e255, e256, e257, e258, e259, e260, e261, e262, e263, e264, e265, e266, e267, e268⟩ := hp247
                have e249 : KpE cf167 cf246 := e249
                have hkz_e249 := e249.2
                have e250 : WrV cf246 (tf 6).toInt := e250
                have hwr := e250
                have hw0_e250 := hwr.1
                have e251 : 1 ≤ (cf246 30).toInt := e251
                have e252 : (cf246 33).toInt = (cf167 33).toInt := e252
                have e253 : (cf246 38).toInt = (cf167 38).toInt := e253
                have e254 : (cf246 48).toInt = (cf167 48).toInt := e254
                have e255 : (cf246 46).toInt = (cf167 46).toInt := e255
                have e256 : (cf246 47).toInt = (cf167 47).toInt := e256
                have e257 : (cf246 57).toInt = (cf167 57).toInt := e257
                have e258 : (cf246 37).toInt = (cf167 37).toInt := e258
                have e259 : (cf246 42).toInt = (cf167 42).toInt := e259
                have e260 : (cf246 43).toInt = (cf167 43).toInt := e260
                have e261 : (cf246 44).toInt = (cf167 44).toInt := e261
                have e262 : (cf246 45).toInt = (cf167 45).toInt := e262
                have e263 : (cf246 54).toInt = (cf167 54).toInt := e263
                have e264 : (cf246 55).toInt = (cf167 55).toInt := e264
                have e265 : (cf246 58).toInt = (cf167 58).toInt := e265
                have e266 : (cf246 59).toInt = (cf167 59).toInt := e266
                have e267 : (cf246 41).toInt = (cf167 41).toInt := e267
                have e268 : R_mp_bad (8 : Int32) z244 cf167 cf246 := e268
                have hw : pw D A s.heap H locs [wdP cs h r g tf ta pf na ma87 wa cf246 ca ef ea xf xa] := hw
                refine lv_aload_n S.x S.b d_Mpg_declareArray_176 rfl (lv_at hl 2 rfl) ?_
                refine lv_iload_n S.x S.b d_Mpg_declareArray_177 rfl (lv_at hl 1 rfl) ?_
                refine lv_if_ge (tgt := 185) S.x S.b d_Mpg_declareArray_178 (by decide) (fun c269 => ?_) (fun c269 => ?_)
                ·
                  refine lv_iload_n S.x S.b d_Mpg_declareArray_185 rfl (lv_at hl 1 rfl) ?_
                  refine px_put S k_Mpg hT hw 0 0 58 rfl rfl (by decide) m10_55 rfl rfl rfl (Nat.le_of_ble_eq_true rfl) d_Mpg_declareArray_186 (w' := wdP cs h r g tf ta pf na ma87 wa (upd cf246 58 4096) ca ef ea xf xa) (ps' := [wdP cs h r g tf ta pf na ma87 wa (upd cf246 58 4096) ca ef ea xf xa]) rfl rfl (fun H locs hw => ?_)
                  refine lv_iload_n S.x S.b d_Mpg_declareArray_189 rfl (lv_at hl 4 rfl) ?_
                  refine lv_if_eq (tgt := 204) S.x S.b d_Mpg_declareArray_190 (by decide) (fun c270 => ?_) (fun c270 => ?_)
                  · have nc270 : p1.toInt = (0 : Int) := (i_eq (x := p1) (y := 0)).mp c270
                    refine lv_aload_n S.x S.b d_Mpg_declareArray_204 rfl (lv_at hl 2 rfl) ?_
                    refine px_get S k_Mpg hT hw 0 0 58 (v := .int 4096) rfl rfl rfl (by decide) m10_55 d_Mpg_declareArray_205 ?_
                    exact px_iret (v := 4096) S hr rfl hlk hAe hw (Nat.le_of_ble_eq_true rfl) (Nat.le_of_ble_eq_true rfl) (⟨ma87, (upd cf246 58 4096), rfl, (show (cf246 30).toInt = 0 → (cf 30).toInt = 0 from by omega), (show WrV (upd cf246 58 4096) (tf 6).toInt from (WrV.u hwr (by decide) (by decide))), (show (cf246 33).toInt = (cf 33).toInt from by first | exact oz_e13fc83238 e93 e252 e173 | omega), (show (cf246 37).toInt = (cf 37).toInt from by first | exact oz_e13fc83238 hkk37_e91 e258 e179 | omega), (show (cf246 38).toInt = (cf 38).toInt from by first | exact oz_e13fc83238 e94 e253 e174 | omega), (show (cf246 41).toInt = (cf 41).toInt from by first | exact oz_e13fc83238 hkk41_e91 e267 e188 | omega), (show (cf246 42).toInt = (cf 42).toInt from by first | exact oz_e13fc83238 hkk42_e91 e259 e180 | omega), (show (cf246 43).toInt = (cf 43).toInt from by first | exact oz_e13fc83238 hkk43_e91 e260 e181 | omega), (show (cf246 44).toInt = (cf 44).toInt from by first | exact oz_e13fc83238 hkk44_e91 e261 e182 | omega), (show (cf246 45).toInt = (cf 45).toInt from by first | exact oz_e13fc83238 hkk45_e91 e262 e183 | omega), (show (cf246 46).toInt = (cf 46).toInt from by first | exact oz_e13fc83238 e96 e255 e176 | omega), (show (cf246 47).toInt = (cf 47).toInt from by first | exact oz_e13fc83238 e97 e256 e177 | omega), (show (cf246 48).toInt = (cf 48).toInt from by first | exact oz_e13fc83238 e95 e254 e175 | omega), (show (cf246 54).toInt = (cf 54).toInt from by first | exact oz_e13fc83238 hkk54_e91 e263 e184 | omega), (show (cf246 55).toInt = (cf 55).toInt from by first | exact oz_e13fc83238 hkk55_e91 e264 e185 | omega), (show (cf246 59).toInt = (cf 59).toInt from by first | exact oz_e13fc83238 hkk59_e91 e266 e187 | omega), (show Ann na ma0 ma87 from han), (show FrC lo hi ma ma87 from hfc), (show 0 ≤ (4096 : Int) from by first | exact oz_0229090d46 | omega), (show (4096 : Int) ≤ 4096 from by first | exact oz_44e5be0b59 | omega), (show 0 ≤ (4096 : Int) from by first | exact oz_0229090d46 | omega), (show (4096 : Int) ≤ 4096 from by first | exact oz_44e5be0b59 | omega), (show (4096 : Int) ≤ 4 * (4096 : Int) from by first | exact oz_e232d82f68 | omega), (show ZAv (upd cf246 58 4096) ta na ma87 p0 (4096 : Int) from (zr_no (by first | omega | (show 1 ≤ _; rw [pk_un (by decide)]; omega)))), (show R_mp_declareArray tf ta na ca p0 p1 ma cf ma87 (upd cf246 58 4096) (4096 : Int32) from (Exists.intro 1 (Or.inl ⟨rfl, z84, ez84, ma87, cf88, v90, e102, Or.inr ⟨nc103, Or.inl ⟨nc158, z160, ez160, v162, e165, cf167, e189, z190, ez190, Or.inl ⟨nc191, z193, ez193, Or.inr ⟨nc194, z201, ez201, z202, ez202, z203, ez203, Or.inr ⟨nc204, Or.inr ⟨nc237, z244, ez244, cf246, e268, Or.inl ⟨nc270, rfl, rfl, rfl⟩⟩⟩⟩⟩⟩⟩⟩)))⟩) d_Mpg_declareArray_208
                  · have nc270 : ¬ p1.toInt = (0 : Int) := mt (i_eq (x := p1) (y := 0)).mpr c270
                    refine lv_aload_n S.x S.b d_Mpg_declareArray_193 rfl (lv_at hl 2 rfl) ?_
                    refine px_get S k_Mpg hT hw 0 0 58 (v := .int 4096) rfl rfl rfl (by decide) m10_55 d_Mpg_declareArray_194 ?_
                    refine lv_iconst (v := 3) S.x S.b d_Mpg_declareArray_197 (by decide) ?_
                    refine lv_iadd S.x S.b d_Mpg_declareArray_198 ?_
                    refine lv_topi (fun z272 ez272 => ?_)
                    have tz272 : z272.toInt = ((4096 : Int) + (3 : Int) + 2147483648) % 4294967296 - 2147483648 := by rw [ez272]; exact i_add 4096 3
                    have lz272 := Int32.le_toInt z272
                    have uz272 := Int32.toInt_lt z272
                    try replace tz272 : z272.toInt = (4096 : Int) + (3 : Int) := by omega
                    refine lv_iconst (v := 4) S.x S.b d_Mpg_declareArray_199 (by decide) ?_
                    refine lv_idiv S.x S.b d_Mpg_declareArray_200 (fun hz0 => by have hz1 := i_eq.mp hz0; omega) ?_
                    refine lv_topi (fun z273 ez273 => ?_)
                    have lz273 := Int32.le_toInt z273
                    have uz273 := Int32.toInt_lt z273
                    have hd4 := i_div4 ez273 (by omega)
                    refine lv_goto (tgt := 208) S.x S.b d_Mpg_declareArray_201 (by decide) ?_
                    exact px_iret (v := z273) S hr rfl hlk hAe hw (Nat.le_of_ble_eq_true rfl) (Nat.le_of_ble_eq_true rfl) (⟨ma87, (upd cf246 58 4096), rfl, (show (cf246 30).toInt = 0 → (cf 30).toInt = 0 from by omega), (show WrV (upd cf246 58 4096) (tf 6).toInt from (WrV.u hwr (by decide) (by decide))), (show (cf246 33).toInt = (cf 33).toInt from by first | exact oz_e13fc83238 e93 e252 e173 | omega), (show (cf246 37).toInt = (cf 37).toInt from by first | exact oz_e13fc83238 hkk37_e91 e258 e179 | omega), (show (cf246 38).toInt = (cf 38).toInt from by first | exact oz_e13fc83238 e94 e253 e174 | omega), (show (cf246 41).toInt = (cf 41).toInt from by first | exact oz_e13fc83238 hkk41_e91 e267 e188 | omega), (show (cf246 42).toInt = (cf 42).toInt from by first | exact oz_e13fc83238 hkk42_e91 e259 e180 | omega), (show (cf246 43).toInt = (cf 43).toInt from by first | exact oz_e13fc83238 hkk43_e91 e260 e181 | omega), (show (cf246 44).toInt = (cf 44).toInt from by first | exact oz_e13fc83238 hkk44_e91 e261 e182 | omega), (show (cf246 45).toInt = (cf 45).toInt from by first | exact oz_e13fc83238 hkk45_e91 e262 e183 | omega), (show (cf246 46).toInt = (cf 46).toInt from by first | exact oz_e13fc83238 e96 e255 e176 | omega), (show (cf246 47).toInt = (cf 47).toInt from by first | exact oz_e13fc83238 e97 e256 e177 | omega), (show (cf246 48).toInt = (cf 48).toInt from by first | exact oz_e13fc83238 e95 e254 e175 | omega), (show (cf246 54).toInt = (cf 54).toInt from by first | exact oz_e13fc83238 hkk54_e91 e263 e184 | omega), (show (cf246 55).toInt = (cf 55).toInt from by first | exact oz_e13fc83238 hkk55_e91 e264 e185 | omega), (show (cf246 59).toInt = (cf 59).toInt from by first | exact oz_e13fc83238 hkk59_e91 e266 e187 | omega), (show Ann na ma0 ma87 from han), (show FrC lo hi ma ma87 from hfc), (show 0 ≤ (4096 : Int) from by first | exact oz_0229090d46 | omega), (show (4096 : Int) ≤ 4096 from by first | exact oz_44e5be0b59 | omega), (show 0 ≤ z273.toInt from by omega), (show z273.toInt ≤ 4096 from by omega), (show (4096 : Int) ≤ 4 * z273.toInt from by omega), (show ZAv (upd cf246 58 4096) ta na ma87 p0 (4096 : Int) from (zr_no (by first | omega | (show 1 ≤ _; rw [pk_un (by decide)]; omega)))), (show R_mp_declareArray tf ta na ca p0 p1 ma cf ma87 (upd cf246 58 4096) z273 from (Exists.intro 1 (Or.inl ⟨rfl, z84, ez84, ma87, cf88, v90, e102, Or.inr ⟨nc103, Or.inl ⟨nc158, z160, ez160, v162, e165, cf167, e189, z190, ez190, Or.inl ⟨nc191, z193, ez193, Or.inr ⟨nc194, z201, ez201, z202, ez202, z203, ez203, Or.inr ⟨nc204, Or.inr ⟨nc237, z244, ez244, cf246, e268, Or.inr ⟨nc270, z272, ez272, z273, ez273, rfl, rfl, rfl⟩⟩⟩⟩⟩⟩⟩⟩)))⟩) d_Mpg_declareArray_208
                · exact absurd c269 (by decide)
      · have nc191 : z190.toInt = (2 : Int) := (i_eq (x := z190) (y := 2)).mp c191
        refine lv_iconst (v := 0) S.x S.b d_Mpg_declareArray_62 (by decide) ?_
        refine lv_istore (lv' := [(4, .int 0), (3, .int 4096), (0, .ref h), (1, .int p0), (2, .int p1)]) S.x S.b d_Mpg_declareArray_63 hl (by decide) rfl (fun ls hl => ?_)
        refine lv_aload_n S.x S.b d_Mpg_declareArray_65 rfl (lv_at hl 2 rfl) ?_
        refine px_get S k_Mpg hT hw 0 0 18 (v := .ref (r 18)) rfl rfl rfl (by decide) m10_3 d_Mpg_declareArray_66 ?_
        refine lv_iload_n S.x S.b d_Mpg_declareArray_69 rfl (lv_at hl 3 rfl) ?_
        refine px_iald S hT hw 0 14 (n := 2100) (f := (ma87 18)) rfl gp_18 (x := p0) (vp_in_iff.mpr (by first | exact oz_a7e05de1cd hvr.2.2.1 hvr.2.1 g1 g2 | (constructor <;> omega))) d_Mpg_declareArray_70 ?_
        refine lv_topi (fun z274 ez274 => ?_)
        have lz274 := Int32.le_toInt z274
        have uz274 := Int32.toInt_lt z274
        obtain ⟨⟨wr, hrv, hwr9⟩, h19a, h19b⟩ := hav.k2 (by omega); have ha_z274 : z274 = ma0 18 p0.toNatClampNeg := ez274.trans (Ann.v18 han (by omega))
        refine lv_istore (lv' := [(5, .int z274), (4, .int 0), (3, .int 4096), (0, .ref h), (1, .int p0), (2, .int p1)]) S.x S.b d_Mpg_declareArray_71 hl (by decide) rfl (fun ls hl => ?_)
        exact J73 ((hi - m1).toNat + 1) ma87 cf167 m1 wr (4096 : Int32) (0 : Int32) z274 _ _ ls (show (cf167 30).toInt = 0 → (cf 30).toInt = 0 from by omega) (show WrV cf167 (tf 6).toInt from hwr) (show (cf167 33).toInt = (cf 33).toInt from by first | exact oz_1687f4cc65 e93 e173 | omega) (show (cf167 37).toInt = (cf 37).toInt from by first | exact oz_1687f4cc65 hkk37_e91 e179 | omega) (show (cf167 38).toInt = (cf 38).toInt from by first | exact oz_1687f4cc65 e94 e174 | omega) (show (cf167 41).toInt = (cf 41).toInt from by first | exact oz_1687f4cc65 hkk41_e91 e188 | omega) (show (cf167 42).toInt = (cf 42).toInt from by first | exact oz_1687f4cc65 hkk42_e91 e180 | omega) (show (cf167 43).toInt = (cf 43).toInt from by first | exact oz_1687f4cc65 hkk43_e91 e181 | omega) (show (cf167 44).toInt = (cf 44).toInt from by first | exact oz_1687f4cc65 hkk44_e91 e182 | omega) (show (cf167 45).toInt = (cf 45).toInt from by first | exact oz_1687f4cc65 hkk45_e91 e183 | omega) (show (cf167 46).toInt = (cf 46).toInt from by first | exact oz_1687f4cc65 e96 e176 | omega) (show (cf167 47).toInt = (cf 47).toInt from by first | exact oz_1687f4cc65 e97 e177 | omega) (show (cf167 48).toInt = (cf 48).toInt from by first | exact oz_1687f4cc65 e95 e175 | omega) (show (cf167 54).toInt = (cf 54).toInt from by first | exact oz_1687f4cc65 hkk54_e91 e184 | omega) (show (cf167 55).toInt = (cf 55).toInt from by first | exact oz_1687f4cc65 hkk55_e91 e185 | omega) (show (cf167 59).toInt = (cf 59).toInt from by first | exact oz_1687f4cc65 hkk59_e91 e187 | omega) (show Ann na ma0 ma87 from han) (show FrC lo hi ma ma87 from hfc) (show -1 ≤ (4096 : Int) from by first | exact oz_e8005d8519 | omega) (show (4096 : Int) ≤ 4096 from by first | exact oz_44e5be0b59 | omega) (show (4096 : Int) = -1 → 1 ≤ (cf167 30).toInt from by omega) (show 0 ≤ (0 : Int) from by first | exact oz_5a341f00aa | omega) (show (0 : Int) + m1 ≤ m1 from by first | exact oz_05158eb67a | omega) (show m1 ≤ m1 from by first | exact oz_1cb5f934a5 | omega) (show m1 ≤ hi from by first | exact hm2 | omega) (show (ma0 22 p0.toNatClampNeg).toInt = 2 from by first | exact oz_70422203cd rz190 nc191 | omega) (show RvI ta (tf 6).toInt na ma0 d m1 hi wr z274 from (by rw [ha_z274]; exact hrv)) (show RlC na (ma0 18 p0.toNatClampNeg) z274 (0 : Int) from (by rw [ha_z274]; exact rlc_0)) (show K_mp_declareArray_73 tf ta na ca p0 p1 ma cf ma87 cf167 4096 0 z274 from (fun y_f0 y_f1 y_v k hE => Exists.intro (k + 1) (Or.inl ⟨rfl, z84, ez84, ma87, cf88, v90, e102, Or.inr ⟨nc103, Or.inl ⟨nc158, z160, ez160, v162, e165, cf167, e189, z190, ez190, Or.inr ⟨nc191, z274, ez274, hE⟩⟩⟩⟩))) (show hi - m1 < ((((hi - m1).toNat + 1 : Nat) : Int) : Int) from by first | exact oz_natlt | omega) hw (lv_sub hl [3, 4, 5, 2, 1, 0] rfl)
    · have nc158 : ¬ (cf88 57).toInt < (1 : Int) := mt (i_lt (x := (cf88 57)) (y := 1)).mpr c158
      refine lv_iload_n S.x S.b d_Mpg_declareArray_25 rfl (lv_at hl 0 rfl) ?_
      refine lv_sipush (v := 4096) S.x S.b d_Mpg_declareArray_26 (by decide) ?_
      refine lv_icmp_le (tgt := 52) S.x S.b d_Mpg_declareArray_29 (by decide) (fun c275 => ?_) (fun c275 => ?_)
      · have nc275 : (cf88 57).toInt ≤ (4096 : Int) := (i_le (x := (cf88 57)) (y := 4096)).mp c275
        refine lv_aload_n S.x S.b d_Mpg_declareArray_52 rfl (lv_at hl 1 rfl) ?_
        refine px_get S k_Mpg hT hw 0 0 22 (v := .ref (r 22)) rfl rfl rfl (by decide) m10_9 d_Mpg_declareArray_53 ?_
        refine lv_iload_n S.x S.b d_Mpg_declareArray_56 rfl (lv_at hl 2 rfl) ?_
        refine px_iald S hT hw 0 18 (n := 2100) (f := (ma87 22)) rfl gp_22 (x := p0) (vp_in_iff.mpr (by first | exact oz_a7e05de1cd hvr.2.2.1 hvr.2.1 g1 g2 | (constructor <;> omega))) d_Mpg_declareArray_57 ?_
        refine lv_topi (fun z277 ez277 => ?_)
        have lz277 := Int32.le_toInt z277
        have uz277 := Int32.toInt_lt z277
        have rz277 : z277.toInt = (ma0 22 p0.toNatClampNeg).toInt := (by rw [ez277, Ann.v22 han (by omega)])
        refine lv_iconst (v := 2) S.x S.b d_Mpg_declareArray_58 (by decide) ?_
        refine lv_icmp_ne (tgt := 125) S.x S.b d_Mpg_declareArray_59 (by decide) (fun c278 => ?_) (fun c278 => ?_)
        · have nc278 : ¬ z277.toInt = (2 : Int) := mt (i_eq (x := z277) (y := 2)).mpr c278
          refine lv_aload_n S.x S.b d_Mpg_declareArray_125 rfl (lv_at hl 1 rfl) ?_
          refine px_get S k_Mpg hT hw 0 0 22 (v := .ref (r 22)) rfl rfl rfl (by decide) m10_9 d_Mpg_declareArray_126 ?_
          refine lv_iload_n S.x S.b d_Mpg_declareArray_129 rfl (lv_at hl 2 rfl) ?_
          refine px_iald S hT hw 0 18 (n := 2100) (f := (ma87 22)) rfl gp_22 (x := p0) (vp_in_iff.mpr (by first | exact oz_a7e05de1cd hvr.2.2.1 hvr.2.1 g1 g2 | (constructor <;> omega))) d_Mpg_declareArray_130 ?_
          refine lv_topi (fun z280 ez280 => ?_)
          have lz280 := Int32.le_toInt z280
          have uz280 := Int32.toInt_lt z280
          have rz280 : z280.toInt = (ma0 22 p0.toNatClampNeg).toInt := (by rw [ez280, Ann.v22 han (by omega)])
          refine lv_iconst (v := 3) S.x S.b d_Mpg_declareArray_131 (by decide) ?_
          refine lv_icmp_ne (tgt := 176) S.x S.b d_Mpg_declareArray_132 (by decide) (fun c281 => ?_) (fun c281 => ?_)
          · have nc281 : ¬ z280.toInt = (3 : Int) := mt (i_eq (x := z280) (y := 3)).mpr c281
            refine lv_aload_n S.x S.b d_Mpg_declareArray_176 rfl (lv_at hl 1 rfl) ?_
            refine lv_iload_n S.x S.b d_Mpg_declareArray_177 rfl (lv_at hl 0 rfl) ?_
            refine lv_if_ge (tgt := 185) S.x S.b d_Mpg_declareArray_178 (by decide) (fun c283 => ?_) (fun c283 => ?_)
            · have nc283 : (0 : Int) ≤ (cf88 57).toInt := (i_le (x := 0) (y := (cf88 57))).mp c283
              refine lv_iload_n S.x S.b d_Mpg_declareArray_185 rfl (lv_at hl 0 rfl) ?_
              refine px_put S k_Mpg hT hw 0 0 58 rfl rfl (by decide) m10_55 rfl rfl rfl (Nat.le_of_ble_eq_true rfl) d_Mpg_declareArray_186 (w' := wdP cs h r g tf ta pf na ma87 wa (upd cf88 58 (cf88 57)) ca ef ea xf xa) (ps' := [wdP cs h r g tf ta pf na ma87 wa (upd cf88 58 (cf88 57)) ca ef ea xf xa]) rfl rfl (fun H locs hw => ?_)
              refine lv_iload_n S.x S.b d_Mpg_declareArray_189 rfl (lv_at hl 3 rfl) ?_
              refine lv_if_eq (tgt := 204) S.x S.b d_Mpg_declareArray_190 (by decide) (fun c285 => ?_) (fun c285 => ?_)
              · have nc285 : p1.toInt = (0 : Int) := (i_eq (x := p1) (y := 0)).mp c285
                refine lv_aload_n S.x S.b d_Mpg_declareArray_204 rfl (lv_at hl 1 rfl) ?_
                refine px_get S k_Mpg hT hw 0 0 58 (v := .int (cf88 57)) rfl rfl rfl (by decide) m10_55 d_Mpg_declareArray_205 ?_
                exact px_iret (v := (cf88 57)) S hr rfl hlk hAe hw (Nat.le_of_ble_eq_true rfl) (Nat.le_of_ble_eq_true rfl) (⟨ma87, (upd cf88 58 (cf88 57)), rfl, (show (cf88 30).toInt = 0 → (cf 30).toInt = 0 from by first | exact hkz_e91 | omega), (show WrV (upd cf88 58 (cf88 57)) (tf 6).toInt from (WrV.u hwr (by decide) (by decide))), (show (cf88 33).toInt = (cf 33).toInt from by first | exact e93 | omega), (show (cf88 37).toInt = (cf 37).toInt from by first | exact hkk37_e91 | omega), (show (cf88 38).toInt = (cf 38).toInt from by first | exact e94 | omega), (show (cf88 41).toInt = (cf 41).toInt from by first | exact hkk41_e91 | omega), (show (cf88 42).toInt = (cf 42).toInt from by first | exact hkk42_e91 | omega), (show (cf88 43).toInt = (cf 43).toInt from by first | exact hkk43_e91 | omega), (show (cf88 44).toInt = (cf 44).toInt from by first | exact hkk44_e91 | omega), (show (cf88 45).toInt = (cf 45).toInt from by first | exact hkk45_e91 | omega), (show (cf88 46).toInt = (cf 46).toInt from by first | exact e96 | omega), (show (cf88 47).toInt = (cf 47).toInt from by first | exact e97 | omega), (show (cf88 48).toInt = (cf 48).toInt from by first | exact e95 | omega), (show (cf88 54).toInt = (cf 54).toInt from by first | exact hkk54_e91 | omega), (show (cf88 55).toInt = (cf 55).toInt from by first | exact hkk55_e91 | omega), (show (cf88 59).toInt = (cf 59).toInt from by first | exact hkk59_e91 | omega), (show Ann na ma0 ma87 from han), (show FrC lo hi ma ma87 from hfc), (show 0 ≤ (cf88 57).toInt from by first | exact oz_0184fb6be8 nc158 | omega), (show (cf88 57).toInt ≤ 4096 from by first | exact oz_d819beab09 nc275 | omega), (show 0 ≤ (cf88 57).toInt from by first | exact oz_0184fb6be8 nc158 | omega), (show (cf88 57).toInt ≤ 4096 from by first | exact oz_d819beab09 nc275 | omega), (show (cf88 57).toInt ≤ 4 * (cf88 57).toInt from by first | exact oz_404e7427cb nc158 | omega), (show ZAv (upd cf88 58 (cf88 57)) ta na ma87 p0 (cf88 57).toInt from (ZAvF (by first | exact zav_0 han (by omega) (by have hav0 := hav.k0; omega) | exact zr_no (by omega) | exact zav_0 han (by omega) (by have hav0 := hav.k0; omega) | exact zav_2 han (by omega) (by omega) hrl (by omega) (by omega) (by omega) | exact zav_3 han (by omega) (by omega) ha_z201 (by omega)))), (show R_mp_declareArray tf ta na ca p0 p1 ma cf ma87 (upd cf88 58 (cf88 57)) (cf88 57) from (Exists.intro 1 (Or.inl ⟨rfl, z84, ez84, ma87, cf88, v90, e102, Or.inr ⟨nc103, Or.inr ⟨nc158, Or.inl ⟨nc275, z277, ez277, Or.inl ⟨nc278, z280, ez280, Or.inl ⟨nc281, Or.inl ⟨nc283, Or.inl ⟨nc285, rfl, rfl, rfl⟩⟩⟩⟩⟩⟩⟩⟩)))⟩) d_Mpg_declareArray_208
              · have nc285 : ¬ p1.toInt = (0 : Int) := mt (i_eq (x := p1) (y := 0)).mpr c285
                refine lv_aload_n S.x S.b d_Mpg_declareArray_193 rfl (lv_at hl 1 rfl) ?_
                refine px_get S k_Mpg hT hw 0 0 58 (v := .int (cf88 57)) rfl rfl rfl (by decide) m10_55 d_Mpg_declareArray_194 ?_
                refine lv_iconst (v := 3) S.x S.b d_Mpg_declareArray_197 (by decide) ?_
                refine lv_iadd S.x S.b d_Mpg_declareArray_198 ?_
                have lr287 := Int32.le_toInt (cf88 57)
                have ur287 := Int32.toInt_lt (cf88 57)
                refine lv_topi (fun z288 ez288 => ?_)
                have tz288 : z288.toInt = ((cf88 57).toInt + (3 : Int) + 2147483648) % 4294967296 - 2147483648 := by rw [ez288]; exact i_add (cf88 57) 3
                have lz288 := Int32.le_toInt z288
                have uz288 := Int32.toInt_lt z288
                try replace tz288 : z288.toInt = (cf88 57).toInt + (3 : Int) := by omega
                refine lv_iconst (v := 4) S.x S.b d_Mpg_declareArray_199 (by decide) ?_
                refine lv_idiv S.x S.b d_Mpg_declareArray_200 (fun hz0 => by have hz1 := i_eq.mp hz0; omega) ?_
                refine lv_topi (fun z289 ez289 => ?_)
                have lz289 := Int32.le_toInt z289
                have uz289 := Int32.toInt_lt z289
                have hd4 := i_div4 ez289 (by omega)
                refine lv_goto (tgt := 208) S.x S.b d_Mpg_declareArray_201 (by decide) ?_
                exact px_iret (v := z289) S hr rfl hlk hAe hw (Nat.le_of_ble_eq_true rfl) (Nat.le_of_ble_eq_true rfl) (⟨ma87, (upd cf88 58 (cf88 57)), rfl, (show (cf88 30).toInt = 0 → (cf 30).toInt = 0 from by first | exact hkz_e91 | omega), (show WrV (upd cf88 58 (cf88 57)) (tf 6).toInt from (WrV.u hwr (by decide) (by decide))), (show (cf88 33).toInt = (cf 33).toInt from by first | exact e93 | omega), (show (cf88 37).toInt = (cf 37).toInt from by first | exact hkk37_e91 | omega), (show (cf88 38).toInt = (cf 38).toInt from by first | exact e94 | omega), (show (cf88 41).toInt = (cf 41).toInt from by first | exact hkk41_e91 | omega), (show (cf88 42).toInt = (cf 42).toInt from by first | exact hkk42_e91 | omega), (show (cf88 43).toInt = (cf 43).toInt from by first | exact hkk43_e91 | omega), (show (cf88 44).toInt = (cf 44).toInt from by first | exact hkk44_e91 | omega), (show (cf88 45).toInt = (cf 45).toInt from by first | exact hkk45_e91 | omega), (show (cf88 46).toInt = (cf 46).toInt from by first | exact e96 | omega), (show (cf88 47).toInt = (cf 47).toInt from by first | exact e97 | omega), (show (cf88 48).toInt = (cf 48).toInt from by first | exact e95 | omega), (show (cf88 54).toInt = (cf 54).toInt from by first | exact hkk54_e91 | omega), (show (cf88 55).toInt = (cf 55).toInt from by first | exact hkk55_e91 | omega), (show (cf88 59).toInt = (cf 59).toInt from by first | exact hkk59_e91 | omega), (show Ann na ma0 ma87 from han), (show FrC lo hi ma ma87 from hfc), (show 0 ≤ (cf88 57).toInt from by first | exact oz_0184fb6be8 nc158 | omega), (show (cf88 57).toInt ≤ 4096 from by first | exact oz_d819beab09 nc275 | omega), (show 0 ≤ z289.toInt from by omega), (show z289.toInt ≤ 4096 from by omega), (show (cf88 57).toInt ≤ 4 * z289.toInt from by omega), (show ZAv (upd cf88 58 (cf88 57)) ta na ma87 p0 (cf88 57).toInt from (ZAvF (by first | exact zav_0 han (by omega) (by have hav0 := hav.k0; omega) | exact zr_no (by omega) | exact zav_0 han (by omega) (by have hav0 := hav.k0; omega) | exact zav_2 han (by omega) (by omega) hrl (by omega) (by omega) (by omega) | exact zav_3 han (by omega) (by omega) ha_z201 (by omega)))), (show R_mp_declareArray tf ta na ca p0 p1 ma cf ma87 (upd cf88 58 (cf88 57)) z289 from (Exists.intro 1 (Or.inl ⟨rfl, z84, ez84, ma87, cf88, v90, e102, Or.inr ⟨nc103, Or.inr ⟨nc158, Or.inl ⟨nc275, z277, ez277, Or.inl ⟨nc278, z280, ez280, Or.inl ⟨nc281, Or.inl ⟨nc283, Or.inr ⟨nc285, z288, ez288, z289, ez289, rfl, rfl, rfl⟩⟩⟩⟩⟩⟩⟩⟩)))⟩) d_Mpg_declareArray_208
            · have nc283 : ¬ (0 : Int) ≤ (cf88 57).toInt := mt (i_le (x := 0) (y := (cf88 57))).mpr c283
              refine lv_iconst (v := 0) S.x S.b d_Mpg_declareArray_181 (by decide) ?_
              refine lv_goto (tgt := 186) S.x S.b d_Mpg_declareArray_182 (by decide) ?_
              refine px_put S k_Mpg hT hw 0 0 58 rfl rfl (by decide) m10_55 rfl rfl rfl (Nat.le_of_ble_eq_true rfl) d_Mpg_declareArray_186 (w' := wdP cs h r g tf ta pf na ma87 wa (upd cf88 58 0) ca ef ea xf xa) (ps' := [wdP cs h r g tf ta pf na ma87 wa (upd cf88 58 0) ca ef ea xf xa]) rfl rfl (fun H locs hw => ?_)
              refine lv_iload_n S.x S.b d_Mpg_declareArray_189 rfl (lv_at hl 3 rfl) ?_
              refine lv_if_eq (tgt := 204) S.x S.b d_Mpg_declareArray_190 (by decide) (fun c290 => ?_) (fun c290 => ?_)
              · have nc290 : p1.toInt = (0 : Int) := (i_eq (x := p1) (y := 0)).mp c290
                refine lv_aload_n S.x S.b d_Mpg_declareArray_204 rfl (lv_at hl 1 rfl) ?_
                refine px_get S k_Mpg hT hw 0 0 58 (v := .int 0) rfl rfl rfl (by decide) m10_55 d_Mpg_declareArray_205 ?_
                exact px_iret (v := 0) S hr rfl hlk hAe hw (Nat.le_of_ble_eq_true rfl) (Nat.le_of_ble_eq_true rfl) (⟨ma87, (upd cf88 58 0), rfl, (show (cf88 30).toInt = 0 → (cf 30).toInt = 0 from by first | exact hkz_e91 | omega), (show WrV (upd cf88 58 0) (tf 6).toInt from (WrV.u hwr (by decide) (by decide))), (show (cf88 33).toInt = (cf 33).toInt from by first | exact e93 | omega), (show (cf88 37).toInt = (cf 37).toInt from by first | exact hkk37_e91 | omega), (show (cf88 38).toInt = (cf 38).toInt from by first | exact e94 | omega), (show (cf88 41).toInt = (cf 41).toInt from by first | exact hkk41_e91 | omega), (show (cf88 42).toInt = (cf 42).toInt from by first | exact hkk42_e91 | omega), (show (cf88 43).toInt = (cf 43).toInt from by first | exact hkk43_e91 | omega), (show (cf88 44).toInt = (cf 44).toInt from by first | exact hkk44_e91 | omega), (show (cf88 45).toInt = (cf 45).toInt from by first | exact hkk45_e91 | omega), (show (cf88 46).toInt = (cf 46).toInt from by first | exact e96 | omega), (show (cf88 47).toInt = (cf 47).toInt from by first | exact e97 | omega), (show (cf88 48).toInt = (cf 48).toInt from by first | exact e95 | omega), (show (cf88 54).toInt = (cf 54).toInt from by first | exact hkk54_e91 | omega), (show (cf88 55).toInt = (cf 55).toInt from by first | exact hkk55_e91 | omega), (show (cf88 59).toInt = (cf 59).toInt from by first | exact hkk59_e91 | omega), (show Ann na ma0 ma87 from han), (show FrC lo hi ma ma87 from hfc), (show 0 ≤ (0 : Int) from by first | exact oz_5a341f00aa | omega), (show (0 : Int) ≤ 4096 from by first | exact oz_37065d99f6 | omega), (show 0 ≤ (0 : Int) from by first | exact oz_5a341f00aa | omega), (show (0 : Int) ≤ 4096 from by first | exact oz_37065d99f6 | omega), (show (0 : Int) ≤ 4 * (0 : Int) from by first | exact oz_397c02ad98 | omega), (show ZAv (upd cf88 58 0) ta na ma87 p0 (0 : Int) from (ZAvF (by first | exact zr_no (by omega) | exact zr_no (by omega) | exact zav_0 han (by omega) (by have hav0 := hav.k0; omega) | exact zav_2 han (by omega) (by omega) hrl (by omega) (by omega) (by omega) | exact zav_3 han (by omega) (by omega) ha_z201 (by omega)))), (show R_mp_declareArray tf ta na ca p0 p1 ma cf ma87 (upd cf88 58 0) (0 : Int32) from (Exists.intro 1 (Or.inl ⟨rfl, z84, ez84, ma87, cf88, v90, e102, Or.inr ⟨nc103, Or.inr ⟨nc158, Or.inl ⟨nc275, z277, ez277, Or.inl ⟨nc278, z280, ez280, Or.inl ⟨nc281, Or.inr ⟨nc283, Or.inl ⟨nc290, rfl, rfl, rfl⟩⟩⟩⟩⟩⟩⟩⟩)))⟩) d_Mpg_declareArray_208
              · have nc290 : ¬ p1.toInt = (0 : Int) := mt (i_eq (x := p1) (y := 0)).mpr c290
                refine lv_aload_n S.x S.b d_Mpg_declareArray_193 rfl (lv_at hl 1 rfl) ?_
                refine px_get S k_Mpg hT hw 0 0 58 (v := .int 0) rfl rfl rfl (by decide) m10_55 d_Mpg_declareArray_194 ?_
                refine lv_iconst (v := 3) S.x S.b d_Mpg_declareArray_197 (by decide) ?_
                refine lv_iadd S.x S.b d_Mpg_declareArray_198 ?_
                refine lv_topi (fun z292 ez292 => ?_)
                have tz292 : z292.toInt = ((0 : Int) + (3 : Int) + 2147483648) % 4294967296 - 2147483648 := by rw [ez292]; exact i_add 0 3
                have lz292 := Int32.le_toInt z292
                have uz292 := Int32.toInt_lt z292
                try replace tz292 : z292.toInt = (0 : Int) + (3 : Int) := by omega
                refine lv_iconst (v := 4) S.x S.b d_Mpg_declareArray_199 (by decide) ?_
                refine lv_idiv S.x S.b d_Mpg_declareArray_200 (fun hz0 => by have hz1 := i_eq.mp hz0; omega) ?_
                refine lv_topi (fun z293 ez293 => ?_)
                have lz293 := Int32.le_toInt z293
                have uz293 := Int32.toInt_lt z293
                have hd4 := i_div4 ez293 (by omega)
                refine lv_goto (tgt := 208) S.x S.b d_Mpg_declareArray_201 (by decide) ?_
                exact px_iret (v := z293) S hr rfl hlk hAe hw (Nat.le_of_ble_eq_true rfl) (Nat.le_of_ble_eq_true rfl) (⟨ma87, (upd cf88 58 0), rfl, (show (cf88 30).toInt = 0 → (cf 30).toInt = 0 from by first | exact hkz_e91 | omega), (show WrV (upd cf88 58 0) (tf 6).toInt from (WrV.u hwr (by decide) (by decide))), (show (cf88 33).toInt = (cf 33).toInt from by first | exact e93 | omega), (show (cf88 37).toInt = (cf 37).toInt from by first | exact hkk37_e91 | omega), (show (cf88 38).toInt = (cf 38).toInt from by first | exact e94 | omega), (show (cf88 41).toInt = (cf 41).toInt from by first | exact hkk41_e91 | omega), (show (cf88 42).toInt = (cf 42).toInt from by first | exact hkk42_e91 | omega), (show (cf88 43).toInt = (cf 43).toInt from by first | exact hkk43_e91 | omega), (show (cf88 44).toInt = (cf 44).toInt from by first | exact hkk44_e91 | omega), (show (cf88 45).toInt = (cf 45).toInt from by first | exact hkk45_e91 | omega), (show (cf88 46).toInt = (cf 46).toInt from by first | exact e96 | omega), (show (cf88 47).toInt = (cf 47).toInt from by first | exact e97 | omega), (show (cf88 48).toInt = (cf 48).toInt from by first | exact e95 | omega), (show (cf88 54).toInt = (cf 54).toInt from by first | exact hkk54_e91 | omega), (show (cf88 55).toInt = (cf 55).toInt from by first | exact hkk55_e91 | omega), (show (cf88 59).toInt = (cf 59).toInt from by first | exact hkk59_e91 | omega), (show Ann na ma0 ma87 from han), (show FrC lo hi ma ma87 from hfc), (show 0 ≤ (0 : Int) from by first | exact oz_5a341f00aa | omega), (show (0 : Int) ≤ 4096 from by first | exact oz_37065d99f6 | omega), (show 0 ≤ z293.toInt from by omega), (show z293.toInt ≤ 4096 from by omega), (show (0 : Int) ≤ 4 * z293.toInt from by omega), (show ZAv (upd cf88 58 0) ta na ma87 p0 (0 : Int) from (ZAvF (by first | exact zr_no (by omega) | exact zr_no (by omega) | exact zav_0 han (by omega) (by have hav0 := hav.k0; omega) | exact zav_2 han (by omega) (by omega) hrl (by omega) (by omega) (by omega) | exact zav_3 han (by omega) (by omega) ha_z201 (by omega)))), (show R_mp_declareArray tf ta na ca p0 p1 ma cf ma87 (upd cf88 58 0) z293 from (Exists.intro 1 (Or.inl ⟨rfl, z84, ez84, ma87, cf88, v90, e102, Or.inr ⟨nc103, Or.inr ⟨nc158, Or.inl ⟨nc275, z277, ez277, Or.inl ⟨nc278, z280, ez280, Or.inl ⟨nc281, Or.inr ⟨nc283, Or.inr ⟨nc290, z292, ez292, z293, ez293, rfl, rfl, rfl⟩⟩⟩⟩⟩⟩⟩⟩)))⟩) d_Mpg_declareArray_208
          · have nc281 : z280.toInt = (3 : Int) := (i_eq (x := z280) (y := 3)).mp c281
            refine lv_aload_n S.x S.b d_Mpg_declareArray_135 rfl (lv_at hl 1 rfl) ?_
            refine px_get S k_Mpg hT hw 0 0 10 (v := .ref (r 10)) rfl rfl rfl (by decide) m9_234 d_Mpg_declareArray_136 ?_
            refine lv_aload_n S.x S.b d_Mpg_declareArray_139 rfl (lv_at hl 1 rfl) ?_
            refine px_get S k_Mpg hT hw 0 0 19 (v := .ref (r 19)) rfl rfl rfl (by decide) m10_5 d_Mpg_declareArray_140 ?_
            refine lv_iload_n S.x S.b d_Mpg_declareArray_143 rfl (lv_at hl 2 rfl) ?_
            refine px_iald S hT hw 0 15 (n := 2100) (f := (ma87 19)) rfl gp_19 (x := p0) (vp_in_iff.mpr (by first | exact oz_a7e05de1cd hvr.2.2.1 hvr.2.1 g1 g2 | (constructor <;> omega))) d_Mpg_declareArray_144 ?_
            refine lv_topi (fun z294 ez294 => ?_)
            have lz294 := Int32.le_toInt z294
            have uz294 := Int32.toInt_lt z294
            have ha_z294 : z294 = ma0 19 p0.toNatClampNeg := ez294.trans (Ann.v19 han (by omega)); have hn_z294 : z294.toInt = (ma0 19 p0.toNatClampNeg).toInt := (by rw [ha_z294]); have hk3 := hav.k3 (by omega); rw [← ha_z294] at hk3
            refine px_iald S hT hw 0 9 (n := 2060) (f := (ta 10)) rfl gp_10 (x := z294) (vp_in_iff.mpr (by first | exact oz_8859ebd461 hn_z294 hk3.1 hk3.2.1 g3 | (constructor <;> omega))) d_Mpg_declareArray_145 ?_
            refine lv_topi (fun z295 ez295 => ?_)
            have lz295 := Int32.le_toInt z295
            have uz295 := Int32.toInt_lt z295
            have rz295 : z295.toInt = wh ta z294 := by rw [ez295]; rfl
            have hw4 := tk_w4 htk (x := z294) (by omega) (by omega) ez295 (by omega)
            refine lv_iconst (v := 1) S.x S.b d_Mpg_declareArray_146 (by decide) ?_
            refine lv_iadd S.x S.b d_Mpg_declareArray_147 ?_
            refine lv_topi (fun z296 ez296 => ?_)
            have tz296 : z296.toInt = (z295.toInt + (1 : Int) + 2147483648) % 4294967296 - 2147483648 := by rw [ez296]; exact i_add z295 1
            have lz296 := Int32.le_toInt z296
            have uz296 := Int32.toInt_lt z296
            try replace tz296 : z296.toInt = z295.toInt + (1 : Int) := by omega
            refine lv_istore (lv' := [(4, .int z296), (3, .int (cf88 57)), (0, .ref h), (1, .int p0), (2, .int p1)]) S.x S.b d_Mpg_declareArray_148 hl (by decide) rfl (fun ls hl => ?_)
            refine lv_iload_n S.x S.b d_Mpg_declareArray_150 rfl (lv_at hl 4 rfl) ?_
            refine lv_if_eq (tgt := 164) S.x S.b d_Mpg_declareArray_151 (by decide) (fun c297 => ?_) (fun c297 => ?_)
            · have nc297 : p1.toInt = (0 : Int) := (i_eq (x := p1) (y := 0)).mp c297
              refine lv_aload_n S.x S.b d_Mpg_declareArray_164 rfl (lv_at hl 2 rfl) ?_
              refine lv_bipush (v := 8) S.x S.b d_Mpg_declareArray_165 (by decide) ?_
              refine lv_aload_n S.x S.b d_Mpg_declareArray_167 rfl (lv_at hl 2 rfl) ?_
              refine px_get S k_Mpg hT hw 0 0 19 (v := .ref (r 19)) rfl rfl rfl (by decide) m10_5 d_Mpg_declareArray_168 ?_
              refine lv_iload_n S.x S.b d_Mpg_declareArray_171 rfl (lv_at hl 3 rfl) ?_
              refine px_iald S hT hw 0 15 (n := 2100) (f := (ma87 19)) rfl gp_19 (x := p0) (vp_in_iff.mpr (by first | exact oz_a7e05de1cd hvr.2.2.1 hvr.2.1 g1 g2 | (constructor <;> omega))) d_Mpg_declareArray_172 ?_
              refine lv_topi (fun z299 ez299 => ?_)
              have lz299 := Int32.le_toInt z299
              have uz299 := Int32.toInt_lt z299
              have ha_z299 : z299 = ma0 19 p0.toNatClampNeg := ez299.trans (Ann.v19 han (by omega)); have hn_z299 : z299.toInt = (ma0 19 p0.toNatClampNeg).toInt := (by rw [ha_z299]); have hk3 := hav.k3 (by omega); rw [← ha_z299] at hk3
              refine px_callv (pr := []) (px_runV (As := [.int 8, .int z299]) (rest := []) S (c_mp_bad l D cs h r g tf ta pf na ma87 wa ca ef ea xf xa cf88 8 z299  (show 1 ≤ (8 : Int) from by first | exact oz_fe427bacb1 | omega) (show 0 ≤ z299.toInt from by first | exact oz_f3ebed1ad0 hn_z299 hk3.1 | omega) (show z299.toInt < (tf 6).toInt from by first | exact oz_b0a61accca hk3.2.1 hn_z299 | omega) htk hwr _) hT (pr := []) (pcs := [wdP cs h r g tf ta pf na ma87 wa cf88 ca ef ea xf xa]) hw px_X.tt (px_recv hT hw 0 0 rfl rfl rfl) m12_173 m12_170 m12_172 ms_11_12 m1_21 q_Mpg_bad ⟨show 0 + 1 ≤ (4 * d + 20) from (by first | exact oz_8385159a22 | omega), show 8 + (3 + 11) + 0 ≤ (200 * d + 700) from (by first | exact oz_a3cd9048d3 | omega)⟩ hl.1 rfl (Nat.le_of_ble_eq_true rfl) d_Mpg_declareArray_173 ⟨Nat.le_of_ble_eq_true rfl, Nat.le_of_ble_eq_true rfl⟩) hw hA (fun p302 H locs hp302 hw => ?_)
              obtain ⟨cf301, rfl, e304, e305, e306, e307, e308, e309, e310, e311, e312, e313, e314, e315, e316, e317, e318, e319, e320, e321, e322, e323⟩ := hp302
              have e304 : KpE cf88 cf301 := e304
              have hkz_e304 := e304.2
              have e305 : WrV cf301 (tf 6).toInt := e305
              have hwr := e305
              have hw0_e305 := hwr.1
              have e306 : 1 ≤ (cf301 30).toInt := e306
              have e307 : (cf301 33).toInt = (cf88 33).toInt := e307
              have e308 : (cf301 38).toInt = (cf88 38).toInt := e308
              have e309 : (cf301 48).toInt = (cf88 48).toInt := e309
              have e310 : (cf301 46).toInt = (cf88 46).toInt := e310
              have e311 : (cf301 47).toInt = (cf88 47).toInt := e311
              have e312 : (cf301 57).toInt = (cf88 57).toInt := e312
              have e313 : (cf301 37).toInt = (cf88 37).toInt := e313
              have e314 : (cf301 42).toInt = (cf88 42).toInt := e314
              have e315 : (cf301 43).toInt = (cf88 43).toInt := e315
              have e316 : (cf301 44).toInt = (cf88 44).toInt := e316
              have e317 : (cf301 45).toInt = (cf88 45).toInt := e317
              have e318 : (cf301 54).toInt = (cf88 54).toInt := e318
              have e319 : (cf301 55).toInt = (cf88 55).toInt := e319
              have e320 : (cf301 58).toInt = (cf88 58).toInt := e320
              have e321 : (cf301 59).toInt = (cf88 59).toInt := e321
              have e322 : (cf301 41).toInt = (cf88 41).toInt := e322
              have e323 : R_mp_bad (8 : Int32) z299 cf88 cf301 := e323
              have hw : pw D A s.heap H locs [wdP cs h r g tf ta pf na ma87 wa cf301 ca ef ea xf xa] := hw
              refine lv_aload_n S.x S.b d_Mpg_declareArray_176 rfl (lv_at hl 2 rfl) ?_
              refine lv_iload_n S.x S.b d_Mpg_declareArray_177 rfl (lv_at hl 1 rfl) ?_
              refine lv_if_ge (tgt := 185) S.x S.b d_Mpg_declareArray_178 (by decide) (fun c324 => ?_) (fun c324 => ?_)
              · have nc324 : (0 : Int) ≤ (cf88 57).toInt := (i_le (x := 0) (y := (cf88 57))).mp c324
                refine lv_iload_n S.x S.b d_Mpg_declareArray_185 rfl (lv_at hl 1 rfl) ?_
                refine px_put S k_Mpg hT hw 0 0 58 rfl rfl (by decide) m10_55 rfl rfl rfl (Nat.le_of_ble_eq_true rfl) d_Mpg_declareArray_186 (w' := wdP cs h r g tf ta pf na ma87 wa (upd cf301 58 (cf88 57)) ca ef ea xf xa) (ps' := [wdP cs h r g tf ta pf na ma87 wa (upd cf301 58 (cf88 57)) ca ef ea xf xa]) rfl rfl (fun H locs hw => ?_)
                refine lv_iload_n S.x S.b d_Mpg_declareArray_189 rfl (lv_at hl 4 rfl) ?_
                refine lv_if_eq (tgt := 204) S.x S.b d_Mpg_declareArray_190 (by decide) (fun c326 => ?_) (fun c326 => ?_)
                · have nc326 : p1.toInt = (0 : Int) := (i_eq (x := p1) (y := 0)).mp c326
                  refine lv_aload_n S.x S.b d_Mpg_declareArray_204 rfl (lv_at hl 2 rfl) ?_
                  refine px_get S k_Mpg hT hw 0 0 58 (v := .int (cf88 57)) rfl rfl rfl (by decide) m10_55 d_Mpg_declareArray_205 ?_
                  exact px_iret (v := (cf88 57)) S hr rfl hlk hAe hw (Nat.le_of_ble_eq_true rfl) (Nat.le_of_ble_eq_true rfl) (⟨ma87, (upd cf301 58 (cf88 57)), rfl, (show (cf301 30).toInt = 0 → (cf 30).toInt = 0 from by omega), (show WrV (upd cf301 58 (cf88 57)) (tf 6).toInt from (WrV.u hwr (by decide) (by decide))), (show (cf301 33).toInt = (cf 33).toInt from by first | exact oz_1687f4cc65 e93 e307 | omega), (show (cf301 37).toInt = (cf 37).toInt from by first | exact oz_1687f4cc65 hkk37_e91 e313 | omega), (show (cf301 38).toInt = (cf 38).toInt from by first | exact oz_1687f4cc65 e94 e308 | omega), (show (cf301 41).toInt = (cf 41).toInt from by first | exact oz_1687f4cc65 hkk41_e91 e322 | omega), (show (cf301 42).toInt = (cf 42).toInt from by first | exact oz_1687f4cc65 hkk42_e91 e314 | omega), (show (cf301 43).toInt = (cf 43).toInt from by first | exact oz_1687f4cc65 hkk43_e91 e315 | omega), (show (cf301 44).toInt = (cf 44).toInt from by first | exact oz_1687f4cc65 hkk44_e91 e316 | omega), (show (cf301 45).toInt = (cf 45).toInt from by first | exact oz_1687f4cc65 hkk45_e91 e317 | omega), (show (cf301 46).toInt = (cf 46).toInt from by first | exact oz_1687f4cc65 e96 e310 | omega), (show (cf301 47).toInt = (cf 47).toInt from by first | exact oz_1687f4cc65 e97 e311 | omega), (show (cf301 48).toInt = (cf 48).toInt from by first | exact oz_1687f4cc65 e95 e309 | omega), (show (cf301 54).toInt = (cf 54).toInt from by first | exact oz_1687f4cc65 hkk54_e91 e318 | omega), (show (cf301 55).toInt = (cf 55).toInt from by first | exact oz_1687f4cc65 hkk55_e91 e319 | omega), (show (cf301 59).toInt = (cf 59).toInt from by first | exact oz_1687f4cc65 hkk59_e91 e321 | omega), (show Ann na ma0 ma87 from han), (show FrC lo hi ma ma87 from hfc), (show 0 ≤ (cf88 57).toInt from by first | exact oz_0184fb6be8 nc158 | omega), (show (cf88 57).toInt ≤ 4096 from by first | exact oz_d819beab09 nc275 | omega), (show 0 ≤ (cf88 57).toInt from by first | exact oz_0184fb6be8 nc158 | omega), (show (cf88 57).toInt ≤ 4096 from by first | exact oz_d819beab09 nc275 | omega), (show (cf88 57).toInt ≤ 4 * (cf88 57).toInt from by first | exact oz_404e7427cb nc158 | omega), (show ZAv (upd cf301 58 (cf88 57)) ta na ma87 p0 (cf88 57).toInt from (zr_no (by first | omega | (show 1 ≤ _; rw [pk_un (by decide)]; omega)))), (show R_mp_declareArray tf ta na ca p0 p1 ma cf ma87 (upd cf301 58 (cf88 57)) (cf88 57) from (Exists.intro 1 (Or.inl ⟨rfl, z84, ez84, ma87, cf88, v90, e102, Or.inr ⟨nc103, Or.inr ⟨nc158, Or.inl ⟨nc275, z277, ez277, Or.inl ⟨nc278, z280, ez280, Or.inr ⟨nc281, z294, ez294, z295, ez295, z296, ez296, Or.inl ⟨nc297, z299, ez299, cf301, e323, Or.inl ⟨nc324, Or.inl ⟨nc326, rfl, rfl, rfl⟩⟩⟩⟩⟩⟩⟩⟩⟩)))⟩) d_Mpg_declareArray_208
                · have nc326 : ¬ p1.toInt = (0 : Int) := mt (i_eq (x := p1) (y := 0)).mpr c326
                  refine lv_aload_n S.x S.b d_Mpg_declareArray_193 rfl (lv_at hl 2 rfl) ?_
                  refine px_get S k_Mpg hT hw 0 0 58 (v := .int (cf88 57)) rfl rfl rfl (by decide) m10_55 d_Mpg_declareArray_194 ?_
                  refine lv_iconst (v := 3) S.x S.b d_Mpg_declareArray_197 (by decide) ?_
                  refine lv_iadd S.x S.b d_Mpg_declareArray_198 ?_
                  have lr328 := Int32.le_toInt (cf88 57)
                  have ur328 := Int32.toInt_lt (cf88 57)
                  refine lv_topi (fun z329 ez329 => ?_)
                  have tz329 : z329.toInt = ((cf88 57).toInt + (3 : Int) + 2147483648) % 4294967296 - 2147483648 := by rw [ez329]; exact i_add (cf88 57) 3
                  have lz329 := Int32.le_toInt z329
                  have uz329 := Int32.toInt_lt z329
                  try replace tz329 : z329.toInt = (cf88 57).toInt + (3 : Int) := by omega
                  refine lv_iconst (v := 4) S.x S.b d_Mpg_declareArray_199 (by decide) ?_
                  refine lv_idiv S.x S.b d_Mpg_declareArray_200 (fun hz0 => by have hz1 := i_eq.mp hz0; omega) ?_
                  refine lv_topi (fun z330 ez330 => ?_)
                  have lz330 := Int32.le_toInt z330
                  have uz330 := Int32.toInt_lt z330
                  have hd4 := i_div4 ez330 (by omega)
                  refine lv_goto (tgt := 208) S.x S.b d_Mpg_declareArray_201 (by decide) ?_
                  exact px_iret (v := z330) S hr rfl hlk hAe hw (Nat.le_of_ble_eq_true rfl) (Nat.le_of_ble_eq_true rfl) (⟨ma87, (upd cf301 58 (cf88 57)), rfl, (show (cf301 30).toInt = 0 → (cf 30).toInt = 0 from by omega), (show WrV (upd cf301 58 (cf88 57)) (tf 6).toInt from (WrV.u hwr (by decide) (by decide))), (show (cf301 33).toInt = (cf 33).toInt from by first | exact oz_1687f4cc65 e93 e307 | omega), (show (cf301 37).toInt = (cf 37).toInt from by first | exact oz_1687f4cc65 hkk37_e91 e313 | omega), (show (cf301 38).toInt = (cf 38).toInt from by first | exact oz_1687f4cc65 e94 e308 | omega), (show (cf301 41).toInt = (cf 41).toInt from by first | exact oz_1687f4cc65 hkk41_e91 e322 | omega), (show (cf301 42).toInt = (cf 42).toInt from by first | exact oz_1687f4cc65 hkk42_e91 e314 | omega), (show (cf301 43).toInt = (cf 43).toInt from by first | exact oz_1687f4cc65 hkk43_e91 e315 | omega), (show (cf301 44).toInt = (cf 44).toInt from by first | exact oz_1687f4cc65 hkk44_e91 e316 | omega), (show (cf301 45).toInt = (cf 45).toInt from by first | exact oz_1687f4cc65 hkk45_e91 e317 | omega), (show (cf301 46).toInt = (cf 46).toInt from by first | exact oz_1687f4cc65 e96 e310 | omega), (show (cf301 47).toInt = (cf 47).toInt from by first | exact oz_1687f4cc65 e97 e311 | omega), (show (cf301 48).toInt = (cf 48).toInt from by first | exact oz_1687f4cc65 e95 e309 | omega), (show (cf301 54).toInt = (cf 54).toInt from by first | exact oz_1687f4cc65 hkk54_e91 e318 | omega), (show (cf301 55).toInt = (cf 55).toInt from by first | exact oz_1687f4cc65 hkk55_e91 e319 | omega), (show (cf301 59).toInt = (cf 59).toInt from by first | exact oz_1687f4cc65 hkk59_e91 e321 | omega), (show Ann na ma0 ma87 from han), (show FrC lo hi ma ma87 from hfc), (show 0 ≤ (cf88 57).toInt from by first | exact oz_0184fb6be8 nc158 | omega), (show (cf88 57).toInt ≤ 4096 from by first | exact oz_d819beab09 nc275 | omega), (show 0 ≤ z330.toInt from by omega), (show z330.toInt ≤ 4096 from by omega), (show (cf88 57).toInt ≤ 4 * z330.toInt from by omega), (show ZAv (upd cf301 58 (cf88 57)) ta na ma87 p0 (cf88 57).toInt from (zr_no (by first | omega | (show 1 ≤ _; rw [pk_un (by decide)]; omega)))), (show R_mp_declareArray tf ta na ca p0 p1 ma cf ma87 (upd cf301 58 (cf88 57)) z330 from (Exists.intro 1 (Or.inl ⟨rfl, z84, ez84, ma87, cf88, v90, e102, Or.inr ⟨nc103, Or.inr ⟨nc158, Or.inl ⟨nc275, z277, ez277, Or.inl ⟨nc278, z280, ez280, Or.inr ⟨nc281, z294, ez294, z295, ez295, z296, ez296, Or.inl ⟨nc297, z299, ez299, cf301, e323, Or.inl ⟨nc324, Or.inr ⟨nc326, z329, ez329, z330, ez330, rfl, rfl, rfl⟩⟩⟩⟩⟩⟩⟩⟩⟩)))⟩) d_Mpg_declareArray_208
              · have nc324 : ¬ (0 : Int) ≤ (cf88 57).toInt := mt (i_le (x := 0) (y := (cf88 57))).mpr c324
                refine lv_iconst (v := 0) S.x S.b d_Mpg_declareArray_181 (by decide) ?_
                refine lv_goto (tgt := 186) S.x S.b d_Mpg_declareArray_182 (by decide) ?_
                refine px_put S k_Mpg hT hw 0 0 58 rfl rfl (by decide) m10_55 rfl rfl rfl (Nat.le_of_ble_eq_true rfl) d_Mpg_declareArray_186 (w' := wdP cs h r g tf ta pf na ma87 wa (upd cf301 58 0) ca ef ea xf xa) (ps' := [wdP cs h r g tf ta pf na ma87 wa (upd cf301 58 0) ca ef ea xf xa]) rfl rfl (fun H locs hw => ?_)
                refine lv_iload_n S.x S.b d_Mpg_declareArray_189 rfl (lv_at hl 4 rfl) ?_
                refine lv_if_eq (tgt := 204) S.x S.b d_Mpg_declareArray_190 (by decide) (fun c331 => ?_) (fun c331 => ?_)
                · have nc331 : p1.toInt = (0 : Int) := (i_eq (x := p1) (y := 0)).mp c331
                  refine lv_aload_n S.x S.b d_Mpg_declareArray_204 rfl (lv_at hl 2 rfl) ?_
                  refine px_get S k_Mpg hT hw 0 0 58 (v := .int 0) rfl rfl rfl (by decide) m10_55 d_Mpg_declareArray_205 ?_
                  exact px_iret (v := 0) S hr rfl hlk hAe hw (Nat.le_of_ble_eq_true rfl) (Nat.le_of_ble_eq_true rfl) (⟨ma87, (upd cf301 58 0), rfl, (show (cf301 30).toInt = 0 → (cf 30).toInt = 0 from by omega), (show WrV (upd cf301 58 0) (tf 6).toInt from (WrV.u hwr (by decide) (by decide))), (show (cf301 33).toInt = (cf 33).toInt from by first | exact oz_1687f4cc65 e93 e307 | omega), (show (cf301 37).toInt = (cf 37).toInt from by first | exact oz_1687f4cc65 hkk37_e91 e313 | omega), (show (cf301 38).toInt = (cf 38).toInt from by first | exact oz_1687f4cc65 e94 e308 | omega), (show (cf301 41).toInt = (cf 41).toInt from by first | exact oz_1687f4cc65 hkk41_e91 e322 | omega), (show (cf301 42).toInt = (cf 42).toInt from by first | exact oz_1687f4cc65 hkk42_e91 e314 | omega), (show (cf301 43).toInt = (cf 43).toInt from by first | exact oz_1687f4cc65 hkk43_e91 e315 | omega), (show (cf301 44).toInt = (cf 44).toInt from by first | exact oz_1687f4cc65 hkk44_e91 e316 | omega), (show (cf301 45).toInt = (cf 45).toInt from by first | exact oz_1687f4cc65 hkk45_e91 e317 | omega), (show (cf301 46).toInt = (cf 46).toInt from by first | exact oz_1687f4cc65 e96 e310 | omega), (show (cf301 47).toInt = (cf 47).toInt from by first | exact oz_1687f4cc65 e97 e311 | omega), (show (cf301 48).toInt = (cf 48).toInt from by first | exact oz_1687f4cc65 e95 e309 | omega), (show (cf301 54).toInt = (cf 54).toInt from by first | exact oz_1687f4cc65 hkk54_e91 e318 | omega), (show (cf301 55).toInt = (cf 55).toInt from by first | exact oz_1687f4cc65 hkk55_e91 e319 | omega), (show (cf301 59).toInt = (cf 59).toInt from by first | exact oz_1687f4cc65 hkk59_e91 e321 | omega), (show Ann na ma0 ma87 from han), (show FrC lo hi ma ma87 from hfc), (show 0 ≤ (0 : Int) from by first | exact oz_5a341f00aa | omega), (show (0 : Int) ≤ 4096 from by first | exact oz_37065d99f6 | omega), (show 0 ≤ (0 : Int) from by first | exact oz_5a341f00aa | omega), (show (0 : Int) ≤ 4096 from by first | exact oz_37065d99f6 | omega), (show (0 : Int) ≤ 4 * (0 : Int) from by first | exact oz_397c02ad98 | omega), (show ZAv (upd cf301 58 0) ta na ma87 p0 (0 : Int) from (zr_no (by first | omega | (show 1 ≤ _; rw [pk_un (by decide)]; omega)))), (show R_mp_declareArray tf ta na ca p0 p1 ma cf ma87 (upd cf301 58 0) (0 : Int32) from (Exists.intro 1 (Or.inl ⟨rfl, z84, ez84, ma87, cf88, v90, e102, Or.inr ⟨nc103, Or.inr ⟨nc158, Or.inl ⟨nc275, z277, ez277, Or.inl ⟨nc278, z280, ez280, Or.inr ⟨nc281, z294, ez294, z295, ez295, z296, ez296, Or.inl ⟨nc297, z299, ez299, cf301, e323, Or.inr ⟨nc324, Or.inl ⟨nc331, rfl, rfl, rfl⟩⟩⟩⟩⟩⟩⟩⟩⟩)))⟩) d_Mpg_declareArray_208
                · have nc331 : ¬ p1.toInt = (0 : Int) := mt (i_eq (x := p1) (y := 0)).mpr c331
                  refine lv_aload_n S.x S.b d_Mpg_declareArray_193 rfl (lv_at hl 2 rfl) ?_
                  refine px_get S k_Mpg hT hw 0 0 58 (v := .int 0) rfl rfl rfl (by decide) m10_55 d_Mpg_declareArray_194 ?_
                  refine lv_iconst (v := 3) S.x S.b d_Mpg_declareArray_197 (by decide) ?_
                  refine lv_iadd S.x S.b d_Mpg_declareArray_198 ?_
                  refine lv_topi (fun z333 ez333 => ?_)
                  have tz333 : z333.toInt = ((0 : Int) + (3 : Int) + 2147483648) % 4294967296 - 2147483648 := by rw [ez333]; exact i_add 0 3
                  have lz333 := Int32.le_toInt z333
                  have uz333 := Int32.toInt_lt z333
                  try replace tz333 : z333.toInt = (0 : Int) + (3 : Int) := by omega
                  refine lv_iconst (v := 4) S.x S.b d_Mpg_declareArray_199 (by decide) ?_
                  refine lv_idiv S.x S.b d_Mpg_declareArray_200 (fun hz0 => by have hz1 := i_eq.mp hz0; omega) ?_
                  refine lv_topi (fun z334 ez334 => ?_)
                  have lz334 := Int32.le_toInt z334
                  have uz334 := Int32.toInt_lt z334
                  have hd4 := i_div4 ez334 (by omega)
                  refine lv_goto (tgt := 208) S.x S.b d_Mpg_declareArray_201 (by decide) ?_
                  exact px_iret (v := z334) S hr rfl hlk hAe hw (Nat.le_of_ble_eq_true rfl) (Nat.le_of_ble_eq_true rfl) (⟨ma87, (upd cf301 58 0), rfl, (show (cf301 30).toInt = 0 → (cf 30).toInt = 0 from by omega), (show WrV (upd cf301 58 0) (tf 6).toInt from (WrV.u hwr (by decide) (by decide))), (show (cf301 33).toInt = (cf 33).toInt from by first | exact oz_1687f4cc65 e93 e307 | omega), (show (cf301 37).toInt = (cf 37).toInt from by first | exact oz_1687f4cc65 hkk37_e91 e313 | omega), (show (cf301 38).toInt = (cf 38).toInt from by first | exact oz_1687f4cc65 e94 e308 | omega), (show (cf301 41).toInt = (cf 41).toInt from by first | exact oz_1687f4cc65 hkk41_e91 e322 | omega), (show (cf301 42).toInt = (cf 42).toInt from by first | exact oz_1687f4cc65 hkk42_e91 e314 | omega), (show (cf301 43).toInt = (cf 43).toInt from by first | exact oz_1687f4cc65 hkk43_e91 e315 | omega), (show (cf301 44).toInt = (cf 44).toInt from by first | exact oz_1687f4cc65 hkk44_e91 e316 | omega), (show (cf301 45).toInt = (cf 45).toInt from by first | exact oz_1687f4cc65 hkk45_e91 e317 | omega), (show (cf301 46).toInt = (cf 46).toInt from by first | exact oz_1687f4cc65 e96 e310 | omega), (show (cf301 47).toInt = (cf 47).toInt from by first | exact oz_1687f4cc65 e97 e311 | omega), (show (cf301 48).toInt = (cf 48).toInt from by first | exact oz_1687f4cc65 e95 e309 | omega), (show (cf301 54).toInt = (cf 54).toInt from by first | exact oz_1687f4cc65 hkk54_e91 e318 | omega), (show (cf301 55).toInt = (cf 55).toInt from by first | exact oz_1687f4cc65 hkk55_e91 e319 | omega), (show (cf301 59).toInt = (cf 59).toInt from by first | exact oz_1687f4cc65 hkk59_e91 e321 | omega), (show Ann na ma0 ma87 from han), (show FrC lo hi ma ma87 from hfc), (show 0 ≤ (0 : Int) from by first | exact oz_5a341f00aa | omega), (show (0 : Int) ≤ 4096 from by first | exact oz_37065d99f6 | omega), (show 0 ≤ z334.toInt from by omega), (show z334.toInt ≤ 4096 from by omega), (show (0 : Int) ≤ 4 * z334.toInt from by omega), (show ZAv (upd cf301 58 0) ta na ma87 p0 (0 : Int) from (zr_no (by first | omega | (show 1 ≤ _; rw [pk_un (by decide)]; omega)))), (show R_mp_declareArray tf ta na ca p0 p1 ma cf ma87 (upd cf301 58 0) z334 from (Exists.intro 1 (Or.inl ⟨rfl, z84, ez84, ma87, cf88, v90, e102, Or.inr ⟨nc103, Or.inr ⟨nc158, Or.inl ⟨nc275, z277, ez277, Or.inl ⟨nc278, z280, ez280, Or.inr ⟨nc281, z294, ez294, z295, ez295, z296, ez296, Or.inl ⟨nc297, z299, ez299, cf301, e323, Or.inr ⟨nc324, Or.inr ⟨nc331, z333, ez333, z334, ez334, rfl, rfl, rfl⟩⟩⟩⟩⟩⟩⟩⟩⟩)))⟩) d_Mpg_declareArray_208
            · have nc297 : ¬ p1.toInt = (0 : Int) := mt (i_eq (x := p1) (y := 0)).mpr c297
              refine lv_iload_n S.x S.b d_Mpg_declareArray_154 rfl (lv_at hl 1 rfl) ?_
              refine lv_if_lt (tgt := 176) S.x S.b d_Mpg_declareArray_155 (by decide) (fun c335 => ?_) (fun c335 => ?_)
              · have nc335 : (cf88 57).toInt < (0 : Int) := (i_lt (x := (cf88 57)) (y := 0)).mp c335
                refine lv_aload_n S.x S.b d_Mpg_declareArray_176 rfl (lv_at hl 2 rfl) ?_
                refine lv_iload_n S.x S.b d_Mpg_declareArray_177 rfl (lv_at hl 1 rfl) ?_
                refine lv_if_ge (tgt := 185) S.x S.b d_Mpg_declareArray_178 (by decide) (fun c337 => ?_) (fun c337 => ?_)
                · have nc337 : (0 : Int) ≤ (cf88 57).toInt := (i_le (x := 0) (y := (cf88 57))).mp c337
                  refine lv_iload_n S.x S.b d_Mpg_declareArray_185 rfl (lv_at hl 1 rfl) ?_
                  refine px_put S k_Mpg hT hw 0 0 58 rfl rfl (by decide) m10_55 rfl rfl rfl (Nat.le_of_ble_eq_true rfl) d_Mpg_declareArray_186 (w' := wdP cs h r g tf ta pf na ma87 wa (upd cf88 58 (cf88 57)) ca ef ea xf xa) (ps' := [wdP cs h r g tf ta pf na ma87 wa (upd cf88 58 (cf88 57)) ca ef ea xf xa]) rfl rfl (fun H locs hw => ?_)
                  refine lv_iload_n S.x S.b d_Mpg_declareArray_189 rfl (lv_at hl 4 rfl) ?_
                  refine lv_if_eq (tgt := 204) S.x S.b d_Mpg_declareArray_190 (by decide) (fun c339 => ?_) (fun c339 => ?_)
                  · have nc339 : p1.toInt = (0 : Int) := (i_eq (x := p1) (y := 0)).mp c339
                    refine lv_aload_n S.x S.b d_Mpg_declareArray_204 rfl (lv_at hl 2 rfl) ?_
                    refine px_get S k_Mpg hT hw 0 0 58 (v := .int (cf88 57)) rfl rfl rfl (by decide) m10_55 d_Mpg_declareArray_205 ?_
                    exact px_iret (v := (cf88 57)) S hr rfl hlk hAe hw (Nat.le_of_ble_eq_true rfl) (Nat.le_of_ble_eq_true rfl) (⟨ma87, (upd cf88 58 (cf88 57)), rfl, (show (cf88 30).toInt = 0 → (cf 30).toInt = 0 from by first | exact hkz_e91 | omega), (show WrV (upd cf88 58 (cf88 57)) (tf 6).toInt from (WrV.u hwr (by decide) (by decide))), (show (cf88 33).toInt = (cf 33).toInt from by first | exact e93 | omega), (show (cf88 37).toInt = (cf 37).toInt from by first | exact hkk37_e91 | omega), (show (cf88 38).toInt = (cf 38).toInt from by first | exact e94 | omega), (show (cf88 41).toInt = (cf 41).toInt from by first | exact hkk41_e91 | omega), (show (cf88 42).toInt = (cf 42).toInt from by first | exact hkk42_e91 | omega), (show (cf88 43).toInt = (cf 43).toInt from by first | exact hkk43_e91 | omega), (show (cf88 44).toInt = (cf 44).toInt from by first | exact hkk44_e91 | omega), (show (cf88 45).toInt = (cf 45).toInt from by first | exact hkk45_e91 | omega), (show (cf88 46).toInt = (cf 46).toInt from by first | exact e96 | omega), (show (cf88 47).toInt = (cf 47).toInt from by first | exact e97 | omega), (show (cf88 48).toInt = (cf 48).toInt from by first | exact e95 | omega), (show (cf88 54).toInt = (cf 54).toInt from by first | exact hkk54_e91 | omega), (show (cf88 55).toInt = (cf 55).toInt from by first | exact hkk55_e91 | omega), (show (cf88 59).toInt = (cf 59).toInt from by first | exact hkk59_e91 | omega), (show Ann na ma0 ma87 from han), (show FrC lo hi ma ma87 from hfc), (show 0 ≤ (cf88 57).toInt from by first | exact oz_0184fb6be8 nc158 | omega), (show (cf88 57).toInt ≤ 4096 from by first | exact oz_8d86603399 nc335 | omega), (show 0 ≤ (cf88 57).toInt from by first | exact oz_0184fb6be8 nc158 | omega), (show (cf88 57).toInt ≤ 4096 from by first | exact oz_8d86603399 nc335 | omega), (show (cf88 57).toInt ≤ 4 * (cf88 57).toInt from by first | exact oz_404e7427cb nc158 | omega), (show ZAv (upd cf88 58 (cf88 57)) ta na ma87 p0 (cf88 57).toInt from (ZAvF (by first | exact zav_3 han (by omega) (by omega) ha_z294 (by omega) | exact zr_no (by omega) | exact zav_0 han (by omega) (by have hav0 := hav.k0; omega) | exact zav_2 han (by omega) (by omega) hrl (by omega) (by omega) (by omega) | exact zav_3 han (by omega) (by omega) ha_z294 (by omega)))), (show R_mp_declareArray tf ta na ca p0 p1 ma cf ma87 (upd cf88 58 (cf88 57)) (cf88 57) from (Exists.intro 1 (Or.inl ⟨rfl, z84, ez84, ma87, cf88, v90, e102, Or.inr ⟨nc103, Or.inr ⟨nc158, Or.inl ⟨nc275, z277, ez277, Or.inl ⟨nc278, z280, ez280, Or.inr ⟨nc281, z294, ez294, z295, ez295, z296, ez296, Or.inr ⟨nc297, Or.inl ⟨nc335, Or.inl ⟨nc337, Or.inl ⟨nc339, rfl, rfl, rfl⟩⟩⟩⟩⟩⟩⟩⟩⟩⟩)))⟩) d_Mpg_declareArray_208
                  · have nc339 : ¬ p1.toInt = (0 : Int) := mt (i_eq (x := p1) (y := 0)).mpr c339
                    refine lv_aload_n S.x S.b d_Mpg_declareArray_193 rfl (lv_at hl 2 rfl) ?_
                    refine px_get S k_Mpg hT hw 0 0 58 (v := .int (cf88 57)) rfl rfl rfl (by decide) m10_55 d_Mpg_declareArray_194 ?_
                    refine lv_iconst (v := 3) S.x S.b d_Mpg_declareArray_197 (by decide) ?_
                    refine lv_iadd S.x S.b d_Mpg_declareArray_198 ?_
                    have lr341 := Int32.le_toInt (cf88 57)
                    have ur341 := Int32.toInt_lt (cf88 57)
                    refine lv_topi (fun z342 ez342 => ?_)
                    have tz342 : z342.toInt = ((cf88 57).toInt + (3 : Int) + 2147483648) % 4294967296 - 2147483648 := by rw [ez342]; exact i_add (cf88 57) 3
                    have lz342 := Int32.le_toInt z342
                    have uz342 := Int32.toInt_lt z342
                    try replace tz342 : z342.toInt = (cf88 57).toInt + (3 : Int) := by first | exact oz_95a53c78cb nc158 nc335 | omega
                    refine lv_iconst (v := 4) S.x S.b d_Mpg_declareArray_199 (by decide) ?_
                    refine lv_idiv S.x S.b d_Mpg_declareArray_200 (fun hz0 => by have hz1 := i_eq.mp hz0; omega) ?_
                    refine lv_topi (fun z343 ez343 => ?_)
                    have lz343 := Int32.le_toInt z343
                    have uz343 := Int32.toInt_lt z343
                    have hd4 := i_div4 ez343 (by omega)
                    refine lv_goto (tgt := 208) S.x S.b d_Mpg_declareArray_201 (by decide) ?_
                    exact px_iret (v := z343) S hr rfl hlk hAe hw (Nat.le_of_ble_eq_true rfl) (Nat.le_of_ble_eq_true rfl) (⟨ma87, (upd cf88 58 (cf88 57)), rfl, (show (cf88 30).toInt = 0 → (cf 30).toInt = 0 from by first | exact hkz_e91 | omega), (show WrV (upd cf88 58 (cf88 57)) (tf 6).toInt from (WrV.u hwr (by decide) (by decide))), (show (cf88 33).toInt = (cf 33).toInt from by first | exact e93 | omega), (show (cf88 37).toInt = (cf 37).toInt from by first | exact hkk37_e91 | omega), (show (cf88 38).toInt = (cf 38).toInt from by first | exact e94 | omega), (show (cf88 41).toInt = (cf 41).toInt from by first | exact hkk41_e91 | omega), (show (cf88 42).toInt = (cf 42).toInt from by first | exact hkk42_e91 | omega), (show (cf88 43).toInt = (cf 43).toInt from by first | exact hkk43_e91 | omega), (show (cf88 44).toInt = (cf 44).toInt from by first | exact hkk44_e91 | omega), (show (cf88 45).toInt = (cf 45).toInt from by first | exact hkk45_e91 | omega), (show (cf88 46).toInt = (cf 46).toInt from by first | exact e96 | omega), (show (cf88 47).toInt = (cf 47).toInt from by first | exact e97 | omega), (show (cf88 48).toInt = (cf 48).toInt from by first | exact e95 | omega), (show (cf88 54).toInt = (cf 54).toInt from by first | exact hkk54_e91 | omega), (show (cf88 55).toInt = (cf 55).toInt from by first | exact hkk55_e91 | omega), (show (cf88 59).toInt = (cf 59).toInt from by first | exact hkk59_e91 | omega), (show Ann na ma0 ma87 from han), (show FrC lo hi ma ma87 from hfc), (show 0 ≤ (cf88 57).toInt from by first | exact oz_0184fb6be8 nc158 | omega), (show (cf88 57).toInt ≤ 4096 from by first | exact oz_8d86603399 nc335 | omega), (show 0 ≤ z343.toInt from by omega), (show z343.toInt ≤ 4096 from by omega), (show (cf88 57).toInt ≤ 4 * z343.toInt from by first | exact oz_be61439b89 nc158 nc335 | omega), (show ZAv (upd cf88 58 (cf88 57)) ta na ma87 p0 (cf88 57).toInt from (ZAvF (by first | exact zav_3 han (by omega) (by omega) ha_z294 (by omega) | exact zr_no (by omega) | exact zav_0 han (by omega) (by have hav0 := hav.k0; omega) | exact zav_2 han (by omega) (by omega) hrl (by omega) (by omega) (by omega) | exact zav_3 han (by omega) (by omega) ha_z294 (by omega)))), (show R_mp_declareArray tf ta na ca p0 p1 ma cf ma87 (upd cf88 58 (cf88 57)) z343 from (Exists.intro 1 (Or.inl ⟨rfl, z84, ez84, ma87, cf88, v90, e102, Or.inr ⟨nc103, Or.inr ⟨nc158, Or.inl ⟨nc275, z277, ez277, Or.inl ⟨nc278, z280, ez280, Or.inr ⟨nc281, z294, ez294, z295, ez295, z296, ez296, Or.inr ⟨nc297, Or.inl ⟨nc335, Or.inl ⟨nc337, Or.inr ⟨nc339, z342, ez342, z343, ez343, rfl, rfl, rfl⟩⟩⟩⟩⟩⟩⟩⟩⟩⟩)))⟩) d_Mpg_declareArray_208
                · have nc337 : ¬ (0 : Int) ≤ (cf88 57).toInt := mt (i_le (x := 0) (y := (cf88 57))).mpr c337
                  refine lv_iconst (v := 0) S.x S.b d_Mpg_declareArray_181 (by decide) ?_
                  refine lv_goto (tgt := 186) S.x S.b d_Mpg_declareArray_182 (by decide) ?_
                  refine px_put S k_Mpg hT hw 0 0 58 rfl rfl (by decide) m10_55 rfl rfl rfl (Nat.le_of_ble_eq_true rfl) d_Mpg_declareArray_186 (w' := wdP cs h r g tf ta pf na ma87 wa (upd cf88 58 0) ca ef ea xf xa) (ps' := [wdP cs h r g tf ta pf na ma87 wa (upd cf88 58 0) ca ef ea xf xa]) rfl rfl (fun H locs hw => ?_)
                  refine lv_iload_n S.x S.b d_Mpg_declareArray_189 rfl (lv_at hl 4 rfl) ?_
                  refine lv_if_eq (tgt := 204) S.x S.b d_Mpg_declareArray_190 (by decide) (fun c344 => ?_) (fun c344 => ?_)
                  · have nc344 : p1.toInt = (0 : Int) := (i_eq (x := p1) (y := 0)).mp c344
                    refine lv_aload_n S.x S.b d_Mpg_declareArray_204 rfl (lv_at hl 2 rfl) ?_
                    refine px_get S k_Mpg hT hw 0 0 58 (v := .int 0) rfl rfl rfl (by decide) m10_55 d_Mpg_declareArray_205 ?_
                    exact px_iret (v := 0) S hr rfl hlk hAe hw (Nat.le_of_ble_eq_true rfl) (Nat.le_of_ble_eq_true rfl) (⟨ma87, (upd cf88 58 0), rfl, (show (cf88 30).toInt = 0 → (cf 30).toInt = 0 from by first | exact hkz_e91 | omega), (show WrV (upd cf88 58 0) (tf 6).toInt from (WrV.u hwr (by decide) (by decide))), (show (cf88 33).toInt = (cf 33).toInt from by first | exact e93 | omega), (show (cf88 37).toInt = (cf 37).toInt from by first | exact hkk37_e91 | omega), (show (cf88 38).toInt = (cf 38).toInt from by first | exact e94 | omega), (show (cf88 41).toInt = (cf 41).toInt from by first | exact hkk41_e91 | omega), (show (cf88 42).toInt = (cf 42).toInt from by first | exact hkk42_e91 | omega), (show (cf88 43).toInt = (cf 43).toInt from by first | exact hkk43_e91 | omega), (show (cf88 44).toInt = (cf 44).toInt from by first | exact hkk44_e91 | omega), (show (cf88 45).toInt = (cf 45).toInt from by first | exact hkk45_e91 | omega), (show (cf88 46).toInt = (cf 46).toInt from by first | exact e96 | omega), (show (cf88 47).toInt = (cf 47).toInt from by first | exact e97 | omega), (show (cf88 48).toInt = (cf 48).toInt from by first | exact e95 | omega), (show (cf88 54).toInt = (cf 54).toInt from by first | exact hkk54_e91 | omega), (show (cf88 55).toInt = (cf 55).toInt from by first | exact hkk55_e91 | omega), (show (cf88 59).toInt = (cf 59).toInt from by first | exact hkk59_e91 | omega), (show Ann na ma0 ma87 from han), (show FrC lo hi ma ma87 from hfc), (show 0 ≤ (0 : Int) from by first | exact oz_5a341f00aa | omega), (show (0 : Int) ≤ 4096 from by first | exact oz_37065d99f6 | omega), (show 0 ≤ (0 : Int) from by first | exact oz_5a341f00aa | omega), (show (0 : Int) ≤ 4096 from by first | exact oz_37065d99f6 | omega), (show (0 : Int) ≤ 4 * (0 : Int) from by first | exact oz_397c02ad98 | omega), (show ZAv (upd cf88 58 0) ta na ma87 p0 (0 : Int) from (ZAvF (by first | exact zr_no (by omega) | exact zr_no (by omega) | exact zav_0 han (by omega) (by have hav0 := hav.k0; omega) | exact zav_2 han (by omega) (by omega) hrl (by omega) (by omega) (by omega) | exact zav_3 han (by omega) (by omega) ha_z294 (by omega)))), (show R_mp_declareArray tf ta na ca p0 p1 ma cf ma87 (upd cf88 58 0) (0 : Int32) from (Exists.intro 1 (Or.inl ⟨rfl, z84, ez84, ma87, cf88, v90, e102, Or.inr ⟨nc103, Or.inr ⟨nc158, Or.inl ⟨nc275, z277, ez277, Or.inl ⟨nc278, z280, ez280, Or.inr ⟨nc281, z294, ez294, z295, ez295, z296, ez296, Or.inr ⟨nc297, Or.inl ⟨nc335, Or.inr ⟨nc337, Or.inl ⟨nc344, rfl, rfl, rfl⟩⟩⟩⟩⟩⟩⟩⟩⟩⟩)))⟩) d_Mpg_declareArray_208
                  · have nc344 : ¬ p1.toInt = (0 : Int) := mt (i_eq (x := p1) (y := 0)).mpr c344
                    refine lv_aload_n S.x S.b d_Mpg_declareArray_193 rfl (lv_at hl 2 rfl) ?_
                    refine px_get S k_Mpg hT hw 0 0 58 (v := .int 0) rfl rfl rfl (by decide) m10_55 d_Mpg_declareArray_194 ?_
                    refine lv_iconst (v := 3) S.x S.b d_Mpg_declareArray_197 (by decide) ?_
                    refine lv_iadd S.x S.b d_Mpg_declareArray_198 ?_
                    refine lv_topi (fun z346 ez346 => ?_)
                    have tz346 : z346.toInt = ((0 : Int) + (3 : Int) + 2147483648) % 4294967296 - 2147483648 := by rw [ez346]; exact i_add 0 3
                    have lz346 := Int32.le_toInt z346
                    have uz346 := Int32.toInt_lt z346
                    try replace tz346 : z346.toInt = (0 : Int) + (3 : Int) := by omega
                    refine lv_iconst (v := 4) S.x S.b d_Mpg_declareArray_199 (by decide) ?_
                    refine lv_idiv S.x S.b d_Mpg_declareArray_200 (fun hz0 => by have hz1 := i_eq.mp hz0; omega) ?_
                    refine lv_topi (fun z347 ez347 => ?_)
                    have lz347 := Int32.le_toInt z347
                    have uz347 := Int32.toInt_lt z347
                    have hd4 := i_div4 ez347 (by omega)
                    refine lv_goto (tgt := 208) S.x S.b d_Mpg_declareArray_201 (by decide) ?_
                    exact px_iret (v := z347) S hr rfl hlk hAe hw (Nat.le_of_ble_eq_true rfl) (Nat.le_of_ble_eq_true rfl) (⟨ma87, (upd cf88 58 0), rfl, (show (cf88 30).toInt = 0 → (cf 30).toInt = 0 from by first | exact hkz_e91 | omega), (show WrV (upd cf88 58 0) (tf 6).toInt from (WrV.u hwr (by decide) (by decide))), (show (cf88 33).toInt = (cf 33).toInt from by first | exact e93 | omega), (show (cf88 37).toInt = (cf 37).toInt from by first | exact hkk37_e91 | omega), (show (cf88 38).toInt = (cf 38).toInt from by first | exact e94 | omega), (show (cf88 41).toInt = (cf 41).toInt from by first | exact hkk41_e91 | omega), (show (cf88 42).toInt = (cf 42).toInt from by first | exact hkk42_e91 | omega), (show (cf88 43).toInt = (cf 43).toInt from by first | exact hkk43_e91 | omega), (show (cf88 44).toInt = (cf 44).toInt from by first | exact hkk44_e91 | omega), (show (cf88 45).toInt = (cf 45).toInt from by first | exact hkk45_e91 | omega), (show (cf88 46).toInt = (cf 46).toInt from by first | exact e96 | omega), (show (cf88 47).toInt = (cf 47).toInt from by first | exact e97 | omega), (show (cf88 48).toInt = (cf 48).toInt from by first | exact e95 | omega), (show (cf88 54).toInt = (cf 54).toInt from by first | exact hkk54_e91 | omega), (show (cf88 55).toInt = (cf 55).toInt from by first | exact hkk55_e91 | omega), (show (cf88 59).toInt = (cf 59).toInt from by first | exact hkk59_e91 | omega), (show Ann na ma0 ma87 from han), (show FrC lo hi ma ma87 from hfc), (show 0 ≤ (0 : Int) from by first | exact oz_5a341f00aa | omega), (show (0 : Int) ≤ 4096 from by first | exact oz_37065d99f6 | omega), (show 0 ≤ z347.toInt from by omega), (show z347.toInt ≤ 4096 from by omega), (show (0 : Int) ≤ 4 * z347.toInt from by omega), (show ZAv (upd cf88 58 0) ta na ma87 p0 (0 : Int) from (ZAvF (by first | exact zr_no (by omega) | exact zr_no (by omega) | exact zav_0 han (by omega) (by have hav0 := hav.k0; omega) | exact zav_2 han (by omega) (by omega) hrl (by omega) (by omega) (by omega) | exact zav_3 han (by omega) (by omega) ha_z294 (by omega)))), (show R_mp_declareArray tf ta na ca p0 p1 ma cf ma87 (upd cf88 58 0) z347 from (Exists.intro 1 (Or.inl ⟨rfl, z84, ez84, ma87, cf88, v90, e102, Or.inr ⟨nc103, Or.inr ⟨nc158, Or.inl ⟨nc275, z277, ez277, Or.inl ⟨nc278, z280, ez280, Or.inr ⟨nc281, z294, ez294, z295, ez295, z296, ez296, Or.inr ⟨nc297, Or.inl ⟨nc335, Or.inr ⟨nc337, Or.inr ⟨nc344, z346, ez346, z347, ez347, rfl, rfl, rfl⟩⟩⟩⟩⟩⟩⟩⟩⟩⟩)))⟩) d_Mpg_declareArray_208
              · have nc335 : ¬ (cf88 57).toInt < (0 : Int) := mt (i_lt (x := (cf88 57)) (y := 0)).mpr c335
                refine lv_iload S.x S.b d_Mpg_declareArray_158 (lv_at hl 0 rfl) ?_
                refine lv_iload_n S.x S.b d_Mpg_declareArray_160 rfl (lv_at hl 1 rfl) ?_
                refine lv_icmp_le (tgt := 176) S.x S.b d_Mpg_declareArray_161 (by decide) (fun c348 => ?_) (fun c348 => ?_)
                · have nc348 : z296.toInt ≤ (cf88 57).toInt := (i_le (x := z296) (y := (cf88 57))).mp c348
                  refine lv_aload_n S.x S.b d_Mpg_declareArray_176 rfl (lv_at hl 2 rfl) ?_
                  refine lv_iload_n S.x S.b d_Mpg_declareArray_177 rfl (lv_at hl 1 rfl) ?_
                  refine lv_if_ge (tgt := 185) S.x S.b d_Mpg_declareArray_178 (by decide) (fun c350 => ?_) (fun c350 => ?_)
                  · have nc350 : (0 : Int) ≤ (cf88 57).toInt := (i_le (x := 0) (y := (cf88 57))).mp c350
                    refine lv_iload_n S.x S.b d_Mpg_declareArray_185 rfl (lv_at hl 1 rfl) ?_
                    refine px_put S k_Mpg hT hw 0 0 58 rfl rfl (by decide) m10_55 rfl rfl rfl (Nat.le_of_ble_eq_true rfl) d_Mpg_declareArray_186 (w' := wdP cs h r g tf ta pf na ma87 wa (upd cf88 58 (cf88 57)) ca ef ea xf xa) (ps' := [wdP cs h r g tf ta pf na ma87 wa (upd cf88 58 (cf88 57)) ca ef ea xf xa]) rfl rfl (fun H locs hw => ?_)
                    refine lv_iload_n S.x S.b d_Mpg_declareArray_189 rfl (lv_at hl 4 rfl) ?_
                    refine lv_if_eq (tgt := 204) S.x S.b d_Mpg_declareArray_190 (by decide) (fun c352 => ?_) (fun c352 => ?_)
                    · have nc352 : p1.toInt = (0 : Int) := (i_eq (x := p1) (y := 0)).mp c352
                      refine lv_aload_n S.x S.b d_Mpg_declareArray_204 rfl (lv_at hl 2 rfl) ?_
                      refine px_get S k_Mpg hT hw 0 0 58 (v := .int (cf88 57)) rfl rfl rfl (by decide) m10_55 d_Mpg_declareArray_205 ?_
                      exact px_iret (v := (cf88 57)) S hr rfl hlk hAe hw (Nat.le_of_ble_eq_true rfl) (Nat.le_of_ble_eq_true rfl) (⟨ma87, (upd cf88 58 (cf88 57)), rfl, (show (cf88 30).toInt = 0 → (cf 30).toInt = 0 from by first | exact hkz_e91 | omega), (show WrV (upd cf88 58 (cf88 57)) (tf 6).toInt from (WrV.u hwr (by decide) (by decide))), (show (cf88 33).toInt = (cf 33).toInt from by first | exact e93 | omega), (show (cf88 37).toInt = (cf 37).toInt from by first | exact hkk37_e91 | omega), (show (cf88 38).toInt = (cf 38).toInt from by first | exact e94 | omega), (show (cf88 41).toInt = (cf 41).toInt from by first | exact hkk41_e91 | omega), (show (cf88 42).toInt = (cf 42).toInt from by first | exact hkk42_e91 | omega), (show (cf88 43).toInt = (cf 43).toInt from by first | exact hkk43_e91 | omega), (show (cf88 44).toInt = (cf 44).toInt from by first | exact hkk44_e91 | omega), (show (cf88 45).toInt = (cf 45).toInt from by first | exact hkk45_e91 | omega), (show (cf88 46).toInt = (cf 46).toInt from by first | exact e96 | omega), (show (cf88 47).toInt = (cf 47).toInt from by first | exact e97 | omega), (show (cf88 48).toInt = (cf 48).toInt from by first | exact e95 | omega), (show (cf88 54).toInt = (cf 54).toInt from by first | exact hkk54_e91 | omega), (show (cf88 55).toInt = (cf 55).toInt from by first | exact hkk55_e91 | omega), (show (cf88 59).toInt = (cf 59).toInt from by first | exact hkk59_e91 | omega), (show Ann na ma0 ma87 from han), (show FrC lo hi ma ma87 from hfc), (show 0 ≤ (cf88 57).toInt from by first | exact oz_0184fb6be8 nc158 | omega), (show (cf88 57).toInt ≤ 4096 from by first | exact oz_d819beab09 nc275 | omega), (show 0 ≤ (cf88 57).toInt from by first | exact oz_0184fb6be8 nc158 | omega), (show (cf88 57).toInt ≤ 4096 from by first | exact oz_d819beab09 nc275 | omega), (show (cf88 57).toInt ≤ 4 * (cf88 57).toInt from by first | exact oz_404e7427cb nc158 | omega), (show ZAv (upd cf88 58 (cf88 57)) ta na ma87 p0 (cf88 57).toInt from (ZAvF (by first | exact zav_3 han (by omega) (by omega) ha_z294 (by omega) | exact zr_no (by omega) | exact zav_0 han (by omega) (by have hav0 := hav.k0; omega) | exact zav_2 han (by omega) (by omega) hrl (by omega) (by omega) (by omega) | exact zav_3 han (by omega) (by omega) ha_z294 (by omega)))), (show R_mp_declareArray tf ta na ca p0 p1 ma cf ma87 (upd cf88 58 (cf88 57)) (cf88 57) from (Exists.intro 1 (Or.inl ⟨rfl, z84, ez84, ma87, cf88, v90, e102, Or.inr ⟨nc103, Or.inr ⟨nc158, Or.inl ⟨nc275, z277, ez277, Or.inl ⟨nc278, z280, ez280, Or.inr ⟨nc281, z294, ez294, z295, ez295, z296, ez296, Or.inr ⟨nc297, Or.inr ⟨nc335, Or.inl ⟨nc348, Or.inl ⟨nc350, Or.inl ⟨nc352, rfl, rfl, rfl⟩⟩⟩⟩⟩⟩⟩⟩⟩⟩⟩)))⟩) d_Mpg_declareArray_208
                    · have nc352 : ¬ p1.toInt = (0 : Int) := mt (i_eq (x := p1) (y := 0)).mpr c352
                      refine lv_aload_n S.x S.b d_Mpg_declareArray_193 rfl (lv_at hl 2 rfl) ?_
                      refine px_get S k_Mpg hT hw 0 0 58 (v := .int (cf88 57)) rfl rfl rfl (by decide) m10_55 d_Mpg_declareArray_194 ?_
                      refine lv_iconst (v := 3) S.x S.b d_Mpg_declareArray_197 (by decide) ?_
                      refine lv_iadd S.x S.b d_Mpg_declareArray_198 ?_
                      have lr354 := Int32.le_toInt (cf88 57)
                      have ur354 := Int32.toInt_lt (cf88 57)
                      refine lv_topi (fun z355 ez355 => ?_)
                      have tz355 : z355.toInt = ((cf88 57).toInt + (3 : Int) + 2147483648) % 4294967296 - 2147483648 := by rw [ez355]; exact i_add (cf88 57) 3
                      have lz355 := Int32.le_toInt z355
                      have uz355 := Int32.toInt_lt z355
                      try replace tz355 : z355.toInt = (cf88 57).toInt + (3 : Int) := by omega
                      refine lv_iconst (v := 4) S.x S.b d_Mpg_declareArray_199 (by decide) ?_
                      refine lv_idiv S.x S.b d_Mpg_declareArray_200 (fun hz0 => by have hz1 := i_eq.mp hz0; omega) ?_
                      refine lv_topi (fun z356 ez356 => ?_)
                      have lz356 := Int32.le_toInt z356
                      have uz356 := Int32.toInt_lt z356
                      have hd4 := i_div4 ez356 (by omega)
                      refine lv_goto (tgt := 208) S.x S.b d_Mpg_declareArray_201 (by decide) ?_
                      exact px_iret (v := z356) S hr rfl hlk hAe hw (Nat.le_of_ble_eq_true rfl) (Nat.le_of_ble_eq_true rfl) (⟨ma87, (upd cf88 58 (cf88 57)), rfl, (show (cf88 30).toInt = 0 → (cf 30).toInt = 0 from by first | exact hkz_e91 | omega), (show WrV (upd cf88 58 (cf88 57)) (tf 6).toInt from (WrV.u hwr (by decide) (by decide))), (show (cf88 33).toInt = (cf 33).toInt from by first | exact e93 | omega), (show (cf88 37).toInt = (cf 37).toInt from by first | exact hkk37_e91 | omega), (show (cf88 38).toInt = (cf 38).toInt from by first | exact e94 | omega), (show (cf88 41).toInt = (cf 41).toInt from by first | exact hkk41_e91 | omega), (show (cf88 42).toInt = (cf 42).toInt from by first | exact hkk42_e91 | omega), (show (cf88 43).toInt = (cf 43).toInt from by first | exact hkk43_e91 | omega), (show (cf88 44).toInt = (cf 44).toInt from by first | exact hkk44_e91 | omega), (show (cf88 45).toInt = (cf 45).toInt from by first | exact hkk45_e91 | omega), (show (cf88 46).toInt = (cf 46).toInt from by first | exact e96 | omega), (show (cf88 47).toInt = (cf 47).toInt from by first | exact e97 | omega), (show (cf88 48).toInt = (cf 48).toInt from by first | exact e95 | omega), (show (cf88 54).toInt = (cf 54).toInt from by first | exact hkk54_e91 | omega), (show (cf88 55).toInt = (cf 55).toInt from by first | exact hkk55_e91 | omega), (show (cf88 59).toInt = (cf 59).toInt from by first | exact hkk59_e91 | omega), (show Ann na ma0 ma87 from han), (show FrC lo hi ma ma87 from hfc), (show 0 ≤ (cf88 57).toInt from by first | exact oz_0184fb6be8 nc158 | omega), (show (cf88 57).toInt ≤ 4096 from by first | exact oz_d819beab09 nc275 | omega), (show 0 ≤ z356.toInt from by omega), (show z356.toInt ≤ 4096 from by omega), (show (cf88 57).toInt ≤ 4 * z356.toInt from by omega), (show ZAv (upd cf88 58 (cf88 57)) ta na ma87 p0 (cf88 57).toInt from (ZAvF (by first | exact zav_3 han (by omega) (by omega) ha_z294 (by omega) | exact zr_no (by omega) | exact zav_0 han (by omega) (by have hav0 := hav.k0; omega) | exact zav_2 han (by omega) (by omega) hrl (by omega) (by omega) (by omega) | exact zav_3 han (by omega) (by omega) ha_z294 (by omega)))), (show R_mp_declareArray tf ta na ca p0 p1 ma cf ma87 (upd cf88 58 (cf88 57)) z356 from (Exists.intro 1 (Or.inl ⟨rfl, z84, ez84, ma87, cf88, v90, e102, Or.inr ⟨nc103, Or.inr ⟨nc158, Or.inl ⟨nc275, z277, ez277, Or.inl ⟨nc278, z280, ez280, Or.inr ⟨nc281, z294, ez294, z295, ez295, z296, ez296, Or.inr ⟨nc297, Or.inr ⟨nc335, Or.inl ⟨nc348, Or.inl ⟨nc350, Or.inr ⟨nc352, z355, ez355, z356, ez356, rfl, rfl, rfl⟩⟩⟩⟩⟩⟩⟩⟩⟩⟩⟩)))⟩) d_Mpg_declareArray_208
                  · have nc350 : ¬ (0 : Int) ≤ (cf88 57).toInt := mt (i_le (x := 0) (y := (cf88 57))).mpr c350
                    refine lv_iconst (v := 0) S.x S.b d_Mpg_declareArray_181 (by decide) ?_
                    refine lv_goto (tgt := 186) S.x S.b d_Mpg_declareArray_182 (by decide) ?_
                    refine px_put S k_Mpg hT hw 0 0 58 rfl rfl (by decide) m10_55 rfl rfl rfl (Nat.le_of_ble_eq_true rfl) d_Mpg_declareArray_186 (w' := wdP cs h r g tf ta pf na ma87 wa (upd cf88 58 0) ca ef ea xf xa) (ps' := [wdP cs h r g tf ta pf na ma87 wa (upd cf88 58 0) ca ef ea xf xa]) rfl rfl (fun H locs hw => ?_)
                    refine lv_iload_n S.x S.b d_Mpg_declareArray_189 rfl (lv_at hl 4 rfl) ?_
                    refine lv_if_eq (tgt := 204) S.x S.b d_Mpg_declareArray_190 (by decide) (fun c357 => ?_) (fun c357 => ?_)
                    · have nc357 : p1.toInt = (0 : Int) := (i_eq (x := p1) (y := 0)).mp c357
                      refine lv_aload_n S.x S.b d_Mpg_declareArray_204 rfl (lv_at hl 2 rfl) ?_
                      refine px_get S k_Mpg hT hw 0 0 58 (v := .int 0) rfl rfl rfl (by decide) m10_55 d_Mpg_declareArray_205 ?_
                      exact px_iret (v := 0) S hr rfl hlk hAe hw (Nat.le_of_ble_eq_true rfl) (Nat.le_of_ble_eq_true rfl) (⟨ma87, (upd cf88 58 0), rfl, (show (cf88 30).toInt = 0 → (cf 30).toInt = 0 from by first | exact hkz_e91 | omega), (show WrV (upd cf88 58 0) (tf 6).toInt from (WrV.u hwr (by decide) (by decide))), (show (cf88 33).toInt = (cf 33).toInt from by first | exact e93 | omega), (show (cf88 37).toInt = (cf 37).toInt from by first | exact hkk37_e91 | omega), (show (cf88 38).toInt = (cf 38).toInt from by first | exact e94 | omega), (show (cf88 41).toInt = (cf 41).toInt from by first | exact hkk41_e91 | omega), (show (cf88 42).toInt = (cf 42).toInt from by first | exact hkk42_e91 | omega), (show (cf88 43).toInt = (cf 43).toInt from by first | exact hkk43_e91 | omega), (show (cf88 44).toInt = (cf 44).toInt from by first | exact hkk44_e91 | omega), (show (cf88 45).toInt = (cf 45).toInt from by first | exact hkk45_e91 | omega), (show (cf88 46).toInt = (cf 46).toInt from by first | exact e96 | omega), (show (cf88 47).toInt = (cf 47).toInt from by first | exact e97 | omega), (show (cf88 48).toInt = (cf 48).toInt from by first | exact e95 | omega), (show (cf88 54).toInt = (cf 54).toInt from by first | exact hkk54_e91 | omega), (show (cf88 55).toInt = (cf 55).toInt from by first | exact hkk55_e91 | omega), (show (cf88 59).toInt = (cf 59).toInt from by first | exact hkk59_e91 | omega), (show Ann na ma0 ma87 from han), (show FrC lo hi ma ma87 from hfc), (show 0 ≤ (0 : Int) from by first | exact oz_5a341f00aa | omega), (show (0 : Int) ≤ 4096 from by first | exact oz_37065d99f6 | omega), (show 0 ≤ (0 : Int) from by first | exact oz_5a341f00aa | omega), (show (0 : Int) ≤ 4096 from by first | exact oz_37065d99f6 | omega), (show (0 : Int) ≤ 4 * (0 : Int) from by first | exact oz_397c02ad98 | omega), (show ZAv (upd cf88 58 0) ta na ma87 p0 (0 : Int) from (ZAvF (by first | exact zr_no (by omega) | exact zr_no (by omega) | exact zav_0 han (by omega) (by have hav0 := hav.k0; omega) | exact zav_2 han (by omega) (by omega) hrl (by omega) (by omega) (by omega) | exact zav_3 han (by omega) (by omega) ha_z294 (by omega)))), (show R_mp_declareArray tf ta na ca p0 p1 ma cf ma87 (upd cf88 58 0) (0 : Int32) from (Exists.intro 1 (Or.inl ⟨rfl, z84, ez84, ma87, cf88, v90, e102, Or.inr ⟨nc103, Or.inr ⟨nc158, Or.inl ⟨nc275, z277, ez277, Or.inl ⟨nc278, z280, ez280, Or.inr ⟨nc281, z294, ez294, z295, ez295, z296, ez296, Or.inr ⟨nc297, Or.inr ⟨nc335, Or.inl ⟨nc348, Or.inr ⟨nc350, Or.inl ⟨nc357, rfl, rfl, rfl⟩⟩⟩⟩⟩⟩⟩⟩⟩⟩⟩)))⟩) d_Mpg_declareArray_208
                    · have nc357 : ¬ p1.toInt = (0 : Int) := mt (i_eq (x := p1) (y := 0)).mpr c357
                      refine lv_aload_n S.x S.b d_Mpg_declareArray_193 rfl (lv_at hl 2 rfl) ?_
                      refine px_get S k_Mpg hT hw 0 0 58 (v := .int 0) rfl rfl rfl (by decide) m10_55 d_Mpg_declareArray_194 ?_
                      refine lv_iconst (v := 3) S.x S.b d_Mpg_declareArray_197 (by decide) ?_
                      refine lv_iadd S.x S.b d_Mpg_declareArray_198 ?_
                      refine lv_topi (fun z359 ez359 => ?_)
                      have tz359 : z359.toInt = ((0 : Int) + (3 : Int) + 2147483648) % 4294967296 - 2147483648 := by rw [ez359]; exact i_add 0 3
                      have lz359 := Int32.le_toInt z359
                      have uz359 := Int32.toInt_lt z359
                      try replace tz359 : z359.toInt = (0 : Int) + (3 : Int) := by omega
                      refine lv_iconst (v := 4) S.x S.b d_Mpg_declareArray_199 (by decide) ?_
                      refine lv_idiv S.x S.b d_Mpg_declareArray_200 (fun hz0 => by have hz1 := i_eq.mp hz0; omega) ?_
                      refine lv_topi (fun z360 ez360 => ?_)
                      have lz360 := Int32.le_toInt z360
                      have uz360 := Int32.toInt_lt z360
                      have hd4 := i_div4 ez360 (by omega)
                      refine lv_goto (tgt := 208) S.x S.b d_Mpg_declareArray_201 (by decide) ?_
                      exact px_iret (v := z360) S hr rfl hlk hAe hw (Nat.le_of_ble_eq_true rfl) (Nat.le_of_ble_eq_true rfl) (⟨ma87, (upd cf88 58 0), rfl, (show (cf88 30).toInt = 0 → (cf 30).toInt = 0 from by first | exact hkz_e91 | omega), (show WrV (upd cf88 58 0) (tf 6).toInt from (WrV.u hwr (by decide) (by decide))), (show (cf88 33).toInt = (cf 33).toInt from by first | exact e93 | omega), (show (cf88 37).toInt = (cf 37).toInt from by first | exact hkk37_e91 | omega), (show (cf88 38).toInt = (cf 38).toInt from by first | exact e94 | omega), (show (cf88 41).toInt = (cf 41).toInt from by first | exact hkk41_e91 | omega), (show (cf88 42).toInt = (cf 42).toInt from by first | exact hkk42_e91 | omega), (show (cf88 43).toInt = (cf 43).toInt from by first | exact hkk43_e91 | omega), (show (cf88 44).toInt = (cf 44).toInt from by first | exact hkk44_e91 | omega), (show (cf88 45).toInt = (cf 45).toInt from by first | exact hkk45_e91 | omega), (show (cf88 46).toInt = (cf 46).toInt from by first | exact e96 | omega), (show (cf88 47).toInt = (cf 47).toInt from by first | exact e97 | omega), (show (cf88 48).toInt = (cf 48).toInt from by first | exact e95 | omega), (show (cf88 54).toInt = (cf 54).toInt from by first | exact hkk54_e91 | omega), (show (cf88 55).toInt = (cf 55).toInt from by first | exact hkk55_e91 | omega), (show (cf88 59).toInt = (cf 59).toInt from by first | exact hkk59_e91 | omega), (show Ann na ma0 ma87 from han), (show FrC lo hi ma ma87 from hfc), (show 0 ≤ (0 : Int) from by first | exact oz_5a341f00aa | omega), (show (0 : Int) ≤ 4096 from by first | exact oz_37065d99f6 | omega), (show 0 ≤ z360.toInt from by omega), (show z360.toInt ≤ 4096 from by omega), (show (0 : Int) ≤ 4 * z360.toInt from by omega), (show ZAv (upd cf88 58 0) ta na ma87 p0 (0 : Int) from (ZAvF (by first | exact zr_no (by omega) | exact zr_no (by omega) | exact zav_0 han (by omega) (by have hav0 := hav.k0; omega) | exact zav_2 han (by omega) (by omega) hrl (by omega) (by omega) (by omega) | exact zav_3 han (by omega) (by omega) ha_z294 (by omega)))), (show R_mp_declareArray tf ta na ca p0 p1 ma cf ma87 (upd cf88 58 0) z360 from (Exists.intro 1 (Or.inl ⟨rfl, z84, ez84, ma87, cf88, v90, e102, Or.inr ⟨nc103, Or.inr ⟨nc158, Or.inl ⟨nc275, z277, ez277, Or.inl ⟨nc278, z280, ez280, Or.inr ⟨nc281, z294, ez294, z295, ez295, z296, ez296, Or.inr ⟨nc297, Or.inr ⟨nc335, Or.inl ⟨nc348, Or.inr ⟨nc350, Or.inr ⟨nc357, z359, ez359, z360, ez360, rfl, rfl, rfl⟩⟩⟩⟩⟩⟩⟩⟩⟩⟩⟩)))⟩) d_Mpg_declareArray_208
                · have nc348 : ¬ z296.toInt ≤ (cf88 57).toInt := mt (i_le (x := z296) (y := (cf88 57))).mpr c348
                  refine lv_aload_n S.x S.b d_Mpg_declareArray_164 rfl (lv_at hl 2 rfl) ?_
                  refine lv_bipush (v := 8) S.x S.b d_Mpg_declareArray_165 (by decide) ?_
                  refine lv_aload_n S.x S.b d_Mpg_declareArray_167 rfl (lv_at hl 2 rfl) ?_
                  refine px_get S k_Mpg hT hw 0 0 19 (v := .ref (r 19)) rfl rfl rfl (by decide) m10_5 d_Mpg_declareArray_168 ?_
                  refine lv_iload_n S.x S.b d_Mpg_declareArray_171 rfl (lv_at hl 3 rfl) ?_
                  refine px_iald S hT hw 0 15 (n := 2100) (f := (ma87 19)) rfl gp_19 (x := p0) (vp_in_iff.mpr (by first | exact oz_a7e05de1cd hvr.2.2.1 hvr.2.1 g1 g2 | (constructor <;> omega))) d_Mpg_declareArray_172 ?_
                  refine lv_topi (fun z361 ez361 => ?_)
                  have lz361 := Int32.le_toInt z361
                  have uz361 := Int32.toInt_lt z361
                  have ha_z361 : z361 = ma0 19 p0.toNatClampNeg := ez361.trans (Ann.v19 han (by omega)); have hn_z361 : z361.toInt = (ma0 19 p0.toNatClampNeg).toInt := (by rw [ha_z361]); have hk3 := hav.k3 (by omega); rw [← ha_z361] at hk3
                  refine px_callv (pr := []) (px_runV (As := [.int 8, .int z361]) (rest := []) S (c_mp_bad l D cs h r g tf ta pf na ma87 wa ca ef ea xf xa cf88 8 z361  (show 1 ≤ (8 : Int) from by first | exact oz_fe427bacb1 | omega) (show 0 ≤ z361.toInt from by first | exact oz_f3ebed1ad0 hn_z361 hk3.1 | omega) (show z361.toInt < (tf 6).toInt from by first | exact oz_b0a61accca hk3.2.1 hn_z361 | omega) htk hwr _) hT (pr := []) (pcs := [wdP cs h r g tf ta pf na ma87 wa cf88 ca ef ea xf xa]) hw px_X.tt (px_recv hT hw 0 0 rfl rfl rfl) m12_173 m12_170 m12_172 ms_11_12 m1_21 q_Mpg_bad ⟨show 0 + 1 ≤ (4 * d + 20) from (by first | exact oz_8385159a22 | omega), show 8 + (3 + 11) + 0 ≤ (200 * d + 700) from (by first | exact oz_a3cd9048d3 | omega)⟩ hl.1 rfl (Nat.le_of_ble_eq_true rfl) d_Mpg_declareArray_173 ⟨Nat.le_of_ble_eq_true rfl, Nat.le_of_ble_eq_true rfl⟩) hw hA (fun p364 H locs hp364 hw => ?_)
                  obtain ⟨cf363, rfl, e366, e367, e368, e369, e370, e371, e372, e373, e374, e375, e376, e377, e378, e379, e380, e381, e382, e383, e384, e385⟩ := hp364
                  have e366 : KpE cf88 cf363 := e366
                  have hkz_e366 := e366.2
                  have e367 : WrV cf363 (tf 6).toInt := e367
                  have hwr := e367
                  have hw0_e367 := hwr.1
                  have e368 : 1 ≤ (cf363 30).toInt := e368
                  have e369 : (cf363 33).toInt = (cf88 33).toInt := e369
                  have e370 : (cf363 38).toInt = (cf88 38).toInt := e370
                  have e371 : (cf363 48).toInt = (cf88 48).toInt := e371
                  have e372 : (cf363 46).toInt = (cf88 46).toInt := e372
                  have e373 : (cf363 47).toInt = (cf88 47).toInt := e373
                  have e374 : (cf363 57).toInt = (cf88 57).toInt := e374
                  have e375 : (cf363 37).toInt = (cf88 37).toInt := e375
                  have e376 : (cf363 42).toInt = (cf88 42).toInt := e376
                  have e377 : (cf363 43).toInt = (cf88 43).toInt := e377
                  have e378 : (cf363 44).toInt = (cf88 44).toInt := e378
                  have e379 : (cf363 45).toInt = (cf88 45).toInt := e379
                  have e380 : (cf363 54).toInt = (cf88 54).toInt := e380
                  have e381 : (cf363 55).toInt = (cf88 55).toInt := e381
                  have e382 : (cf363 58).toInt = (cf88 58).toInt := e382
                  have e383 : (cf363 59).toInt = (cf88 59).toInt := e383
                  have e384 : (cf363 41).toInt = (cf88 41).toInt := e384
                  have e385 : R_mp_bad (8 : Int32) z361 cf88 cf363 := e385
                  have hw : pw D A s.heap H locs [wdP cs h r g tf ta pf na ma87 wa cf363 ca ef ea xf xa] := hw
                  refine lv_aload_n S.x S.b d_Mpg_declareArray_176 rfl (lv_at hl 2 rfl) ?_
                  refine lv_iload_n S.x S.b d_Mpg_declareArray_177 rfl (lv_at hl 1 rfl) ?_
                  refine lv_if_ge (tgt := 185) S.x S.b d_Mpg_declareArray_178 (by decide) (fun c386 => ?_) (fun c386 => ?_)
                  · have nc386 : (0 : Int) ≤ (cf88 57).toInt := (i_le (x := 0) (y := (cf88 57))).mp c386
                    refine lv_iload_n S.x S.b d_Mpg_declareArray_185 rfl (lv_at hl 1 rfl) ?_
                    refine px_put S k_Mpg hT hw 0 0 58 rfl rfl (by decide) m10_55 rfl rfl rfl (Nat.le_of_ble_eq_true rfl) d_Mpg_declareArray_186 (w' := wdP cs h r g tf ta pf na ma87 wa (upd cf363 58 (cf88 57)) ca ef ea xf xa) (ps' := [wdP cs h r g tf ta pf na ma87 wa (upd cf363 58 (cf88 57)) ca ef ea xf xa]) rfl rfl (fun H locs hw => ?_)
                    refine lv_iload_n S.x S.b d_Mpg_declareArray_189 rfl (lv_at hl 4 rfl) ?_
                    refine lv_if_eq (tgt := 204) S.x S.b d_Mpg_declareArray_190 (by decide) (fun c388 => ?_) (fun c388 => ?_)
                    · have nc388 : p1.toInt = (0 : Int) := (i_eq (x := p1) (y := 0)).mp c388
                      refine lv_aload_n S.x S.b d_Mpg_declareArray_204 rfl (lv_at hl 2 rfl) ?_
                      refine px_get S k_Mpg hT hw 0 0 58 (v := .int (cf88 57)) rfl rfl rfl (by decide) m10_55 d_Mpg_declareArray_205 ?_
                      exact px_iret (v := (cf88 57)) S hr rfl hlk hAe hw (Nat.le_of_ble_eq_true rfl) (Nat.le_of_ble_eq_true rfl) (⟨ma87, (upd cf363 58 (cf88 57)), rfl, (show (cf363 30).toInt = 0 → (cf 30).toInt = 0 from by omega), (show WrV (upd cf363 58 (cf88 57)) (tf 6).toInt from (WrV.u hwr (by decide) (by decide))), (show (cf363 33).toInt = (cf 33).toInt from by first | exact oz_1687f4cc65 e93 e369 | omega), (show (cf363 37).toInt = (cf 37).toInt from by first | exact oz_1687f4cc65 hkk37_e91 e375 | omega), (show (cf363 38).toInt = (cf 38).toInt from by first | exact oz_1687f4cc65 e94 e370 | omega), (show (cf363 41).toInt = (cf 41).toInt from by first | exact oz_1687f4cc65 hkk41_e91 e384 | omega), (show (cf363 42).toInt = (cf 42).toInt from by first | exact oz_1687f4cc65 hkk42_e91 e376 | omega), (show (cf363 43).toInt = (cf 43).toInt from by first | exact oz_1687f4cc65 hkk43_e91 e377 | omega), (show (cf363 44).toInt = (cf 44).toInt from by first | exact oz_1687f4cc65 hkk44_e91 e378 | omega), (show (cf363 45).toInt = (cf 45).toInt from by first | exact oz_1687f4cc65 hkk45_e91 e379 | omega), (show (cf363 46).toInt = (cf 46).toInt from by first | exact oz_1687f4cc65 e96 e372 | omega), (show (cf363 47).toInt = (cf 47).toInt from by first | exact oz_1687f4cc65 e97 e373 | omega), (show (cf363 48).toInt = (cf 48).toInt from by first | exact oz_1687f4cc65 e95 e371 | omega), (show (cf363 54).toInt = (cf 54).toInt from by first | exact oz_1687f4cc65 hkk54_e91 e380 | omega), (show (cf363 55).toInt = (cf 55).toInt from by first | exact oz_1687f4cc65 hkk55_e91 e381 | omega), (show (cf363 59).toInt = (cf 59).toInt from by first | exact oz_1687f4cc65 hkk59_e91 e383 | omega), (show Ann na ma0 ma87 from han), (show FrC lo hi ma ma87 from hfc), (show 0 ≤ (cf88 57).toInt from by first | exact oz_0184fb6be8 nc158 | omega), (show (cf88 57).toInt ≤ 4096 from by first | exact oz_d819beab09 nc275 | omega), (show 0 ≤ (cf88 57).toInt from by first | exact oz_0184fb6be8 nc158 | omega), (show (cf88 57).toInt ≤ 4096 from by first | exact oz_d819beab09 nc275 | omega), (show (cf88 57).toInt ≤ 4 * (cf88 57).toInt from by first | exact oz_404e7427cb nc158 | omega), (show ZAv (upd cf363 58 (cf88 57)) ta na ma87 p0 (cf88 57).toInt from (zr_no (by first | omega | (show 1 ≤ _; rw [pk_un (by decide)]; omega)))), (show R_mp_declareArray tf ta na ca p0 p1 ma cf ma87 (upd cf363 58 (cf88 57)) (cf88 57) from (Exists.intro 1 (Or.inl ⟨rfl, z84, ez84, ma87, cf88, v90, e102, Or.inr ⟨nc103, Or.inr ⟨nc158, Or.inl ⟨nc275, z277, ez277, Or.inl ⟨nc278, z280, ez280, Or.inr ⟨nc281, z294, ez294, z295, ez295, z296, ez296, Or.inr ⟨nc297, Or.inr ⟨nc335, Or.inr ⟨nc348, z361, ez361, cf363, e385, Or.inl ⟨nc386, Or.inl ⟨nc388, rfl, rfl, rfl⟩⟩⟩⟩⟩⟩⟩⟩⟩⟩⟩)))⟩) d_Mpg_declareArray_208
                    · have nc388 : ¬ p1.toInt = (0 : Int) := mt (i_eq (x := p1) (y := 0)).mpr c388
                      refine lv_aload_n S.x S.b d_Mpg_declareArray_193 rfl (lv_at hl 2 rfl) ?_
                      refine px_get S k_Mpg hT hw 0 0 58 (v := .int (cf88 57)) rfl rfl rfl (by decide) m10_55 d_Mpg_declareArray_194 ?_
                      refine lv_iconst (v := 3) S.x S.b d_Mpg_declareArray_197 (by decide) ?_
                      refine lv_iadd S.x S.b d_Mpg_declareArray_198 ?_
                      have lr390 := Int32.le_toInt (cf88 57)
                      have ur390 := Int32.toInt_lt (cf88 57)
                      refine lv_topi (fun z391 ez391 => ?_)
                      have tz391 : z391.toInt = ((cf88 57).toInt + (3 : Int) + 2147483648) % 4294967296 - 2147483648 := by rw [ez391]; exact i_add (cf88 57) 3
                      have lz391 := Int32.le_toInt z391
                      have uz391 := Int32.toInt_lt z391
                      try replace tz391 : z391.toInt = (cf88 57).toInt + (3 : Int) := by omega
                      refine lv_iconst (v := 4) S.x S.b d_Mpg_declareArray_199 (by decide) ?_
                      refine lv_idiv S.x S.b d_Mpg_declareArray_200 (fun hz0 => by have hz1 := i_eq.mp hz0; omega) ?_
                      refine lv_topi (fun z392 ez392 => ?_)
                      have lz392 := Int32.le_toInt z392
                      have uz392 := Int32.toInt_lt z392
                      have hd4 := i_div4 ez392 (by omega)
                      refine lv_goto (tgt := 208) S.x S.b d_Mpg_declareArray_201 (by decide) ?_
                      exact px_iret (v := z392) S hr rfl hlk hAe hw (Nat.le_of_ble_eq_true rfl) (Nat.le_of_ble_eq_true rfl) (⟨ma87, (upd cf363 58 (cf88 57)), rfl, (show (cf363 30).toInt = 0 → (cf 30).toInt = 0 from by omega), (show WrV (upd cf363 58 (cf88 57)) (tf 6).toInt from (WrV.u hwr (by decide) (by decide))), (show (cf363 33).toInt = (cf 33).toInt from by first | exact oz_1687f4cc65 e93 e369 | omega), (show (cf363 37).toInt = (cf 37).toInt from by first | exact oz_1687f4cc65 hkk37_e91 e375 | omega), (show (cf363 38).toInt = (cf 38).toInt from by first | exact oz_1687f4cc65 e94 e370 | omega), (show (cf363 41).toInt = (cf 41).toInt from by first | exact oz_1687f4cc65 hkk41_e91 e384 | omega), (show (cf363 42).toInt = (cf 42).toInt from by first | exact oz_1687f4cc65 hkk42_e91 e376 | omega), (show (cf363 43).toInt = (cf 43).toInt from by first | exact oz_1687f4cc65 hkk43_e91 e377 | omega), (show (cf363 44).toInt = (cf 44).toInt from by first | exact oz_1687f4cc65 hkk44_e91 e378 | omega), (show (cf363 45).toInt = (cf 45).toInt from by first | exact oz_1687f4cc65 hkk45_e91 e379 | omega), (show (cf363 46).toInt = (cf 46).toInt from by first | exact oz_1687f4cc65 e96 e372 | omega), (show (cf363 47).toInt = (cf 47).toInt from by first | exact oz_1687f4cc65 e97 e373 | omega), (show (cf363 48).toInt = (cf 48).toInt from by first | exact oz_1687f4cc65 e95 e371 | omega), (show (cf363 54).toInt = (cf 54).toInt from by first | exact oz_1687f4cc65 hkk54_e91 e380 | omega), (show (cf363 55).toInt = (cf 55).toInt from by first | exact oz_1687f4cc65 hkk55_e91 e381 | omega), (show (cf363 59).toInt = (cf 59).toInt from by first | exact oz_1687f4cc65 hkk59_e91 e383 | omega), (show Ann na ma0 ma87 from han), (show FrC lo hi ma ma87 from hfc), (show 0 ≤ (cf88 57).toInt from by first | exact oz_0184fb6be8 nc158 | omega), (show (cf88 57).toInt ≤ 4096 from by first | exact oz_d819beab09 nc275 | omega), (show 0 ≤ z392.toInt from by omega), (show z392.toInt ≤ 4096 from by omega), (show (cf88 57).toInt ≤ 4 * z392.toInt from by omega), (show ZAv (upd cf363 58 (cf88 57)) ta na ma87 p0 (cf88 57).toInt from (zr_no (by first | omega | (show 1 ≤ _; rw [pk_un (by decide)]; omega)))), (show R_mp_declareArray tf ta na ca p0 p1 ma cf ma87 (upd cf363 58 (cf88 57)) z392 from (Exists.intro 1 (Or.inl ⟨rfl, z84, ez84, ma87, cf88, v90, e102, Or.inr ⟨nc103, Or.inr ⟨nc158, Or.inl ⟨nc275, z277, ez277, Or.inl ⟨nc278, z280, ez280, Or.inr ⟨nc281, z294, ez294, z295, ez295, z296, ez296, Or.inr ⟨nc297, Or.inr ⟨nc335, Or.inr ⟨nc348, z361, ez361, cf363, e385, Or.inl ⟨nc386, Or.inr ⟨nc388, z391, ez391, z392, ez392, rfl, rfl, rfl⟩⟩⟩⟩⟩⟩⟩⟩⟩⟩⟩)))⟩) d_Mpg_declareArray_208
                  · have nc386 : ¬ (0 : Int) ≤ (cf88 57).toInt := mt (i_le (x := 0) (y := (cf88 57))).mpr c386
                    refine lv_iconst (v := 0) S.x S.b d_Mpg_declareArray_181 (by decide) ?_
                    refine lv_goto (tgt := 186) S.x S.b d_Mpg_declareArray_182 (by decide) ?_
                    refine px_put S k_Mpg hT hw 0 0 58 rfl rfl (by decide) m10_55 rfl rfl rfl (Nat.le_of_ble_eq_true rfl) d_Mpg_declareArray_186 (w' := wdP cs h r g tf ta pf na ma87 wa (upd cf363 58 0) ca ef ea xf xa) (ps' := [wdP cs h r g tf ta pf na ma87 wa (upd cf363 58 0) ca ef ea xf xa]) rfl rfl (fun H locs hw => ?_)
                    refine lv_iload_n S.x S.b d_Mpg_declareArray_189 rfl (lv_at hl 4 rfl) ?_
                    refine lv_if_eq (tgt := 204) S.x S.b d_Mpg_declareArray_190 (by decide) (fun c393 => ?_) (fun c393 => ?_)
                    · have nc393 : p1.toInt = (0 : Int) := (i_eq (x := p1) (y := 0)).mp c393
                      refine lv_aload_n S.x S.b d_Mpg_declareArray_204 rfl (lv_at hl 2 rfl) ?_
                      refine px_get S k_Mpg hT hw 0 0 58 (v := .int 0) rfl rfl rfl (by decide) m10_55 d_Mpg_declareArray_205 ?_
                      exact px_iret (v := 0) S hr rfl hlk hAe hw (Nat.le_of_ble_eq_true rfl) (Nat.le_of_ble_eq_true rfl) (⟨ma87, (upd cf363 58 0), rfl, (show (cf363 30).toInt = 0 → (cf 30).toInt = 0 from by omega), (show WrV (upd cf363 58 0) (tf 6).toInt from (WrV.u hwr (by decide) (by decide))), (show (cf363 33).toInt = (cf 33).toInt from by first | exact oz_1687f4cc65 e93 e369 | omega), (show (cf363 37).toInt = (cf 37).toInt from by first | exact oz_1687f4cc65 hkk37_e91 e375 | omega), (show (cf363 38).toInt = (cf 38).toInt from by first | exact oz_1687f4cc65 e94 e370 | omega), (show (cf363 41).toInt = (cf 41).toInt from by first | exact oz_1687f4cc65 hkk41_e91 e384 | omega), (show (cf363 42).toInt = (cf 42).toInt from by first | exact oz_1687f4cc65 hkk42_e91 e376 | omega), (show (cf363 43).toInt = (cf 43).toInt from by first | exact oz_1687f4cc65 hkk43_e91 e377 | omega), (show (cf363 44).toInt = (cf 44).toInt from by first | exact oz_1687f4cc65 hkk44_e91 e378 | omega), (show (cf363 45).toInt = (cf 45).toInt from by first | exact oz_1687f4cc65 hkk45_e91 e379 | omega), (show (cf363 46).toInt = (cf 46).toInt from by first | exact oz_1687f4cc65 e96 e372 | omega), (show (cf363 47).toInt = (cf 47).toInt from by first | exact oz_1687f4cc65 e97 e373 | omega), (show (cf363 48).toInt = (cf 48).toInt from by first | exact oz_1687f4cc65 e95 e371 | omega), (show (cf363 54).toInt = (cf 54).toInt from by first | exact oz_1687f4cc65 hkk54_e91 e380 | omega), (show (cf363 55).toInt = (cf 55).toInt from by first | exact oz_1687f4cc65 hkk55_e91 e381 | omega), (show (cf363 59).toInt = (cf 59).toInt from by first | exact oz_1687f4cc65 hkk59_e91 e383 | omega), (show Ann na ma0 ma87 from han), (show FrC lo hi ma ma87 from hfc), (show 0 ≤ (0 : Int) from by first | exact oz_5a341f00aa | omega), (show (0 : Int) ≤ 4096 from by first | exact oz_37065d99f6 | omega), (show 0 ≤ (0 : Int) from by first | exact oz_5a341f00aa | omega), (show (0 : Int) ≤ 4096 from by first | exact oz_37065d99f6 | omega), (show (0 : Int) ≤ 4 * (0 : Int) from by first | exact oz_397c02ad98 | omega), (show ZAv (upd cf363 58 0) ta na ma87 p0 (0 : Int) from (zr_no (by first | omega | (show 1 ≤ _; rw [pk_un (by decide)]; omega)))), (show R_mp_declareArray tf ta na ca p0 p1 ma cf ma87 (upd cf363 58 0) (0 : Int32) from (Exists.intro 1 (Or.inl ⟨rfl, z84, ez84, ma87, cf88, v90, e102, Or.inr ⟨nc103, Or.inr ⟨nc158, Or.inl ⟨nc275, z277, ez277, Or.inl ⟨nc278, z280, ez280, Or.inr ⟨nc281, z294, ez294, z295, ez295, z296, ez296, Or.inr ⟨nc297, Or.inr ⟨nc335, Or.inr ⟨nc348, z361, ez361, cf363, e385, Or.inr ⟨nc386, Or.inl ⟨nc393, rfl, rfl, rfl⟩⟩⟩⟩⟩⟩⟩⟩⟩⟩⟩)))⟩) d_Mpg_declareArray_208
                    · have nc393 : ¬ p1.toInt = (0 : Int) := mt (i_eq (x := p1) (y := 0)).mpr c393
                      refine lv_aload_n S.x S.b d_Mpg_declareArray_193 rfl (lv_at hl 2 rfl) ?_
                      refine px_get S k_Mpg hT hw 0 0 58 (v := .int 0) rfl rfl rfl (by decide) m10_55 d_Mpg_declareArray_194 ?_
                      refine lv_iconst (v := 3) S.x S.b d_Mpg_declareArray_197 (by decide) ?_
                      refine lv_iadd S.x S.b d_Mpg_declareArray_198 ?_
                      refine lv_topi (fun z395 ez395 => ?_)
                      have tz395 : z395.toInt = ((0 : Int) + (3 : Int) + 2147483648) % 4294967296 - 2147483648 := by rw [ez395]; exact i_add 0 3
                      have lz395 := Int32.le_toInt z395
                      have uz395 := Int32.toInt_lt z395
                      try replace tz395 : z395.toInt = (0 : Int) + (3 : Int) := by omega
                      refine lv_iconst (v := 4) S.x S.b d_Mpg_declareArray_199 (by decide) ?_
                      refine lv_idiv S.x S.b d_Mpg_declareArray_200 (fun hz0 => by have hz1 := i_eq.mp hz0; omega) ?_
                      refine lv_topi (fun z396 ez396 => ?_)
                      have lz396 := Int32.le_toInt z396
                      have uz396 := Int32.toInt_lt z396
                      have hd4 := i_div4 ez396 (by omega)
                      refine lv_goto (tgt := 208) S.x S.b d_Mpg_declareArray_201 (by decide) ?_
                      exact px_iret (v := z396) S hr rfl hlk hAe hw (Nat.le_of_ble_eq_true rfl) (Nat.le_of_ble_eq_true rfl) (⟨ma87, (upd cf363 58 0), rfl, (show (cf363 30).toInt = 0 → (cf 30).toInt = 0 from by omega), (show WrV (upd cf363 58 0) (tf 6).toInt from (WrV.u hwr (by decide) (by decide))), (show (cf363 33).toInt = (cf 33).toInt from by first | exact oz_1687f4cc65 e93 e369 | omega), (show (cf363 37).toInt = (cf 37).toInt from by first | exact oz_1687f4cc65 hkk37_e91 e375 | omega), (show (cf363 38).toInt = (cf 38).toInt from by first | exact oz_1687f4cc65 e94 e370 | omega), (show (cf363 41).toInt = (cf 41).toInt from by first | exact oz_1687f4cc65 hkk41_e91 e384 | omega), (show (cf363 42).toInt = (cf 42).toInt from by first | exact oz_1687f4cc65 hkk42_e91 e376 | omega), (show (cf363 43).toInt = (cf 43).toInt from by first | exact oz_1687f4cc65 hkk43_e91 e377 | omega), (show (cf363 44).toInt = (cf 44).toInt from by first | exact oz_1687f4cc65 hkk44_e91 e378 | omega), (show (cf363 45).toInt = (cf 45).toInt from by first | exact oz_1687f4cc65 hkk45_e91 e379 | omega), (show (cf363 46).toInt = (cf 46).toInt from by first | exact oz_1687f4cc65 e96 e372 | omega), (show (cf363 47).toInt = (cf 47).toInt from by first | exact oz_1687f4cc65 e97 e373 | omega), (show (cf363 48).toInt = (cf 48).toInt from by first | exact oz_1687f4cc65 e95 e371 | omega), (show (cf363 54).toInt = (cf 54).toInt from by first | exact oz_1687f4cc65 hkk54_e91 e380 | omega), (show (cf363 55).toInt = (cf 55).toInt from by first | exact oz_1687f4cc65 hkk55_e91 e381 | omega), (show (cf363 59).toInt = (cf 59).toInt from by first | exact oz_1687f4cc65 hkk59_e91 e383 | omega), (show Ann na ma0 ma87 from han), (show FrC lo hi ma ma87 from hfc), (show 0 ≤ (0 : Int) from by first | exact oz_5a341f00aa | omega), (show (0 : Int) ≤ 4096 from by first | exact oz_37065d99f6 | omega), (show 0 ≤ z396.toInt from by omega), (show z396.toInt ≤ 4096 from by omega), (show (0 : Int) ≤ 4 * z396.toInt from by omega), (show ZAv (upd cf363 58 0) ta na ma87 p0 (0 : Int) from (zr_no (by first | omega | (show 1 ≤ _; rw [pk_un (by decide)]; omega)))), (show R_mp_declareArray tf ta na ca p0 p1 ma cf ma87 (upd cf363 58 0) z396 from (Exists.intro 1 (Or.inl ⟨rfl, z84, ez84, ma87, cf88, v90, e102, Or.inr ⟨nc103, Or.inr ⟨nc158, Or.inl ⟨nc275, z277, ez277, Or.inl ⟨nc278, z280, ez280, Or.inr ⟨nc281, z294, ez294, z295, ez295, z296, ez296, Or.inr ⟨nc297, Or.inr ⟨nc335, Or.inr ⟨nc348, z361, ez361, cf363, e385, Or.inr ⟨nc386, Or.inr ⟨nc393, z395, ez395, z396, ez396, rfl, rfl, rfl⟩⟩⟩⟩⟩⟩⟩⟩⟩⟩⟩)))⟩) d_Mpg_declareArray_208
        · have nc278 : z277.toInt = (2 : Int) := (i_eq (x := z277) (y := 2)).mp c278
          refine lv_iconst (v := 0) S.x S.b d_Mpg_declareArray_62 (by decide) ?_
          refine lv_istore (lv' := [(4, .int 0), (3, .int (cf88 57)), (0, .ref h), (1, .int p0), (2, .int p1)]) S.x S.b d_Mpg_declareArray_63 hl (by decide) rfl (fun ls hl => ?_)
          refine lv_aload_n S.x S.b d_Mpg_declareArray_65 rfl (lv_at hl 2 rfl) ?_
          refine px_get S k_Mpg hT hw 0 0 18 (v := .ref (r 18)) rfl rfl rfl (by decide) m10_3 d_Mpg_declareArray_66 ?_
          refine lv_iload_n S.x S.b d_Mpg_declareArray_69 rfl (lv_at hl 3 rfl) ?_
          refine px_iald S hT hw 0 14 (n := 2100) (f := (ma87 18)) rfl gp_18 (x := p0) (vp_in_iff.mpr (by first | exact oz_a7e05de1cd hvr.2.2.1 hvr.2.1 g1 g2 | (constructor <;> omega))) d_Mpg_declareArray_70 ?_
          refine lv_topi (fun z397 ez397 => ?_)
          have lz397 := Int32.le_toInt z397
          have uz397 := Int32.toInt_lt z397
          obtain ⟨⟨wr, hrv, hwr9⟩, h19a, h19b⟩ := hav.k2 (by omega); have ha_z397 : z397 = ma0 18 p0.toNatClampNeg := ez397.trans (Ann.v18 han (by omega))
          refine lv_istore (lv' := [(5, .int z397), (4, .int 0), (3, .int (cf88 57)), (0, .ref h), (1, .int p0), (2, .int p1)]) S.x S.b d_Mpg_declareArray_71 hl (by decide) rfl (fun ls hl => ?_)
          exact J73 ((hi - m1).toNat + 1) ma87 cf88 m1 wr (cf88 57) (0 : Int32) z397 _ _ ls (show (cf88 30).toInt = 0 → (cf 30).toInt = 0 from by first | exact hkz_e91 | omega) (show WrV cf88 (tf 6).toInt from hwr) (show (cf88 33).toInt = (cf 33).toInt from by first | exact e93 | omega) (show (cf88 37).toInt = (cf 37).toInt from by first | exact hkk37_e91 | omega) (show (cf88 38).toInt = (cf 38).toInt from by first | exact e94 | omega) (show (cf88 41).toInt = (cf 41).toInt from by first | exact hkk41_e91 | omega) (show (cf88 42).toInt = (cf 42).toInt from by first | exact hkk42_e91 | omega) (show (cf88 43).toInt = (cf 43).toInt from by first | exact hkk43_e91 | omega) (show (cf88 44).toInt = (cf 44).toInt from by first | exact hkk44_e91 | omega) (show (cf88 45).toInt = (cf 45).toInt from by first | exact hkk45_e91 | omega) (show (cf88 46).toInt = (cf 46).toInt from by first | exact e96 | omega) (show (cf88 47).toInt = (cf 47).toInt from by first | exact e97 | omega) (show (cf88 48).toInt = (cf 48).toInt from by first | exact e95 | omega) (show (cf88 54).toInt = (cf 54).toInt from by first | exact hkk54_e91 | omega) (show (cf88 55).toInt = (cf 55).toInt from by first | exact hkk55_e91 | omega) (show (cf88 59).toInt = (cf 59).toInt from by first | exact hkk59_e91 | omega) (show Ann na ma0 ma87 from han) (show FrC lo hi ma ma87 from hfc) (show -1 ≤ (cf88 57).toInt from by first | exact oz_4ecc7d07af nc158 | omega) (show (cf88 57).toInt ≤ 4096 from by first | exact oz_d819beab09 nc275 | omega) (show (cf88 57).toInt = -1 → 1 ≤ (cf88 30).toInt from by omega) (show 0 ≤ (0 : Int) from by first | exact oz_5a341f00aa | omega) (show (0 : Int) + m1 ≤ m1 from by first | exact oz_05158eb67a | omega) (show m1 ≤ m1 from by first | exact oz_1cb5f934a5 | omega) (show m1 ≤ hi from by first | exact hm2 | omega) (show (ma0 22 p0.toNatClampNeg).toInt = 2 from by first | exact oz_70422203cd rz277 nc278 | omega) (show RvI ta (tf 6).toInt na ma0 d m1 hi wr z397 from (by rw [ha_z397]; exact hrv)) (show RlC na (ma0 18 p0.toNatClampNeg) z397 (0 : Int) from (by rw [ha_z397]; exact rlc_0)) (show K_mp_declareArray_73 tf ta na ca p0 p1 ma cf ma87 cf88 (cf88 57) 0 z397 from (fun y_f0 y_f1 y_v k hE => Exists.intro (k + 1) (Or.inl ⟨rfl, z84, ez84, ma87, cf88, v90, e102, Or.inr ⟨nc103, Or.inr ⟨nc158, Or.inl ⟨nc275, z277, ez277, Or.inr ⟨nc278, z397, ez397, hE⟩⟩⟩⟩⟩))) (show hi - m1 < ((((hi - m1).toNat + 1 : Nat) : Int) : Int) from by first | exact oz_natlt | omega) hw (lv_sub hl [3, 4, 5, 2, 1, 0] rfl)
      · have nc275 : ¬ (cf88 57).toInt ≤ (4096 : Int) := mt (i_le (x := (cf88 57)) (y := 4096)).mpr c275
        refine lv_aload_n S.x S.b d_Mpg_declareArray_32 rfl (lv_at hl 1 rfl) ?_
        refine lv_bipush (v := 8) S.x S.b d_Mpg_declareArray_33 (by decide) ?_
        refine lv_aload_n S.x S.b d_Mpg_declareArray_35 rfl (lv_at hl 1 rfl) ?_
        refine lv_aload_n S.x S.b d_Mpg_declareArray_36 rfl (lv_at hl 1 rfl) ?_
        refine px_get S k_Mpg hT hw 0 0 17 (v := .ref (r 17)) rfl rfl rfl (by decide) m10_1 d_Mpg_declareArray_37 ?_
        refine lv_iload_n S.x S.b d_Mpg_declareArray_40 rfl (lv_at hl 2 rfl) ?_
        refine px_iald S hT hw 0 13 (n := 2100) (f := (na 17)) rfl gp_17 (x := p0) (vp_in_iff.mpr (by first | exact oz_a7e05de1cd hvr.2.2.1 hvr.2.1 g1 g2 | (constructor <;> omega))) d_Mpg_declareArray_41 ?_
        refine lv_topi (fun z398 ez398 => ?_)
        have lz398 := Int32.le_toInt z398
        have uz398 := Int32.toInt_lt z398
        have rz398 : z398.toInt = (na 17 p0.toNatClampNeg).toInt := by rw [ez398]
        have hqz398 : z398.toInt = (na 17 p0.toNatClampNeg).toInt := (by rw [ez398])
        refine px_calli (pr := []) (px_runV (As := [.int z398]) (rest := [.int 8, .ref h]) S (c_mp_first l D cs h r g tf ta pf na ma87 wa cf88 ca ef ea xf xa z398  (show 0 ≤ z398.toInt from by first | exact oz_f3ebed1ad0 rz398 g23 | omega) (show z398.toInt < (pf 13).toInt from by omega) (show (pf 13).toInt ≤ 2100 from by first | exact g2 | omega) htk (FsI.le (N' := (pf 13).toInt) hfs (by omega)) _) hT (pr := []) (pcs := [wdP cs h r g tf ta pf na ma87 wa cf88 ca ef ea xf xa]) hw px_X.tt (px_recv hT hw 0 0 rfl rfl rfl) m13_9 m13_6 m13_8 ms_12_15 m1_21 q_Mpg_first ⟨show 0 + 1 ≤ (4 * d + 20) from (by first | exact oz_8385159a22 | omega), show 8 + (2 + 11) + 0 ≤ (200 * d + 700) from (by first | exact oz_ddfb5238da | omega)⟩ hl.1 rfl (Nat.le_of_ble_eq_true rfl) d_Mpg_declareArray_42 ⟨Nat.le_of_ble_eq_true rfl, Nat.le_of_ble_eq_true rfl⟩) hw hA (fun v400 p399 H locs hp399 hw => ?_)
        obtain ⟨rfl, e401, e402, e403⟩ := hp399
        have e401 : 0 ≤ v400.toInt := e401
        have e402 : v400.toInt < (tf 6).toInt := e402
        have e403 : R_mp_first na z398 v400 := e403
        have hw : pw D A s.heap H locs [wdP cs h r g tf ta pf na ma87 wa cf88 ca ef ea xf xa] := hw
        have lv400 := Int32.le_toInt v400
        have uv400 := Int32.toInt_lt v400
        refine px_callv (pr := []) (px_runV (As := [.int 8, .int v400]) (rest := []) S (c_mp_bad l D cs h r g tf ta pf na ma87 wa ca ef ea xf xa cf88 8 v400  (show 1 ≤ (8 : Int) from by first | exact oz_fe427bacb1 | omega) (show 0 ≤ v400.toInt from by first | exact e401 | omega) (show v400.toInt < (tf 6).toInt from by first | exact e402 | omega) htk hwr _) hT (pr := []) (pcs := [wdP cs h r g tf ta pf na ma87 wa cf88 ca ef ea xf xa]) hw px_X.tt (px_recv hT hw 0 0 rfl rfl rfl) m12_173 m12_170 m12_172 ms_11_12 m1_21 q_Mpg_bad ⟨show 0 + 1 ≤ (4 * d + 20) from (by first | exact oz_8385159a22 | omega), show 8 + (3 + 11) + 0 ≤ (200 * d + 700) from (by first | exact oz_a3cd9048d3 | omega)⟩ hl.1 rfl (Nat.le_of_ble_eq_true rfl) d_Mpg_declareArray_45 ⟨Nat.le_of_ble_eq_true rfl, Nat.le_of_ble_eq_true rfl⟩) hw hA (fun p406 H locs hp406 hw => ?_)
        obtain ⟨cf405, rfl, e408, e409, e410, e411, e412, e413, e414, e415, e416, e417, e418, e419, e420, e421, e422, e423, e424, e425, e426, e427⟩ := hp406
        have e408 : KpE cf88 cf405 := e408
        have hkz_e408 := e408.2
        have e409 : WrV cf405 (tf 6).toInt := e409
        have hwr := e409
        have hw0_e409 := hwr.1
        have e410 : 1 ≤ (cf405 30).toInt := e410
        have e411 : (cf405 33).toInt = (cf88 33).toInt := e411
        have e412 : (cf405 38).toInt = (cf88 38).toInt := e412
        have e413 : (cf405 48).toInt = (cf88 48).toInt := e413
        have e414 : (cf405 46).toInt = (cf88 46).toInt := e414
        have e415 : (cf405 47).toInt = (cf88 47).toInt := e415
        have e416 : (cf405 57).toInt = (cf88 57).toInt := e416
        have e417 : (cf405 37).toInt = (cf88 37).toInt := e417
        have e418 : (cf405 42).toInt = (cf88 42).toInt := e418
        have e419 : (cf405 43).toInt = (cf88 43).toInt := e419
        have e420 : (cf405 44).toInt = (cf88 44).toInt := e420
        have e421 : (cf405 45).toInt = (cf88 45).toInt := e421
        have e422 : (cf405 54).toInt = (cf88 54).toInt := e422
        have e423 : (cf405 55).toInt = (cf88 55).toInt := e423
        have e424 : (cf405 58).toInt = (cf88 58).toInt := e424
        have e425 : (cf405 59).toInt = (cf88 59).toInt := e425
        have e426 : (cf405 41).toInt = (cf88 41).toInt := e426
        have e427 : R_mp_bad (8 : Int32) v400 cf88 cf405 := e427
        have hw : pw D A s.heap H locs [wdP cs h r g tf ta pf na ma87 wa cf405 ca ef ea xf xa] := hw
        refine lv_sipush (v := 4096) S.x S.b d_Mpg_declareArray_48 (by decide) ?_
        refine lv_istore_n (lv' := [(3, .int 4096), (0, .ref h), (1, .int p0), (2, .int p1)]) S.x S.b d_Mpg_declareArray_51 rfl hl (by decide) rfl (fun ls hl => ?_)
        refine lv_aload_n S.x S.b d_Mpg_declareArray_52 rfl (lv_at hl 1 rfl) ?_
        refine px_get S k_Mpg hT hw 0 0 22 (v := .ref (r 22)) rfl rfl rfl (by decide) m10_9 d_Mpg_declareArray_53 ?_
        refine lv_iload_n S.x S.b d_Mpg_declareArray_56 rfl (lv_at hl 2 rfl) ?_
        refine px_iald S hT hw 0 18 (n := 2100) (f := (ma87 22)) rfl gp_22 (x := p0) (vp_in_iff.mpr (by first | exact oz_a7e05de1cd hvr.2.2.1 hvr.2.1 g1 g2 | (constructor <;> omega))) d_Mpg_declareArray_57 ?_
        refine lv_topi (fun z428 ez428 => ?_)
        have lz428 := Int32.le_toInt z428
        have uz428 := Int32.toInt_lt z428
        have rz428 : z428.toInt = (ma0 22 p0.toNatClampNeg).toInt := (by rw [ez428, Ann.v22 han (by omega)])
        refine lv_iconst (v := 2) S.x S.b d_Mpg_declareArray_58 (by decide) ?_
        refine lv_icmp_ne (tgt := 125) S.x S.b d_Mpg_declareArray_59 (by decide) (fun c429 => ?_) (fun c429 => ?_)
        · have nc429 : ¬ z428.toInt = (2 : Int) := mt (i_eq (x := z428) (y := 2)).mpr c429
          refine lv_aload_n S.x S.b d_Mpg_declareArray_125 rfl (lv_at hl 1 rfl) ?_
          refine px_get S k_Mpg hT hw 0 0 22 (v := .ref (r 22)) rfl rfl rfl (by decide) m10_9 d_Mpg_declareArray_126 ?_
          refine lv_iload_n S.x S.b d_Mpg_declareArray_129 rfl (lv_at hl 2 rfl) ?_
          refine px_iald S hT hw 0 18 (n := 2100) (f := (ma87 22)) rfl gp_22 (x := p0) (vp_in_iff.mpr (by first | exact oz_a7e05de1cd hvr.2.2.1 hvr.2.1 g1 g2 | (constructor <;> omega))) d_Mpg_declareArray_130 ?_
          refine lv_topi (fun z431 ez431 => ?_)
          have lz431 := Int32.le_toInt z431
          have uz431 := Int32.toInt_lt z431
          have rz431 : z431.toInt = (ma0 22 p0.toNatClampNeg).toInt := (by rw [ez431, Ann.v22 han (by omega)])
          refine lv_iconst (v := 3) S.x S.b d_Mpg_declareArray_131 (by decide) ?_
          refine lv_icmp_ne (tgt := 176) S.x S.b d_Mpg_declareArray_132 (by decide) (fun c432 => ?_) (fun c432 => ?_)
          · have nc432 : ¬ z431.toInt = (3 : Int) := mt (i_eq (x := z431) (y := 3)).mpr c432
            refine lv_aload_n S.x S.b d_Mpg_declareArray_176 rfl (lv_at hl 1 rfl) ?_
            refine lv_iload_n S.x S.b d_Mpg_declareArray_177 rfl (lv_at hl 0 rfl) ?_
            refine lv_if_ge (tgt := 185) S.x S.b d_Mpg_declareArray_178 (by decide) (fun c434 => ?_) (fun c434 => ?_)
            ·
              refine lv_iload_n S.x S.b d_Mpg_declareArray_185 rfl (lv_at hl 0 rfl) ?_
              refine px_put S k_Mpg hT hw 0 0 58 rfl rfl (by decide) m10_55 rfl rfl rfl (Nat.le_of_ble_eq_true rfl) d_Mpg_declareArray_186 (w' := wdP cs h r g tf ta pf na ma87 wa (upd cf405 58 4096) ca ef ea xf xa) (ps' := [wdP cs h r g tf ta pf na ma87 wa (upd cf405 58 4096) ca ef ea xf xa]) rfl rfl (fun H locs hw => ?_)
              refine lv_iload_n S.x S.b d_Mpg_declareArray_189 rfl (lv_at hl 3 rfl) ?_
              refine lv_if_eq (tgt := 204) S.x S.b d_Mpg_declareArray_190 (by decide) (fun c435 => ?_) (fun c435 => ?_)
              · have nc435 : p1.toInt = (0 : Int) := (i_eq (x := p1) (y := 0)).mp c435
                refine lv_aload_n S.x S.b d_Mpg_declareArray_204 rfl (lv_at hl 1 rfl) ?_
                refine px_get S k_Mpg hT hw 0 0 58 (v := .int 4096) rfl rfl rfl (by decide) m10_55 d_Mpg_declareArray_205 ?_
                exact px_iret (v := 4096) S hr rfl hlk hAe hw (Nat.le_of_ble_eq_true rfl) (Nat.le_of_ble_eq_true rfl) (⟨ma87, (upd cf405 58 4096), rfl, (show (cf405 30).toInt = 0 → (cf 30).toInt = 0 from by omega), (show WrV (upd cf405 58 4096) (tf 6).toInt from (WrV.u hwr (by decide) (by decide))), (show (cf405 33).toInt = (cf 33).toInt from by first | exact oz_1687f4cc65 e93 e411 | omega), (show (cf405 37).toInt = (cf 37).toInt from by first | exact oz_1687f4cc65 hkk37_e91 e417 | omega), (show (cf405 38).toInt = (cf 38).toInt from by first | exact oz_1687f4cc65 e94 e412 | omega), (show (cf405 41).toInt = (cf 41).toInt from by first | exact oz_1687f4cc65 hkk41_e91 e426 | omega), (show (cf405 42).toInt = (cf 42).toInt from by first | exact oz_1687f4cc65 hkk42_e91 e418 | omega), (show (cf405 43).toInt = (cf 43).toInt from by first | exact oz_1687f4cc65 hkk43_e91 e419 | omega), (show (cf405 44).toInt = (cf 44).toInt from by first | exact oz_1687f4cc65 hkk44_e91 e420 | omega), (show (cf405 45).toInt = (cf 45).toInt from by first | exact oz_1687f4cc65 hkk45_e91 e421 | omega), (show (cf405 46).toInt = (cf 46).toInt from by first | exact oz_1687f4cc65 e96 e414 | omega), (show (cf405 47).toInt = (cf 47).toInt from by first | exact oz_1687f4cc65 e97 e415 | omega), (show (cf405 48).toInt = (cf 48).toInt from by first | exact oz_1687f4cc65 e95 e413 | omega), (show (cf405 54).toInt = (cf 54).toInt from by first | exact oz_1687f4cc65 hkk54_e91 e422 | omega), (show (cf405 55).toInt = (cf 55).toInt from by first | exact oz_1687f4cc65 hkk55_e91 e423 | omega), (show (cf405 59).toInt = (cf 59).toInt from by first | exact oz_1687f4cc65 hkk59_e91 e425 | omega), (show Ann na ma0 ma87 from han), (show FrC lo hi ma ma87 from hfc), (show 0 ≤ (4096 : Int) from by first | exact oz_0229090d46 | omega), (show (4096 : Int) ≤ 4096 from by first | exact oz_44e5be0b59 | omega), (show 0 ≤ (4096 : Int) from by first | exact oz_0229090d46 | omega), (show (4096 : Int) ≤ 4096 from by first | exact oz_44e5be0b59 | omega), (show (4096 : Int) ≤ 4 * (4096 : Int) from by first | exact oz_e232d82f68 | omega), (show ZAv (upd cf405 58 4096) ta na ma87 p0 (4096 : Int) from (zr_no (by first | omega | (show 1 ≤ _; rw [pk_un (by decide)]; omega)))), (show R_mp_declareArray tf ta na ca p0 p1 ma cf ma87 (upd cf405 58 4096) (4096 : Int32) from (Exists.intro 1 (Or.inl ⟨rfl, z84, ez84, ma87, cf88, v90, e102, Or.inr ⟨nc103, Or.inr ⟨nc158, Or.inr ⟨nc275, z398, ez398, v400, e403, cf405, e427, z428, ez428, Or.inl ⟨nc429, z431, ez431, Or.inl ⟨nc432, Or.inl ⟨nc435, rfl, rfl, rfl⟩⟩⟩⟩⟩⟩⟩)))⟩) d_Mpg_declareArray_208
              · have nc435 : ¬ p1.toInt = (0 : Int) := mt (i_eq (x := p1) (y := 0)).mpr c435
                refine lv_aload_n S.x S.b d_Mpg_declareArray_193 rfl (lv_at hl 1 rfl) ?_
                refine px_get S k_Mpg hT hw 0 0 58 (v := .int 4096) rfl rfl rfl (by decide) m10_55 d_Mpg_declareArray_194 ?_
                refine lv_iconst (v := 3) S.x S.b d_Mpg_declareArray_197 (by decide) ?_
                refine lv_iadd S.x S.b d_Mpg_declareArray_198 ?_
                refine lv_topi (fun z437 ez437 => ?_)
                have tz437 : z437.toInt = ((4096 : Int) + (3 : Int) + 2147483648) % 4294967296 - 2147483648 := by rw [ez437]; exact i_add 4096 3
                have lz437 := Int32.le_toInt z437
                have uz437 := Int32.toInt_lt z437
                try replace tz437 : z437.toInt = (4096 : Int) + (3 : Int) := by omega
                refine lv_iconst (v := 4) S.x S.b d_Mpg_declareArray_199 (by decide) ?_
                refine lv_idiv S.x S.b d_Mpg_declareArray_200 (fun hz0 => by have hz1 := i_eq.mp hz0; omega) ?_
                refine lv_topi (fun z438 ez438 => ?_)
                have lz438 := Int32.le_toInt z438
                have uz438 := Int32.toInt_lt z438
                have hd4 := i_div4 ez438 (by omega)
                refine lv_goto (tgt := 208) S.x S.b d_Mpg_declareArray_201 (by decide) ?_
                exact px_iret (v := z438) S hr rfl hlk hAe hw (Nat.le_of_ble_eq_true rfl) (Nat.le_of_ble_eq_true rfl) (⟨ma87, (upd cf405 58 4096), rfl, (show (cf405 30).toInt = 0 → (cf 30).toInt = 0 from by omega), (show WrV (upd cf405 58 4096) (tf 6).toInt from (WrV.u hwr (by decide) (by decide))), (show (cf405 33).toInt = (cf 33).toInt from by first | exact oz_1687f4cc65 e93 e411 | omega), (show (cf405 37).toInt = (cf 37).toInt from by first | exact oz_1687f4cc65 hkk37_e91 e417 | omega), (show (cf405 38).toInt = (cf 38).toInt from by first | exact oz_1687f4cc65 e94 e412 | omega), (show (cf405 41).toInt = (cf 41).toInt from by first | exact oz_1687f4cc65 hkk41_e91 e426 | omega), (show (cf405 42).toInt = (cf 42).toInt from by first | exact oz_1687f4cc65 hkk42_e91 e418 | omega), (show (cf405 43).toInt = (cf 43).toInt from by first | exact oz_1687f4cc65 hkk43_e91 e419 | omega), (show (cf405 44).toInt = (cf 44).toInt from by first | exact oz_1687f4cc65 hkk44_e91 e420 | omega), (show (cf405 45).toInt = (cf 45).toInt from by first | exact oz_1687f4cc65 hkk45_e91 e421 | omega), (show (cf405 46).toInt = (cf 46).toInt from by first | exact oz_1687f4cc65 e96 e414 | omega), (show (cf405 47).toInt = (cf 47).toInt from by first | exact oz_1687f4cc65 e97 e415 | omega), (show (cf405 48).toInt = (cf 48).toInt from by first | exact oz_1687f4cc65 e95 e413 | omega), (show (cf405 54).toInt = (cf 54).toInt from by first | exact oz_1687f4cc65 hkk54_e91 e422 | omega), (show (cf405 55).toInt = (cf 55).toInt from by first | exact oz_1687f4cc65 hkk55_e91 e423 | omega), (show (cf405 59).toInt = (cf 59).toInt from by first | exact oz_1687f4cc65 hkk59_e91 e425 | omega), (show Ann na ma0 ma87 from han), (show FrC lo hi ma ma87 from hfc), (show 0 ≤ (4096 : Int) from by first | exact oz_0229090d46 | omega), (show (4096 : Int) ≤ 4096 from by first | exact oz_44e5be0b59 | omega), (show 0 ≤ z438.toInt from by omega), (show z438.toInt ≤ 4096 from by omega), (show (4096 : Int) ≤ 4 * z438.toInt from by omega), (show ZAv (upd cf405 58 4096) ta na ma87 p0 (4096 : Int) from (zr_no (by first | omega | (show 1 ≤ _; rw [pk_un (by decide)]; omega)))), (show R_mp_declareArray tf ta na ca p0 p1 ma cf ma87 (upd cf405 58 4096) z438 from (Exists.intro 1 (Or.inl ⟨rfl, z84, ez84, ma87, cf88, v90, e102, Or.inr ⟨nc103, Or.inr ⟨nc158, Or.inr ⟨nc275, z398, ez398, v400, e403, cf405, e427, z428, ez428, Or.inl ⟨nc429, z431, ez431, Or.inl ⟨nc432, Or.inr ⟨nc435, z437, ez437, z438, ez438, rfl, rfl, rfl⟩⟩⟩⟩⟩⟩⟩)))⟩) d_Mpg_declareArray_208
            · exact absurd c434 (by decide)
          · have nc432 : z431.toInt = (3 : Int) := (i_eq (x := z431) (y := 3)).mp c432
            refine lv_aload_n S.x S.b d_Mpg_declareArray_135 rfl (lv_at hl 1 rfl) ?_
            refine px_get S k_Mpg hT hw 0 0 10 (v := .ref (r 10)) rfl rfl rfl (by decide) m9_234 d_Mpg_declareArray_136 ?_
            refine lv_aload_n S.x S.b d_Mpg_declareArray_139 rfl (lv_at hl 1 rfl) ?_
            refine px_get S k_Mpg hT hw 0 0 19 (v := .ref (r 19)) rfl rfl rfl (by decide) m10_5 d_Mpg_declareArray_140 ?_
            refine lv_iload_n S.x S.b d_Mpg_declareArray_143 rfl (lv_at hl 2 rfl) ?_
            refine px_iald S hT hw 0 15 (n := 2100) (f := (ma87 19)) rfl gp_19 (x := p0) (vp_in_iff.mpr (by first | exact oz_a7e05de1cd hvr.2.2.1 hvr.2.1 g1 g2 | (constructor <;> omega))) d_Mpg_declareArray_144 ?_
            refine lv_topi (fun z439 ez439 => ?_)
            have lz439 := Int32.le_toInt z439
            have uz439 := Int32.toInt_lt z439
            have ha_z439 : z439 = ma0 19 p0.toNatClampNeg := ez439.trans (Ann.v19 han (by omega)); have hn_z439 : z439.toInt = (ma0 19 p0.toNatClampNeg).toInt := (by rw [ha_z439]); have hk3 := hav.k3 (by omega); rw [← ha_z439] at hk3
            refine px_iald S hT hw 0 9 (n := 2060) (f := (ta 10)) rfl gp_10 (x := z439) (vp_in_iff.mpr (by first | exact oz_8859ebd461 hn_z439 hk3.1 hk3.2.1 g3 | (constructor <;> omega))) d_Mpg_declareArray_145 ?_
            refine lv_topi (fun z440 ez440 => ?_)
            have lz440 := Int32.le_toInt z440
            have uz440 := Int32.toInt_lt z440
            have rz440 : z440.toInt = wh ta z439 := by rw [ez440]; rfl
            have hw4 := tk_w4 htk (x := z439) (by omega) (by omega) ez440 (by omega)
            refine lv_iconst (v := 1) S.x S.b d_Mpg_declareArray_146 (by decide) ?_
            refine lv_iadd S.x S.b d_Mpg_declareArray_147 ?_
            refine lv_topi (fun z441 ez441 => ?_)
            have tz441 : z441.toInt = (z440.toInt + (1 : Int) + 2147483648) % 4294967296 - 2147483648 := by rw [ez441]; exact i_add z440 1
            have lz441 := Int32.le_toInt z441
            have uz441 := Int32.toInt_lt z441
            try replace tz441 : z441.toInt = z440.toInt + (1 : Int) := by omega
            refine lv_istore (lv' := [(4, .int z441), (3, .int 4096), (0, .ref h), (1, .int p0), (2, .int p1)]) S.x S.b d_Mpg_declareArray_148 hl (by decide) rfl (fun ls hl => ?_)
            refine lv_iload_n S.x S.b d_Mpg_declareArray_150 rfl (lv_at hl 4 rfl) ?_
            refine lv_if_eq (tgt := 164) S.x S.b d_Mpg_declareArray_151 (by decide) (fun c442 => ?_) (fun c442 => ?_)
            · have nc442 : p1.toInt = (0 : Int) := (i_eq (x := p1) (y := 0)).mp c442
              refine lv_aload_n S.x S.b d_Mpg_declareArray_164 rfl (lv_at hl 2 rfl) ?_
              refine lv_bipush (v := 8) S.x S.b d_Mpg_declareArray_165 (by decide) ?_
              refine lv_aload_n S.x S.b d_Mpg_declareArray_167 rfl (lv_at hl 2 rfl) ?_
              refine px_get S k_Mpg hT hw 0 0 19 (v := .ref (r 19)) rfl rfl rfl (by decide) m10_5 d_Mpg_declareArray_168 ?_
              refine lv_iload_n S.x S.b d_Mpg_declareArray_171 rfl (lv_at hl 3 rfl) ?_
              refine px_iald S hT hw 0 15 (n := 2100) (f := (ma87 19)) rfl gp_19 (x := p0) (vp_in_iff.mpr (by first | exact oz_a7e05de1cd hvr.2.2.1 hvr.2.1 g1 g2 | (constructor <;> omega))) d_Mpg_declareArray_172 ?_
              refine lv_topi (fun z444 ez444 => ?_)
              have lz444 := Int32.le_toInt z444
              have uz444 := Int32.toInt_lt z444
              have ha_z444 : z444 = ma0 19 p0.toNatClampNeg := ez444.trans (Ann.v19 han (by omega)); have hn_z444 : z444.toInt = (ma0 19 p0.toNatClampNeg).toInt := (by rw [ha_z444]); have hk3 := hav.k3 (by omega); rw [← ha_z444] at hk3
              refine px_callv (pr := []) (px_runV (As := [.int 8, .int z444]) (rest := []) S (c_mp_bad l D cs h r g tf ta pf na ma87 wa ca ef ea xf xa cf405 8 z444  (show 1 ≤ (8 : Int) from by first | exact oz_fe427bacb1 | omega) (show 0 ≤ z444.toInt from by first | exact oz_f3ebed1ad0 hn_z444 hk3.1 | omega) (show z444.toInt < (tf 6).toInt from by first | exact oz_b0a61accca hk3.2.1 hn_z444 | omega) htk hwr _) hT (pr := []) (pcs := [wdP cs h r g tf ta pf na ma87 wa cf405 ca ef ea xf xa]) hw px_X.tt (px_recv hT hw 0 0 rfl rfl rfl) m12_173 m12_170 m12_172 ms_11_12 m1_21 q_Mpg_bad ⟨show 0 + 1 ≤ (4 * d + 20) from (by first | exact oz_8385159a22 | omega), show 8 + (3 + 11) + 0 ≤ (200 * d + 700) from (by first | exact oz_a3cd9048d3 | omega)⟩ hl.1 rfl (Nat.le_of_ble_eq_true rfl) d_Mpg_declareArray_173 ⟨Nat.le_of_ble_eq_true rfl, Nat.le_of_ble_eq_true rfl⟩) hw hA (fun p447 H locs hp447 hw => ?_)
              obtain ⟨cf446, rfl, e449, e450, e451, e452, e453, e454, e455, e456, e457, e458, e459, e460, e461, e462, e463, e464, e465, e466, e467, e468⟩ := hp447
              have e449 : KpE cf405 cf446 := e449
              have hkz_e449 := e449.2
              have e450 : WrV cf446 (tf 6).toInt := e450
              have hwr := e450
              have hw0_e450 := hwr.1
              have e451 : 1 ≤ (cf446 30).toInt := e451
              have e452 : (cf446 33).toInt = (cf405 33).toInt := e452
              have e453 : (cf446 38).toInt = (cf405 38).toInt := e453
              have e454 : (cf446 48).toInt = (cf405 48).toInt := e454
              have e455 : (cf446 46).toInt = (cf405 46).toInt := e455
              have e456 : (cf446 47).toInt = (cf405 47).toInt := e456
              have e457 : (cf446 57).toInt = (cf405 57).toInt := e457
              have e458 : (cf446 37).toInt = (cf405 37).toInt := e458
              have e459 : (cf446 42).toInt = (cf405 42).toInt := e459
              have e460 : (cf446 43).toInt = (cf405 43).toInt := e460
              have e461 : (cf446 44).toInt = (cf405 44).toInt := e461
              have e462 : (cf446 45).toInt = (cf405 45).toInt := e462
              have e463 : (cf446 54).toInt = (cf405 54).toInt := e463
              have e464 : (cf446 55).toInt = (cf405 55).toInt := e464
              have e465 : (cf446 58).toInt = (cf405 58).toInt := e465
              have e466 : (cf446 59).toInt = (cf405 59).toInt := e466
              have e467 : (cf446 41).toInt = (cf405 41).toInt := e467
              have e468 : R_mp_bad (8 : Int32) z444 cf405 cf446 := e468
              have hw : pw D A s.heap H locs [wdP cs h r g tf ta pf na ma87 wa cf446 ca ef ea xf xa] := hw
              refine lv_aload_n S.x S.b d_Mpg_declareArray_176 rfl (lv_at hl 2 rfl) ?_
              refine lv_iload_n S.x S.b d_Mpg_declareArray_177 rfl (lv_at hl 1 rfl) ?_
              refine lv_if_ge (tgt := 185) S.x S.b d_Mpg_declareArray_178 (by decide) (fun c469 => ?_) (fun c469 => ?_)
              ·
                refine lv_iload_n S.x S.b d_Mpg_declareArray_185 rfl (lv_at hl 1 rfl) ?_
                refine px_put S k_Mpg hT hw 0 0 58 rfl rfl (by decide) m10_55 rfl rfl rfl (Nat.le_of_ble_eq_true rfl) d_Mpg_declareArray_186 (w' := wdP cs h r g tf ta pf na ma87 wa (upd cf446 58 4096) ca ef ea xf xa) (ps' := [wdP cs h r g tf ta pf na ma87 wa (upd cf446 58 4096) ca ef ea xf xa]) rfl rfl (fun H locs hw => ?_)
                refine lv_iload_n S.x S.b d_Mpg_declareArray_189 rfl (lv_at hl 4 rfl) ?_
                refine lv_if_eq (tgt := 204) S.x S.b d_Mpg_declareArray_190 (by decide) (fun c470 => ?_) (fun c470 => ?_)
                · have nc470 : p1.toInt = (0 : Int) := (i_eq (x := p1) (y := 0)).mp c470
                  refine lv_aload_n S.x S.b d_Mpg_declareArray_204 rfl (lv_at hl 2 rfl) ?_
                  refine px_get S k_Mpg hT hw 0 0 58 (v := .int 4096) rfl rfl rfl (by decide) m10_55 d_Mpg_declareArray_205 ?_
                  exact px_iret (v := 4096) S hr rfl hlk hAe hw (Nat.le_of_ble_eq_true rfl) (Nat.le_of_ble_eq_true rfl) (⟨ma87, (upd cf446 58 4096), rfl, (show (cf446 30).toInt = 0 → (cf 30).toInt = 0 from by omega), (show WrV (upd cf446 58 4096) (tf 6).toInt from (WrV.u hwr (by decide) (by decide))), (show (cf446 33).toInt = (cf 33).toInt from by first | exact oz_e13fc83238 e93 e452 e411 | omega), (show (cf446 37).toInt = (cf 37).toInt from by first | exact oz_e13fc83238 hkk37_e91 e458 e417 | omega), (show (cf446 38).toInt = (cf 38).toInt from by first | exact oz_e13fc83238 e94 e453 e412 | omega), (show (cf446 41).toInt = (cf 41).toInt from by first | exact oz_e13fc83238 hkk41_e91 e467 e426 | omega), (show (cf446 42).toInt = (cf 42).toInt from by first | exact oz_e13fc83238 hkk42_e91 e459 e418 | omega), (show (cf446 43).toInt = (cf 43).toInt from by first | exact oz_e13fc83238 hkk43_e91 e460 e419 | omega), (show (cf446 44).toInt = (cf 44).toInt from by first | exact oz_e13fc83238 hkk44_e91 e461 e420 | omega), (show (cf446 45).toInt = (cf 45).toInt from by first | exact oz_e13fc83238 hkk45_e91 e462 e421 | omega), (show (cf446 46).toInt = (cf 46).toInt from by first | exact oz_e13fc83238 e96 e455 e414 | omega), (show (cf446 47).toInt = (cf 47).toInt from by first | exact oz_e13fc83238 e97 e456 e415 | omega), (show (cf446 48).toInt = (cf 48).toInt from by first | exact oz_e13fc83238 e95 e454 e413 | omega), (show (cf446 54).toInt = (cf 54).toInt from by first | exact oz_e13fc83238 hkk54_e91 e463 e422 | omega), (show (cf446 55).toInt = (cf 55).toInt from by first | exact oz_e13fc83238 hkk55_e91 e464 e423 | omega), (show (cf446 59).toInt = (cf 59).toInt from by first | exact oz_e13fc83238 hkk59_e91 e466 e425 | omega), (show Ann na ma0 ma87 from han), (show FrC lo hi ma ma87 from hfc), (show 0 ≤ (4096 : Int) from by first | exact oz_0229090d46 | omega), (show (4096 : Int) ≤ 4096 from by first | exact oz_44e5be0b59 | omega), (show 0 ≤ (4096 : Int) from by first | exact oz_0229090d46 | omega), (show (4096 : Int) ≤ 4096 from by first | exact oz_44e5be0b59 | omega), (show (4096 : Int) ≤ 4 * (4096 : Int) from by first | exact oz_e232d82f68 | omega), (show ZAv (upd cf446 58 4096) ta na ma87 p0 (4096 : Int) from (zr_no (by first | omega | (show 1 ≤ _; rw [pk_un (by decide)]; omega)))), (show R_mp_declareArray tf ta na ca p0 p1 ma cf ma87 (upd cf446 58 4096) (4096 : Int32) from (Exists.intro 1 (Or.inl ⟨rfl, z84, ez84, ma87, cf88, v90, e102, Or.inr ⟨nc103, Or.inr ⟨nc158, Or.inr ⟨nc275, z398, ez398, v400, e403, cf405, e427, z428, ez428, Or.inl ⟨nc429, z431, ez431, Or.inr ⟨nc432, z439, ez439, z440, ez440, z441, ez441, Or.inl ⟨nc442, z444, ez444, cf446, e468, Or.inl ⟨nc470, rfl, rfl, rfl⟩⟩⟩⟩⟩⟩⟩⟩)))⟩) d_Mpg_declareArray_208
                · have nc470 : ¬ p1.toInt = (0 : Int) := mt (i_eq (x := p1) (y := 0)).mpr c470
                  refine lv_aload_n S.x S.b d_Mpg_declareArray_193 rfl (lv_at hl 2 rfl) ?_
                  refine px_get S k_Mpg hT hw 0 0 58 (v := .int 4096) rfl rfl rfl (by decide) m10_55 d_Mpg_declareArray_194 ?_
                  refine lv_iconst (v := 3) S.x S.b d_Mpg_declareArray_197 (by decide) ?_
                  refine lv_iadd S.x S.b d_Mpg_declareArray_198 ?_
                  refine lv_topi (fun z472 ez472 => ?_)
                  have tz472 : z472.toInt = ((4096 : Int) + (3 : Int) + 2147483648) % 4294967296 - 2147483648 := by rw [ez472]; exact i_add 4096 3
                  have lz472 := Int32.le_toInt z472
                  have uz472 := Int32.toInt_lt z472
                  try replace tz472 : z472.toInt = (4096 : Int) + (3 : Int) := by omega
                  refine lv_iconst (v := 4) S.x S.b d_Mpg_declareArray_199 (by decide) ?_
                  refine lv_idiv S.x S.b d_Mpg_declareArray_200 (fun hz0 => by have hz1 := i_eq.mp hz0; omega) ?_
                  refine lv_topi (fun z473 ez473 => ?_)
                  have lz473 := Int32.le_toInt z473
                  have uz473 := Int32.toInt_lt z473
                  have hd4 := i_div4 ez473 (by omega)
                  refine lv_goto (tgt := 208) S.x S.b d_Mpg_declareArray_201 (by decide) ?_
                  exact px_iret (v := z473) S hr rfl hlk hAe hw (Nat.le_of_ble_eq_true rfl) (Nat.le_of_ble_eq_true rfl) (⟨ma87, (upd cf446 58 4096), rfl, (show (cf446 30).toInt = 0 → (cf 30).toInt = 0 from by omega), (show WrV (upd cf446 58 4096) (tf 6).toInt from (WrV.u hwr (by decide) (by decide))), (show (cf446 33).toInt = (cf 33).toInt from by first | exact oz_e13fc83238 e93 e452 e411 | omega), (show (cf446 37).toInt = (cf 37).toInt from by first | exact oz_e13fc83238 hkk37_e91 e458 e417 | omega), (show (cf446 38).toInt = (cf 38).toInt from by first | exact oz_e13fc83238 e94 e453 e412 | omega), (show (cf446 41).toInt = (cf 41).toInt from by first | exact oz_e13fc83238 hkk41_e91 e467 e426 | omega), (show (cf446 42).toInt = (cf 42).toInt from by first | exact oz_e13fc83238 hkk42_e91 e459 e418 | omega), (show (cf446 43).toInt = (cf 43).toInt from by first | exact oz_e13fc83238 hkk43_e91 e460 e419 | omega), (show (cf446 44).toInt = (cf 44).toInt from by first | exact oz_e13fc83238 hkk44_e91 e461 e420 | omega), (show (cf446 45).toInt = (cf 45).toInt from by first | exact oz_e13fc83238 hkk45_e91 e462 e421 | omega), (show (cf446 46).toInt = (cf 46).toInt from by first | exact oz_e13fc83238 e96 e455 e414 | omega), (show (cf446 47).toInt = (cf 47).toInt from by first | exact oz_e13fc83238 e97 e456 e415 | omega), (show (cf446 48).toInt = (cf 48).toInt from by first | exact oz_e13fc83238 e95 e454 e413 | omega), (show (cf446 54).toInt = (cf 54).toInt from by first | exact oz_e13fc83238 hkk54_e91 e463 e422 | omega), (show (cf446 55).toInt = (cf 55).toInt from by first | exact oz_e13fc83238 hkk55_e91 e464 e423 | omega), (show (cf446 59).toInt = (cf 59).toInt from by first | exact oz_e13fc83238 hkk59_e91 e466 e425 | omega), (show Ann na ma0 ma87 from han), (show FrC lo hi ma ma87 from hfc), (show 0 ≤ (4096 : Int) from by first | exact oz_0229090d46 | omega), (show (4096 : Int) ≤ 4096 from by first | exact oz_44e5be0b59 | omega), (show 0 ≤ z473.toInt from by omega), (show z473.toInt ≤ 4096 from by omega), (show (4096 : Int) ≤ 4 * z473.toInt from by omega), (show ZAv (upd cf446 58 4096) ta na ma87 p0 (4096 : Int) from (zr_no (by first | omega | (show 1 ≤ _; rw [pk_un (by decide)]; omega)))), (show R_mp_declareArray tf ta na ca p0 p1 ma cf ma87 (upd cf446 58 4096) z473 from (Exists.intro 1 (Or.inl ⟨rfl, z84, ez84, ma87, cf88, v90, e102, Or.inr ⟨nc103, Or.inr ⟨nc158, Or.inr ⟨nc275, z398, ez398, v400, e403, cf405, e427, z428, ez428, Or.inl ⟨nc429, z431, ez431, Or.inr ⟨nc432, z439, ez439, z440, ez440, z441, ez441, Or.inl ⟨nc442, z444, ez444, cf446, e468, Or.inr ⟨nc470, z472, ez472, z473, ez473, rfl, rfl, rfl⟩⟩⟩⟩⟩⟩⟩⟩)))⟩) d_Mpg_declareArray_208
              · exact absurd c469 (by decide)
            · have nc442 : ¬ p1.toInt = (0 : Int) := mt (i_eq (x := p1) (y := 0)).mpr c442
              refine lv_iload_n S.x S.b d_Mpg_declareArray_154 rfl (lv_at hl 1 rfl) ?_
              refine lv_if_lt (tgt := 176) S.x S.b d_Mpg_declareArray_155 (by decide) (fun c474 => ?_) (fun c474 => ?_)
              · exact absurd c474 (by decide)
              ·
                refine lv_iload S.x S.b d_Mpg_declareArray_158 (lv_at hl 0 rfl) ?_
                refine lv_iload_n S.x S.b d_Mpg_declareArray_160 rfl (lv_at hl 1 rfl) ?_
                refine lv_icmp_le (tgt := 176) S.x S.b d_Mpg_declareArray_161 (by decide) (fun c475 => ?_) (fun c475 => ?_)
                · have nc475 : z441.toInt ≤ (4096 : Int) := (i_le (x := z441) (y := 4096)).mp c475
                  refine lv_aload_n S.x S.b d_Mpg_declareArray_176 rfl (lv_at hl 2 rfl) ?_
                  refine lv_iload_n S.x S.b d_Mpg_declareArray_177 rfl (lv_at hl 1 rfl) ?_
                  refine lv_if_ge (tgt := 185) S.x S.b d_Mpg_declareArray_178 (by decide) (fun c477 => ?_) (fun c477 => ?_)
                  ·
                    refine lv_iload_n S.x S.b d_Mpg_declareArray_185 rfl (lv_at hl 1 rfl) ?_
                    refine px_put S k_Mpg hT hw 0 0 58 rfl rfl (by decide) m10_55 rfl rfl rfl (Nat.le_of_ble_eq_true rfl) d_Mpg_declareArray_186 (w' := wdP cs h r g tf ta pf na ma87 wa (upd cf405 58 4096) ca ef ea xf xa) (ps' := [wdP cs h r g tf ta pf na ma87 wa (upd cf405 58 4096) ca ef ea xf xa]) rfl rfl (fun H locs hw => ?_)
                    refine lv_iload_n S.x S.b d_Mpg_declareArray_189 rfl (lv_at hl 4 rfl) ?_
                    refine lv_if_eq (tgt := 204) S.x S.b d_Mpg_declareArray_190 (by decide) (fun c478 => ?_) (fun c478 => ?_)
                    · have nc478 : p1.toInt = (0 : Int) := (i_eq (x := p1) (y := 0)).mp c478
                      refine lv_aload_n S.x S.b d_Mpg_declareArray_204 rfl (lv_at hl 2 rfl) ?_
                      refine px_get S k_Mpg hT hw 0 0 58 (v := .int 4096) rfl rfl rfl (by decide) m10_55 d_Mpg_declareArray_205 ?_
                      exact px_iret (v := 4096) S hr rfl hlk hAe hw (Nat.le_of_ble_eq_true rfl) (Nat.le_of_ble_eq_true rfl) (⟨ma87, (upd cf405 58 4096), rfl, (show (cf405 30).toInt = 0 → (cf 30).toInt = 0 from by omega), (show WrV (upd cf405 58 4096) (tf 6).toInt from (WrV.u hwr (by decide) (by decide))), (show (cf405 33).toInt = (cf 33).toInt from by first | exact oz_1687f4cc65 e93 e411 | omega), (show (cf405 37).toInt = (cf 37).toInt from by first | exact oz_1687f4cc65 hkk37_e91 e417 | omega), (show (cf405 38).toInt = (cf 38).toInt from by first | exact oz_1687f4cc65 e94 e412 | omega), (show (cf405 41).toInt = (cf 41).toInt from by first | exact oz_1687f4cc65 hkk41_e91 e426 | omega), (show (cf405 42).toInt = (cf 42).toInt from by first | exact oz_1687f4cc65 hkk42_e91 e418 | omega), (show (cf405 43).toInt = (cf 43).toInt from by first | exact oz_1687f4cc65 hkk43_e91 e419 | omega), (show (cf405 44).toInt = (cf 44).toInt from by first | exact oz_1687f4cc65 hkk44_e91 e420 | omega), (show (cf405 45).toInt = (cf 45).toInt from by first | exact oz_1687f4cc65 hkk45_e91 e421 | omega), (show (cf405 46).toInt = (cf 46).toInt from by first | exact oz_1687f4cc65 e96 e414 | omega), (show (cf405 47).toInt = (cf 47).toInt from by first | exact oz_1687f4cc65 e97 e415 | omega), (show (cf405 48).toInt = (cf 48).toInt from by first | exact oz_1687f4cc65 e95 e413 | omega), (show (cf405 54).toInt = (cf 54).toInt from by first | exact oz_1687f4cc65 hkk54_e91 e422 | omega), (show (cf405 55).toInt = (cf 55).toInt from by first | exact oz_1687f4cc65 hkk55_e91 e423 | omega), (show (cf405 59).toInt = (cf 59).toInt from by first | exact oz_1687f4cc65 hkk59_e91 e425 | omega), (show Ann na ma0 ma87 from han), (show FrC lo hi ma ma87 from hfc), (show 0 ≤ (4096 : Int) from by first | exact oz_0229090d46 | omega), (show (4096 : Int) ≤ 4096 from by first | exact oz_44e5be0b59 | omega), (show 0 ≤ (4096 : Int) from by first | exact oz_0229090d46 | omega), (show (4096 : Int) ≤ 4096 from by first | exact oz_44e5be0b59 | omega), (show (4096 : Int) ≤ 4 * (4096 : Int) from by first | exact oz_e232d82f68 | omega), (show ZAv (upd cf405 58 4096) ta na ma87 p0 (4096 : Int) from (zr_no (by first | omega | (show 1 ≤ _; rw [pk_un (by decide)]; omega)))), (show R_mp_declareArray tf ta na ca p0 p1 ma cf ma87 (upd cf405 58 4096) (4096 : Int32) from (Exists.intro 1 (Or.inl ⟨rfl, z84, ez84, ma87, cf88, v90, e102, Or.inr ⟨nc103, Or.inr ⟨nc158, Or.inr ⟨nc275, z398, ez398, v400, e403, cf405, e427, z428, ez428, Or.inl ⟨nc429, z431, ez431, Or.inr ⟨nc432, z439, ez439, z440, ez440, z441, ez441, Or.inr ⟨nc442, Or.inl ⟨nc475, Or.inl ⟨nc478, rfl, rfl, rfl⟩⟩⟩⟩⟩⟩⟩⟩⟩)))⟩) d_Mpg_declareArray_208
                    · have nc478 : ¬ p1.toInt = (0 : Int) := mt (i_eq (x := p1) (y := 0)).mpr c478
                      refine lv_aload_n S.x S.b d_Mpg_declareArray_193 rfl (lv_at hl 2 rfl) ?_
                      refine px_get S k_Mpg hT hw 0 0 58 (v := .int 4096) rfl rfl rfl (by decide) m10_55 d_Mpg_declareArray_194 ?_
                      refine lv_iconst (v := 3) S.x S.b d_Mpg_declareArray_197 (by decide) ?_
                      refine lv_iadd S.x S.b d_Mpg_declareArray_198 ?_
                      refine lv_topi (fun z480 ez480 => ?_)
                      have tz480 : z480.toInt = ((4096 : Int) + (3 : Int) + 2147483648) % 4294967296 - 2147483648 := by rw [ez480]; exact i_add 4096 3
                      have lz480 := Int32.le_toInt z480
                      have uz480 := Int32.toInt_lt z480
                      try replace tz480 : z480.toInt = (4096 : Int) + (3 : Int) := by omega
                      refine lv_iconst (v := 4) S.x S.b d_Mpg_declareArray_199 (by decide) ?_
                      refine lv_idiv S.x S.b d_Mpg_declareArray_200 (fun hz0 => by have hz1 := i_eq.mp hz0; omega) ?_
                      refine lv_topi (fun z481 ez481 => ?_)
                      have lz481 := Int32.le_toInt z481
                      have uz481 := Int32.toInt_lt z481
                      have hd4 := i_div4 ez481 (by omega)
                      refine lv_goto (tgt := 208) S.x S.b d_Mpg_declareArray_201 (by decide) ?_
                      exact px_iret (v := z481) S hr rfl hlk hAe hw (Nat.le_of_ble_eq_true rfl) (Nat.le_of_ble_eq_true rfl) (⟨ma87, (upd cf405 58 4096), rfl, (show (cf405 30).toInt = 0 → (cf 30).toInt = 0 from by omega), (show WrV (upd cf405 58 4096) (tf 6).toInt from (WrV.u hwr (by decide) (by decide))), (show (cf405 33).toInt = (cf 33).toInt from by first | exact oz_1687f4cc65 e93 e411 | omega), (show (cf405 37).toInt = (cf 37).toInt from by first | exact oz_1687f4cc65 hkk37_e91 e417 | omega), (show (cf405 38).toInt = (cf 38).toInt from by first | exact oz_1687f4cc65 e94 e412 | omega), (show (cf405 41).toInt = (cf 41).toInt from by first | exact oz_1687f4cc65 hkk41_e91 e426 | omega), (show (cf405 42).toInt = (cf 42).toInt from by first | exact oz_1687f4cc65 hkk42_e91 e418 | omega), (show (cf405 43).toInt = (cf 43).toInt from by first | exact oz_1687f4cc65 hkk43_e91 e419 | omega), (show (cf405 44).toInt = (cf 44).toInt from by first | exact oz_1687f4cc65 hkk44_e91 e420 | omega), (show (cf405 45).toInt = (cf 45).toInt from by first | exact oz_1687f4cc65 hkk45_e91 e421 | omega), (show (cf405 46).toInt = (cf 46).toInt from by first | exact oz_1687f4cc65 e96 e414 | omega), (show (cf405 47).toInt = (cf 47).toInt from by first | exact oz_1687f4cc65 e97 e415 | omega), (show (cf405 48).toInt = (cf 48).toInt from by first | exact oz_1687f4cc65 e95 e413 | omega), (show (cf405 54).toInt = (cf 54).toInt from by first | exact oz_1687f4cc65 hkk54_e91 e422 | omega), (show (cf405 55).toInt = (cf 55).toInt from by first | exact oz_1687f4cc65 hkk55_e91 e423 | omega), (show (cf405 59).toInt = (cf 59).toInt from by first | exact oz_1687f4cc65 hkk59_e91 e425 | omega), (show Ann na ma0 ma87 from han), (show FrC lo hi ma ma87 from hfc), (show 0 ≤ (4096 : Int) from by first | exact oz_0229090d46 | omega), (show (4096 : Int) ≤ 4096 from by first | exact oz_44e5be0b59 | omega), (show 0 ≤ z481.toInt from by omega), (show z481.toInt ≤ 4096 from by omega), (show (4096 : Int) ≤ 4 * z481.toInt from by omega), (show ZAv (upd cf405 58 4096) ta na ma87 p0 (4096 : Int) from (zr_no (by first | omega | (show 1 ≤ _; rw [pk_un (by decide)]; omega)))), (show R_mp_declareArray tf ta na ca p0 p1 ma cf ma87 (upd cf405 58 4096) z481 from (Exists.intro 1 (Or.inl ⟨rfl, z84, ez84, ma87, cf88, v90, e102, Or.inr ⟨nc103, Or.inr ⟨nc158, Or.inr ⟨nc275, z398, ez398, v400, e403, cf405, e427, z428, ez428, Or.inl ⟨nc429, z431, ez431, Or.inr ⟨nc432, z439, ez439, z440, ez440, z441, ez441, Or.inr ⟨nc442, Or.inl ⟨nc475, Or.inr ⟨nc478, z480, ez480, z481, ez481, rfl, rfl, rfl⟩⟩⟩⟩⟩⟩⟩⟩⟩)))⟩) d_Mpg_declareArray_208
                  · exact absurd c477 (by decide)
                · have nc475 : ¬ z441.toInt ≤ (4096 : Int) := mt (i_le (x := z441) (y := 4096)).mpr c475
                  refine lv_aload_n S.x S.b d_Mpg_declareArray_164 rfl (lv_at hl 2 rfl) ?_
                  refine lv_bipush (v := 8) S.x S.b d_Mpg_declareArray_165 (by decide) ?_
                  refine lv_aload_n S.x S.b d_Mpg_declareArray_167 rfl (lv_at hl 2 rfl) ?_
                  refine px_get S k_Mpg hT hw 0 0 19 (v := .ref (r 19)) rfl rfl rfl (by decide) m10_5 d_Mpg_declareArray_168 ?_
                  refine lv_iload_n S.x S.b d_Mpg_declareArray_171 rfl (lv_at hl 3 rfl) ?_
                  refine px_iald S hT hw 0 15 (n := 2100) (f := (ma87 19)) rfl gp_19 (x := p0) (vp_in_iff.mpr (by first | exact oz_a7e05de1cd hvr.2.2.1 hvr.2.1 g1 g2 | (constructor <;> omega))) d_Mpg_declareArray_172 ?_
                  refine lv_topi (fun z482 ez482 => ?_)
                  have lz482 := Int32.le_toInt z482
                  have uz482 := Int32.toInt_lt z482
                  have ha_z482 : z482 = ma0 19 p0.toNatClampNeg := ez482.trans (Ann.v19 han (by omega)); have hn_z482 : z482.toInt = (ma0 19 p0.toNatClampNeg).toInt := (by rw [ha_z482]); have hk3 := hav.k3 (by omega); rw [← ha_z482] at hk3
                  refine px_callv (pr := []) (px_runV (As := [.int 8, .int z482]) (rest := []) S (c_mp_bad l D cs h r g tf ta pf na ma87 wa ca ef ea xf xa cf405 8 z482  (show 1 ≤ (8 : Int) from by first | exact oz_fe427bacb1 | omega) (show 0 ≤ z482.toInt from by first | exact oz_f3ebed1ad0 hn_z482 hk3.1 | omega) (show z482.toInt < (tf 6).toInt from by first | exact oz_b0a61accca hk3.2.1 hn_z482 | omega) htk hwr _) hT (pr := []) (pcs := [wdP cs h r g tf ta pf na ma87 wa cf405 ca ef ea xf xa]) hw px_X.tt (px_recv hT hw 0 0 rfl rfl rfl) m12_173 m12_170 m12_172 ms_11_12 m1_21 q_Mpg_bad ⟨show 0 + 1 ≤ (4 * d + 20) from (by first | exact oz_8385159a22 | omega), show 8 + (3 + 11) + 0 ≤ (200 * d + 700) from (by first | exact oz_a3cd9048d3 | omega)⟩ hl.1 rfl (Nat.le_of_ble_eq_true rfl) d_Mpg_declareArray_173 ⟨Nat.le_of_ble_eq_true rfl, Nat.le_of_ble_eq_true rfl⟩) hw hA (fun p485 H locs hp485 hw => ?_)
                  obtain ⟨cf484, rfl, e487, e488, e489, e490, e491, e492, e493, e494, e495, e496, e497, e498, e499, e500, e501, e502, e503, e504, e505, e506⟩ := hp485
                  have e487 : KpE cf405 cf484 := e487
                  have hkz_e487 := e487.2
                  have e488 : WrV cf484 (tf 6).toInt := e488
                  have hwr := e488
                  have hw0_e488 := hwr.1
                  have e489 : 1 ≤ (cf484 30).toInt := e489
                  have e490 : (cf484 33).toInt = (cf405 33).toInt := e490
                  have e491 : (cf484 38).toInt = (cf405 38).toInt := e491
                  have e492 : (cf484 48).toInt = (cf405 48).toInt := e492
                  have e493 : (cf484 46).toInt = (cf405 46).toInt := e493
                  have e494 : (cf484 47).toInt = (cf405 47).toInt := e494
                  have e495 : (cf484 57).toInt = (cf405 57).toInt := e495
                  have e496 : (cf484 37).toInt = (cf405 37).toInt := e496
                  have e497 : (cf484 42).toInt = (cf405 42).toInt := e497
                  have e498 : (cf484 43).toInt = (cf405 43).toInt := e498
                  have e499 : (cf484 44).toInt = (cf405 44).toInt := e499
                  have e500 : (cf484 45).toInt = (cf405 45).toInt := e500
                  have e501 : (cf484 54).toInt = (cf405 54).toInt := e501
                  have e502 : (cf484 55).toInt = (cf405 55).toInt := e502
                  have e503 : (cf484 58).toInt = (cf405 58).toInt := e503
                  have e504 : (cf484 59).toInt = (cf405 59).toInt := e504
                  have e505 : (cf484 41).toInt = (cf405 41).toInt := e505
                  have e506 : R_mp_bad (8 : Int32) z482 cf405 cf484 := e506
                  have hw : pw D A s.heap H locs [wdP cs h r g tf ta pf na ma87 wa cf484 ca ef ea xf xa] := hw
                  refine lv_aload_n S.x S.b d_Mpg_declareArray_176 rfl (lv_at hl 2 rfl) ?_
                  refine lv_iload_n S.x S.b d_Mpg_declareArray_177 rfl (lv_at hl 1 rfl) ?_
                  refine lv_if_ge (tgt := 185) S.x S.b d_Mpg_declareArray_178 (by decide) (fun c507 => ?_) (fun c507 => ?_)
                  ·
                    refine lv_iload_n S.x S.b d_Mpg_declareArray_185 rfl (lv_at hl 1 rfl) ?_
                    refine px_put S k_Mpg hT hw 0 0 58 rfl rfl (by decide) m10_55 rfl rfl rfl (Nat.le_of_ble_eq_true rfl) d_Mpg_declareArray_186 (w' := wdP cs h r g tf ta pf na ma87 wa (upd cf484 58 4096) ca ef ea xf xa) (ps' := [wdP cs h r g tf ta pf na ma87 wa (upd cf484 58 4096) ca ef ea xf xa]) rfl rfl (fun H locs hw => ?_)
                    refine lv_iload_n S.x S.b d_Mpg_declareArray_189 rfl (lv_at hl 4 rfl) ?_
                    refine lv_if_eq (tgt := 204) S.x S.b d_Mpg_declareArray_190 (by decide) (fun c508 => ?_) (fun c508 => ?_)
                    · have nc508 : p1.toInt = (0 : Int) := (i_eq (x := p1) (y := 0)).mp c508
                      refine lv_aload_n S.x S.b d_Mpg_declareArray_204 rfl (lv_at hl 2 rfl) ?_
                      refine px_get S k_Mpg hT hw 0 0 58 (v := .int 4096) rfl rfl rfl (by decide) m10_55 d_Mpg_declareArray_205 ?_
                      exact px_iret (v := 4096) S hr rfl hlk hAe hw (Nat.le_of_ble_eq_true rfl) (Nat.le_of_ble_eq_true rfl) (⟨ma87, (upd cf484 58 4096), rfl, (show (cf484 30).toInt = 0 → (cf 30).toInt = 0 from by omega), (show WrV (upd cf484 58 4096) (tf 6).toInt from (WrV.u hwr (by decide) (by decide))), (show (cf484 33).toInt = (cf 33).toInt from by first | exact oz_e13fc83238 e93 e490 e411 | omega), (show (cf484 37).toInt = (cf 37).toInt from by first | exact oz_e13fc83238 hkk37_e91 e496 e417 | omega), (show (cf484 38).toInt = (cf 38).toInt from by first | exact oz_e13fc83238 e94 e491 e412 | omega), (show (cf484 41).toInt = (cf 41).toInt from by first | exact oz_e13fc83238 hkk41_e91 e505 e426 | omega), (show (cf484 42).toInt = (cf 42).toInt from by first | exact oz_e13fc83238 hkk42_e91 e497 e418 | omega), (show (cf484 43).toInt = (cf 43).toInt from by first | exact oz_e13fc83238 hkk43_e91 e498 e419 | omega), (show (cf484 44).toInt = (cf 44).toInt from by first | exact oz_e13fc83238 hkk44_e91 e499 e420 | omega), (show (cf484 45).toInt = (cf 45).toInt from by first | exact oz_e13fc83238 hkk45_e91 e500 e421 | omega), (show (cf484 46).toInt = (cf 46).toInt from by first | exact oz_e13fc83238 e96 e493 e414 | omega), (show (cf484 47).toInt = (cf 47).toInt from by first | exact oz_e13fc83238 e97 e494 e415 | omega), (show (cf484 48).toInt = (cf 48).toInt from by first | exact oz_e13fc83238 e95 e492 e413 | omega), (show (cf484 54).toInt = (cf 54).toInt from by first | exact oz_e13fc83238 hkk54_e91 e501 e422 | omega), (show (cf484 55).toInt = (cf 55).toInt from by first | exact oz_e13fc83238 hkk55_e91 e502 e423 | omega), (show (cf484 59).toInt = (cf 59).toInt from by first | exact oz_e13fc83238 hkk59_e91 e504 e425 | omega), (show Ann na ma0 ma87 from han), (show FrC lo hi ma ma87 from hfc), (show 0 ≤ (4096 : Int) from by first | exact oz_0229090d46 | omega), (show (4096 : Int) ≤ 4096 from by first | exact oz_44e5be0b59 | omega), (show 0 ≤ (4096 : Int) from by first | exact oz_0229090d46 | omega), (show (4096 : Int) ≤ 4096 from by first | exact oz_44e5be0b59 | omega), (show (4096 : Int) ≤ 4 * (4096 : Int) from by first | exact oz_e232d82f68 | omega), (show ZAv (upd cf484 58 4096) ta na ma87 p0 (4096 : Int) from (zr_no (by first | omega | (show 1 ≤ _; rw [pk_un (by decide)]; omega)))), (show R_mp_declareArray tf ta na ca p0 p1 ma cf ma87 (upd cf484 58 4096) (4096 : Int32) from (Exists.intro 1 (Or.inl ⟨rfl, z84, ez84, ma87, cf88, v90, e102, Or.inr ⟨nc103, Or.inr ⟨nc158, Or.inr ⟨nc275, z398, ez398, v400, e403, cf405, e427, z428, ez428, Or.inl ⟨nc429, z431, ez431, Or.inr ⟨nc432, z439, ez439, z440, ez440, z441, ez441, Or.inr ⟨nc442, Or.inr ⟨nc475, z482, ez482, cf484, e506, Or.inl ⟨nc508, rfl, rfl, rfl⟩⟩⟩⟩⟩⟩⟩⟩⟩)))⟩) d_Mpg_declareArray_208
                    · have nc508 : ¬ p1.toInt = (0 : Int) := mt (i_eq (x := p1) (y := 0)).mpr c508
                      refine lv_aload_n S.x S.b d_Mpg_declareArray_193 rfl (lv_at hl 2 rfl) ?_
                      refine px_get S k_Mpg hT hw 0 0 58 (v := .int 4096) rfl rfl rfl (by decide) m10_55 d_Mpg_declareArray_194 ?_
                      refine lv_iconst (v := 3) S.x S.b d_Mpg_declareArray_197 (by decide) ?_
                      refine lv_iadd S.x S.b d_Mpg_declareArray_198 ?_
                      refine lv_topi (fun z510 ez510 => ?_)
                      have tz510 : z510.toInt = ((4096 : Int) + (3 : Int) + 2147483648) % 4294967296 - 2147483648 := by rw [ez510]; exact i_add 4096 3
                      have lz510 := Int32.le_toInt z510
                      have uz510 := Int32.toInt_lt z510
                      try replace tz510 : z510.toInt = (4096 : Int) + (3 : Int) := by omega
                      refine lv_iconst (v := 4) S.x S.b d_Mpg_declareArray_199 (by decide) ?_
                      refine lv_idiv S.x S.b d_Mpg_declareArray_200 (fun hz0 => by have hz1 := i_eq.mp hz0; omega) ?_
                      refine lv_topi (fun z511 ez511 => ?_)
                      have lz511 := Int32.le_toInt z511
                      have uz511 := Int32.toInt_lt z511
                      have hd4 := i_div4 ez511 (by omega)
                      refine lv_goto (tgt := 208) S.x S.b d_Mpg_declareArray_201 (by decide) ?_
                      exact px_iret (v := z511) S hr rfl hlk hAe hw (Nat.le_of_ble_eq_true rfl) (Nat.le_of_ble_eq_true rfl) (⟨ma87, (upd cf484 58 4096), rfl, (show (cf484 30).toInt = 0 → (cf 30).toInt = 0 from by omega), (show WrV (upd cf484 58 4096) (tf 6).toInt from (WrV.u hwr (by decide) (by decide))), (show (cf484 33).toInt = (cf 33).toInt from by first | exact oz_e13fc83238 e93 e490 e411 | omega), (show (cf484 37).toInt = (cf 37).toInt from by first | exact oz_e13fc83238 hkk37_e91 e496 e417 | omega), (show (cf484 38).toInt = (cf 38).toInt from by first | exact oz_e13fc83238 e94 e491 e412 | omega), (show (cf484 41).toInt = (cf 41).toInt from by first | exact oz_e13fc83238 hkk41_e91 e505 e426 | omega), (show (cf484 42).toInt = (cf 42).toInt from by first | exact oz_e13fc83238 hkk42_e91 e497 e418 | omega), (show (cf484 43).toInt = (cf 43).toInt from by first | exact oz_e13fc83238 hkk43_e91 e498 e419 | omega), (show (cf484 44).toInt = (cf 44).toInt from by first | exact oz_e13fc83238 hkk44_e91 e499 e420 | omega), (show (cf484 45).toInt = (cf 45).toInt from by first | exact oz_e13fc83238 hkk45_e91 e500 e421 | omega), (show (cf484 46).toInt = (cf 46).toInt from by first | exact oz_e13fc83238 e96 e493 e414 | omega), (show (cf484 47).toInt = (cf 47).toInt from by first | exact oz_e13fc83238 e97 e494 e415 | omega), (show (cf484 48).toInt = (cf 48).toInt from by first | exact oz_e13fc83238 e95 e492 e413 | omega), (show (cf484 54).toInt = (cf 54).toInt from by first | exact oz_e13fc83238 hkk54_e91 e501 e422 | omega), (show (cf484 55).toInt = (cf 55).toInt from by first | exact oz_e13fc83238 hkk55_e91 e502 e423 | omega), (show (cf484 59).toInt = (cf 59).toInt from by first | exact oz_e13fc83238 hkk59_e91 e504 e425 | omega), (show Ann na ma0 ma87 from han), (show FrC lo hi ma ma87 from hfc), (show 0 ≤ (4096 : Int) from by first | exact oz_0229090d46 | omega), (show (4096 : Int) ≤ 4096 from by first | exact oz_44e5be0b59 | omega), (show 0 ≤ z511.toInt from by omega), (show z511.toInt ≤ 4096 from by omega), (show (4096 : Int) ≤ 4 * z511.toInt from by omega), (show ZAv (upd cf484 58 4096) ta na ma87 p0 (4096 : Int) from (zr_no (by first | omega | (show 1 ≤ _; rw [pk_un (by decide)]; omega)))), (show R_mp_declareArray tf ta na ca p0 p1 ma cf ma87 (upd cf484 58 4096) z511 from (Exists.intro 1 (Or.inl ⟨rfl, z84, ez84, ma87, cf88, v90, e102, Or.inr ⟨nc103, Or.inr ⟨nc158, Or.inr ⟨nc275, z398, ez398, v400, e403, cf405, e427, z428, ez428, Or.inl ⟨nc429, z431, ez431, Or.inr ⟨nc432, z439, ez439, z440, ez440, z441, ez441, Or.inr ⟨nc442, Or.inr ⟨nc475, z482, ez482, cf484, e506, Or.inr ⟨nc508, z510, ez510, z511, ez511, rfl, rfl, rfl⟩⟩⟩⟩⟩⟩⟩⟩⟩)))⟩) d_Mpg_declareArray_208
                  · exact absurd c507 (by decide)
        · have nc429 : z428.toInt = (2 : Int) := (i_eq (x := z428) (y := 2)).mp c429
          refine lv_iconst (v := 0) S.x S.b d_Mpg_declareArray_62 (by decide) ?_
          refine lv_istore (lv' := [(4, .int 0), (3, .int 4096), (0, .ref h), (1, .int p0), (2, .int p1)]) S.x S.b d_Mpg_declareArray_63 hl (by decide) rfl (fun ls hl => ?_)
          refine lv_aload_n S.x S.b d_Mpg_declareArray_65 rfl (lv_at hl 2 rfl) ?_
          refine px_get S k_Mpg hT hw 0 0 18 (v := .ref (r 18)) rfl rfl rfl (by decide) m10_3 d_Mpg_declareArray_66 ?_
          refine lv_iload_n S.x S.b d_Mpg_declareArray_69 rfl (lv_at hl 3 rfl) ?_
          refine px_iald S hT hw 0 14 (n := 2100) (f := (ma87 18)) rfl gp_18 (x := p0) (vp_in_iff.mpr (by first | exact oz_a7e05de1cd hvr.2.2.1 hvr.2.1 g1 g2 | (constructor <;> omega))) d_Mpg_declareArray_70 ?_
          refine lv_topi (fun z512 ez512 => ?_)
          have lz512 := Int32.le_toInt z512
          have uz512 := Int32.toInt_lt z512
          obtain ⟨⟨wr, hrv, hwr9⟩, h19a, h19b⟩ := hav.k2 (by omega); have ha_z512 : z512 = ma0 18 p0.toNatClampNeg := ez512.trans (Ann.v18 han (by omega))
          refine lv_istore (lv' := [(5, .int z512), (4, .int 0), (3, .int 4096), (0, .ref h), (1, .int p0), (2, .int p1)]) S.x S.b d_Mpg_declareArray_71 hl (by decide) rfl (fun ls hl => ?_)
          exact J73 ((hi - m1).toNat + 1) ma87 cf405 m1 wr (4096 : Int32) (0 : Int32) z512 _ _ ls (show (cf405 30).toInt = 0 → (cf 30).toInt = 0 from by omega) (show WrV cf405 (tf 6).toInt from hwr) (show (cf405 33).toInt = (cf 33).toInt from by first | exact oz_1687f4cc65 e93 e411 | omega) (show (cf405 37).toInt = (cf 37).toInt from by first | exact oz_1687f4cc65 hkk37_e91 e417 | omega) (show (cf405 38).toInt = (cf 38).toInt from by first | exact oz_1687f4cc65 e94 e412 | omega) (show (cf405 41).toInt = (cf 41).toInt from by first | exact oz_1687f4cc65 hkk41_e91 e426 | omega) (show (cf405 42).toInt = (cf 42).toInt from by first | exact oz_1687f4cc65 hkk42_e91 e418 | omega) (show (cf405 43).toInt = (cf 43).toInt from by first | exact oz_1687f4cc65 hkk43_e91 e419 | omega) (show (cf405 44).toInt = (cf 44).toInt from by first | exact oz_1687f4cc65 hkk44_e91 e420 | omega) (show (cf405 45).toInt = (cf 45).toInt from by first | exact oz_1687f4cc65 hkk45_e91 e421 | omega) (show (cf405 46).toInt = (cf 46).toInt from by first | exact oz_1687f4cc65 e96 e414 | omega) (show (cf405 47).toInt = (cf 47).toInt from by first | exact oz_1687f4cc65 e97 e415 | omega) (show (cf405 48).toInt = (cf 48).toInt from by first | exact oz_1687f4cc65 e95 e413 | omega) (show (cf405 54).toInt = (cf 54).toInt from by first | exact oz_1687f4cc65 hkk54_e91 e422 | omega) (show (cf405 55).toInt = (cf 55).toInt from by first | exact oz_1687f4cc65 hkk55_e91 e423 | omega) (show (cf405 59).toInt = (cf 59).toInt from by first | exact oz_1687f4cc65 hkk59_e91 e425 | omega) (show Ann na ma0 ma87 from han) (show FrC lo hi ma ma87 from hfc) (show -1 ≤ (4096 : Int) from by first | exact oz_e8005d8519 | omega) (show (4096 : Int) ≤ 4096 from by first | exact oz_44e5be0b59 | omega) (show (4096 : Int) = -1 → 1 ≤ (cf405 30).toInt from by omega) (show 0 ≤ (0 : Int) from by first | exact oz_5a341f00aa | omega) (show (0 : Int) + m1 ≤ m1 from by first | exact oz_05158eb67a | omega) (show m1 ≤ m1 from by first | exact oz_1cb5f934a5 | omega) (show m1 ≤ hi from by first | exact hm2 | omega) (show (ma0 22 p0.toNatClampNeg).toInt = 2 from by first | exact oz_70422203cd rz428 nc429 | omega) (show RvI ta (tf 6).toInt na ma0 d m1 hi wr z512 from (by rw [ha_z512]; exact hrv)) (show RlC na (ma0 18 p0.toNatClampNeg) z512 (0 : Int) from (by rw [ha_z512]; exact rlc_0)) (show K_mp_declareArray_73 tf ta na ca p0 p1 ma cf ma87 cf405 4096 0 z512 from (fun y_f0 y_f1 y_v k hE => Exists.intro (k + 1) (Or.inl ⟨rfl, z84, ez84, ma87, cf88, v90, e102, Or.inr ⟨nc103, Or.inr ⟨nc158, Or.inr ⟨nc275, z398, ez398, v400, e403, cf405, e427, z428, ez428, Or.inr ⟨nc429, z512, ez512, hE⟩⟩⟩⟩⟩))) (show hi - m1 < ((((hi - m1).toNat + 1 : Nat) : Int) : Int) from by first | exact oz_natlt | omega) hw (lv_sub hl [3, 4, 5, 2, 1, 0] rfl)
