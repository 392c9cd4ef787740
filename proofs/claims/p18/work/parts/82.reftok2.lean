theorem oz_0e60057f66 {a0 a1 a2 a3 a4 : Int} (h0 : a0 = a1 + a2) (h1 : 0 ≤ a2) (h2 : a3 = (0 : Int)) (h3 : 0 ≤ a3) (h4 : a3 = 0 → a1 = a4) (h5 : 0 ≤ a4) : 0 ≤ a0 := by omega
theorem oz_9dfb4af2f5 {a0 a1 a2 : Int} (h0 : a0 ≤ a1) (h1 : a1 < a2) (h2 : a2 ≤ 2048) : a0 ≤ 2059 := by omega
theorem oz_f5be280463 {a0 a1 : Int} (h0 : a0 = a1 + 1) (h1 : (12 : Int) ≤ a1) : 0 ≤ a0 := by omega
theorem oz_46d5be2f80 {a0 a1 a2 a4 : Int} {n3 : Nat} (h0 : a0 + 3 - a1 - a4 < ((n3 + 1 : Nat) : Int)) (h1 : a2 = a4 + 1) : a0 + 3 - a1 - a2 < (n3 : Int) := by omega
theorem oz_06d7f15a5c {a0 a1 : Int} (h0 : a1 + 1 ≤ a0) (h1 : 0 ≤ a1) : 0 ≤ a0 := by omega
theorem oz_dff81e9050 {a0 a1 a2 : Int} (h0 : a0 = a1 + (2 : Int)) (h1 : a2 + 1 ≤ a1) (h2 : 0 ≤ a2) : 0 ≤ a0 := by omega
theorem oz_051e663e68 {a0 a1 a2 : Int} (h0 : a0 = a1 + (2 : Int)) (h1 : a1 ≤ a2+1) (h2 : a2 ≤ 2048) : a0 ≤ 100000 := by omega
theorem oz_590b8446af {a0 a1 a2 : Int} (h0 : a0 + 1 ≤ a2) (h1 : a1 = a2 + (2 : Int)) : a0 + 1 ≤ a1 := by omega
theorem oz_6142c9739d {a0 a1 a2 a3 : Int} (h0 : a0 = a2 + (2 : Int)) (h1 : (1000 : Int) ≤ a3) (h2 : 1000 ≤ a3 → a2 + 1 < a1) : a0 ≤ a1+1 := by omega
theorem oz_c21c446132 {a0 a1 a2 a3 a4 : Int} (h0 : a0 + 1 + a3 ≤ a4) (h1 : a2 = a4 + (2 : Int)) (h2 : a1 = a3 + 1) : a0 + 1 + a1 ≤ a2 := by omega
theorem oz_d610434099 {a0 a1 a3 : Int} {n2 : Nat} (h0 : a0+2-a3 < ((n2 + 1 : Nat) : Int)) (h1 : a1 = a3 + (2 : Int)) : a0+2-a1 < (n2 : Int) := by omega
theorem oz_00e0e5ddd3 {a0 a1 a2 : Int} (h0 : a0 = a1 + (1 : Int)) (h1 : a2 + 1 ≤ a1) (h2 : 0 ≤ a2) : 0 ≤ a0 := by omega
theorem oz_b502284cf8 {a0 a1 a2 : Int} (h0 : a0 = a1 + (1 : Int)) (h1 : a1 ≤ a2+1) (h2 : a2 ≤ 2048) : a0 ≤ 100000 := by omega
theorem oz_54ae5af180 {a0 a1 a2 : Int} (h0 : a0 + 1 ≤ a2) (h1 : a1 = a2 + (1 : Int)) : a0 + 1 ≤ a1 := by omega
theorem oz_5e8b481c01 {a0 a1 a2 a3 : Int} (h0 : a0 = a2 + (1 : Int)) (h1 : ¬ a3 < (0 : Int)) (h2 : 0 ≤ a3 → a2 < a1) : a0 ≤ a1+1 := by omega
theorem oz_557cb2123a {a0 a1 a2 a3 a4 : Int} (h0 : a0 + 1 + a3 ≤ a4) (h1 : a2 = a4 + (1 : Int)) (h2 : a1 = a3 + 1) : a0 + 1 + a1 ≤ a2 := by omega
theorem oz_bd37f95e89 {a0 a1 a3 : Int} {n2 : Nat} (h0 : a0+2-a3 < ((n2 + 1 : Nat) : Int)) (h1 : a1 = a3 + (1 : Int)) : a0+2-a1 < (n2 : Int) := by omega
theorem oz_f878e4a551 {a0 a1 a2 : Int} (h0 : a0 = a1 + (1 : Int)) (h1 : a1 < a2) (h2 : a2 ≤ 2048) : a0 ≤ 100000 := by omega
theorem oz_b0df47dfe2 {a0 a1 a2 : Int} (h0 : a2 < a1) (h1 : a0 = a2 + (1 : Int)) : a0 ≤ a1+1 := by omega
theorem oz_1b9c7f1cbe {a0 a1 : Int} (h0 : a1 = a0 + (1 : Int)) : a0 + 1 + (0 : Int) ≤ a1 := by omega
theorem m11_163 : Cond.methodLink "HomeSystemModel$Program" 325 ⟨"HomeSystemModel$Program", "token", "(IIII)V"⟩ ∈ AL := AL_11 (List.mem_of_getElem? (i := 163) rfl) rfl
theorem m11_166 : Cond.code ⟨"HomeSystemModel$Program", "token", "(IIII)V"⟩ prog_16_method_8_code 5 (Option.none : Option Jvm.ClassFile.FieldType) ∈ AL := AL_11 (List.mem_of_getElem? (i := 166) rfl) rfl
theorem ms_8_3 : Cond.selects "HomeSystemModel$Program" ⟨"HomeSystemModel$Program", "token", "(IIII)V"⟩ ⟨"HomeSystemModel$Program", "token", "(IIII)V"⟩ ∈ AL := AL_p (q := (⟨"HomeSystemModel$Program", "token", "(IIII)V"⟩, 69)) (by unfold lw_privs; exact List.mem_append_right _ (List.mem_append_right _ (List.mem_append_right _ (List.mem_append_right _ (List.mem_append_right _ (List.mem_append_right _ (List.mem_append_right _ (List.mem_append_left _ (List.mem_of_getElem? (i := 3) rfl)))))))))
theorem m11_165 : Cond.instanceMethod ⟨"HomeSystemModel$Program", "token", "(IIII)V"⟩ ∈ AL := AL_11 (List.mem_of_getElem? (i := 165) rfl) rfl
theorem m11_176 : Cond.constantLong "HomeSystemModel$Program" 345 (4294967296 : Int64) ∈ AL := AL_11 (List.mem_of_getElem? (i := 176) rfl) rfl
theorem m11_175 : Cond.constantLong "HomeSystemModel$Program" 343 (10 : Int64) ∈ AL := AL_11 (List.mem_of_getElem? (i := 175) rfl) rfl
theorem m11_171 : Cond.methodLink "HomeSystemModel$Program" 338 ⟨"HomeSystemModel$Program", "figure", "(I)I"⟩ ∈ AL := AL_11 (List.mem_of_getElem? (i := 171) rfl) rfl
theorem m11_173 : Cond.code ⟨"HomeSystemModel$Program", "figure", "(I)I"⟩ prog_16_method_5_code 1 (Option.some FieldType.int) ∈ AL := AL_11 (List.mem_of_getElem? (i := 173) rfl) rfl
theorem m11_172 : Cond.static ⟨"HomeSystemModel$Program", "figure", "(I)I"⟩ ∈ AL := AL_11 (List.mem_of_getElem? (i := 172) rfl) rfl
theorem m11_174 : Cond.constantLong "HomeSystemModel$Program" 341 (16 : Int64) ∈ AL := AL_11 (List.mem_of_getElem? (i := 174) rfl) rfl
theorem m11_177 : Cond.methodLink "HomeSystemModel$Program" 332 ⟨"HomeSystemModel$Program", "character", "(II)I"⟩ ∈ AL := AL_11 (List.mem_of_getElem? (i := 177) rfl) rfl
theorem m11_180 : Cond.code ⟨"HomeSystemModel$Program", "character", "(II)I"⟩ prog_16_method_7_code 6 (Option.some FieldType.int) ∈ AL := AL_11 (List.mem_of_getElem? (i := 180) rfl) rfl
theorem ms_8_5 : Cond.selects "HomeSystemModel$Program" ⟨"HomeSystemModel$Program", "character", "(II)I"⟩ ⟨"HomeSystemModel$Program", "character", "(II)I"⟩ ∈ AL := AL_p (q := (⟨"HomeSystemModel$Program", "character", "(II)I"⟩, 69)) (by unfold lw_privs; exact List.mem_append_right _ (List.mem_append_right _ (List.mem_append_right _ (List.mem_append_right _ (List.mem_append_right _ (List.mem_append_right _ (List.mem_append_right _ (List.mem_append_left _ (List.mem_of_getElem? (i := 5) rfl)))))))))
theorem m11_179 : Cond.instanceMethod ⟨"HomeSystemModel$Program", "character", "(II)I"⟩ ∈ AL := AL_11 (List.mem_of_getElem? (i := 179) rfl) rfl
abbrev b_Mpg_readNumber : ByteArray := prog_16_method_12_code
def y_Mpg_readNumber : MethodName := ⟨"HomeSystemModel$Program", "readNumber", "(I)Z"⟩
theorem d_Mpg_readNumber_0 : decode b_Mpg_readNumber 0 = .ok (.aload_n 0, 1) := by decide +kernel
theorem d_Mpg_readNumber_1 : decode b_Mpg_readNumber 1 = .ok (.iload_n 1, 1) := by decide +kernel
theorem d_Mpg_readNumber_2 : decode b_Mpg_readNumber 2 = .ok (.invokevirtual 300, 3) := by decide +kernel
theorem d_Mpg_readNumber_5 : decode b_Mpg_readNumber 5 = .ok (.bipush 48, 2) := by decide +kernel
theorem d_Mpg_readNumber_7 : decode b_Mpg_readNumber 7 = .ok (.if_icmp .ne 19, 3) := by decide +kernel
theorem d_Mpg_readNumber_10 : decode b_Mpg_readNumber 10 = .ok (.aload_n 0, 1) := by decide +kernel
theorem d_Mpg_readNumber_11 : decode b_Mpg_readNumber 11 = .ok (.iload_n 1, 1) := by decide +kernel
theorem d_Mpg_readNumber_12 : decode b_Mpg_readNumber 12 = .ok (.iconst 1, 1) := by decide +kernel
theorem d_Mpg_readNumber_13 : decode b_Mpg_readNumber 13 = .ok (.iadd, 1) := by decide +kernel
theorem d_Mpg_readNumber_14 : decode b_Mpg_readNumber 14 = .ok (.invokevirtual 300, 3) := by decide +kernel
theorem d_Mpg_readNumber_17 : decode b_Mpg_readNumber 17 = .ok (.bipush 120, 2) := by decide +kernel
theorem d_Mpg_readNumber_19 : decode b_Mpg_readNumber 19 = .ok (.if_icmp .ne 7, 3) := by decide +kernel
theorem d_Mpg_readNumber_22 : decode b_Mpg_readNumber 22 = .ok (.iconst 1, 1) := by decide +kernel
theorem d_Mpg_readNumber_23 : decode b_Mpg_readNumber 23 = .ok (.goto 4, 3) := by decide +kernel
theorem d_Mpg_readNumber_26 : decode b_Mpg_readNumber 26 = .ok (.iconst 0, 1) := by decide +kernel
theorem d_Mpg_readNumber_27 : decode b_Mpg_readNumber 27 = .ok (.istore_n 2, 1) := by decide +kernel
theorem d_Mpg_readNumber_28 : decode b_Mpg_readNumber 28 = .ok (.iload_n 2, 1) := by decide +kernel
theorem d_Mpg_readNumber_29 : decode b_Mpg_readNumber 29 = .ok (.ifCond .eq 9, 3) := by decide +kernel
theorem d_Mpg_readNumber_32 : decode b_Mpg_readNumber 32 = .ok (.iload_n 1, 1) := by decide +kernel
theorem d_Mpg_readNumber_33 : decode b_Mpg_readNumber 33 = .ok (.iconst 2, 1) := by decide +kernel
theorem d_Mpg_readNumber_34 : decode b_Mpg_readNumber 34 = .ok (.iadd, 1) := by decide +kernel
theorem d_Mpg_readNumber_35 : decode b_Mpg_readNumber 35 = .ok (.goto 4, 3) := by decide +kernel
theorem d_Mpg_readNumber_38 : decode b_Mpg_readNumber 38 = .ok (.iload_n 1, 1) := by decide +kernel
theorem d_Mpg_readNumber_39 : decode b_Mpg_readNumber 39 = .ok (.istore_n 3, 1) := by decide +kernel
theorem d_Mpg_readNumber_40 : decode b_Mpg_readNumber 40 = .ok (.iconst 0, 1) := by decide +kernel
theorem d_Mpg_readNumber_41 : decode b_Mpg_readNumber 41 = .ok (.istore 4, 2) := by decide +kernel
theorem d_Mpg_readNumber_43 : decode b_Mpg_readNumber 43 = .ok (.lconst 0, 1) := by decide +kernel
theorem d_Mpg_readNumber_44 : decode b_Mpg_readNumber 44 = .ok (.lstore 5, 2) := by decide +kernel
theorem d_Mpg_readNumber_46 : decode b_Mpg_readNumber 46 = .ok (.iload_n 2, 1) := by decide +kernel
theorem d_Mpg_readNumber_47 : decode b_Mpg_readNumber 47 = .ok (.ifCond .eq 20, 3) := by decide +kernel
theorem d_Mpg_readNumber_50 : decode b_Mpg_readNumber 50 = .ok (.aload_n 0, 1) := by decide +kernel
theorem d_Mpg_readNumber_51 : decode b_Mpg_readNumber 51 = .ok (.iload_n 3, 1) := by decide +kernel
theorem d_Mpg_readNumber_52 : decode b_Mpg_readNumber 52 = .ok (.iload 4, 2) := by decide +kernel
theorem d_Mpg_readNumber_54 : decode b_Mpg_readNumber 54 = .ok (.iadd, 1) := by decide +kernel
theorem d_Mpg_readNumber_55 : decode b_Mpg_readNumber 55 = .ok (.invokevirtual 300, 3) := by decide +kernel
theorem d_Mpg_readNumber_58 : decode b_Mpg_readNumber 58 = .ok (.invokestatic 338, 3) := by decide +kernel
theorem d_Mpg_readNumber_61 : decode b_Mpg_readNumber 61 = .ok (.ifCond .lt 69, 3) := by decide +kernel
theorem d_Mpg_readNumber_64 : decode b_Mpg_readNumber 64 = .ok (.goto 17, 3) := by decide +kernel
theorem d_Mpg_readNumber_67 : decode b_Mpg_readNumber 67 = .ok (.aload_n 0, 1) := by decide +kernel
theorem d_Mpg_readNumber_68 : decode b_Mpg_readNumber 68 = .ok (.iload_n 3, 1) := by decide +kernel
theorem d_Mpg_readNumber_69 : decode b_Mpg_readNumber 69 = .ok (.iload 4, 2) := by decide +kernel
theorem d_Mpg_readNumber_71 : decode b_Mpg_readNumber 71 = .ok (.iadd, 1) := by decide +kernel
theorem d_Mpg_readNumber_72 : decode b_Mpg_readNumber 72 = .ok (.invokevirtual 300, 3) := by decide +kernel
theorem d_Mpg_readNumber_75 : decode b_Mpg_readNumber 75 = .ok (.invokestatic 296, 3) := by decide +kernel
theorem d_Mpg_readNumber_78 : decode b_Mpg_readNumber 78 = .ok (.ifCond .eq 52, 3) := by decide +kernel
theorem d_Mpg_readNumber_81 : decode b_Mpg_readNumber 81 = .ok (.iload 4, 2) := by decide +kernel
theorem d_Mpg_readNumber_83 : decode b_Mpg_readNumber 83 = .ok (.bipush 12, 2) := by decide +kernel
theorem d_Mpg_readNumber_85 : decode b_Mpg_readNumber 85 = .ok (.if_icmp .ge 35, 3) := by decide +kernel
theorem d_Mpg_readNumber_88 : decode b_Mpg_readNumber 88 = .ok (.lload 5, 2) := by decide +kernel
theorem d_Mpg_readNumber_90 : decode b_Mpg_readNumber 90 = .ok (.iload_n 2, 1) := by decide +kernel
theorem d_Mpg_readNumber_91 : decode b_Mpg_readNumber 91 = .ok (.ifCond .eq 9, 3) := by decide +kernel
theorem d_Mpg_readNumber_94 : decode b_Mpg_readNumber 94 = .ok (.ldc2_w 341, 3) := by decide +kernel
theorem d_Mpg_readNumber_97 : decode b_Mpg_readNumber 97 = .ok (.goto 6, 3) := by decide +kernel
theorem d_Mpg_readNumber_100 : decode b_Mpg_readNumber 100 = .ok (.ldc2_w 343, 3) := by decide +kernel
theorem d_Mpg_readNumber_103 : decode b_Mpg_readNumber 103 = .ok (.lmul, 1) := by decide +kernel
theorem d_Mpg_readNumber_104 : decode b_Mpg_readNumber 104 = .ok (.aload_n 0, 1) := by decide +kernel
theorem d_Mpg_readNumber_105 : decode b_Mpg_readNumber 105 = .ok (.iload_n 3, 1) := by decide +kernel
theorem d_Mpg_readNumber_106 : decode b_Mpg_readNumber 106 = .ok (.iload 4, 2) := by decide +kernel
theorem d_Mpg_readNumber_108 : decode b_Mpg_readNumber 108 = .ok (.iadd, 1) := by decide +kernel
theorem d_Mpg_readNumber_109 : decode b_Mpg_readNumber 109 = .ok (.invokevirtual 300, 3) := by decide +kernel
theorem d_Mpg_readNumber_112 : decode b_Mpg_readNumber 112 = .ok (.invokestatic 338, 3) := by decide +kernel
theorem d_Mpg_readNumber_115 : decode b_Mpg_readNumber 115 = .ok (.i2l, 1) := by decide +kernel
theorem d_Mpg_readNumber_116 : decode b_Mpg_readNumber 116 = .ok (.ladd, 1) := by decide +kernel
theorem d_Mpg_readNumber_117 : decode b_Mpg_readNumber 117 = .ok (.goto 5, 3) := by decide +kernel
theorem d_Mpg_readNumber_120 : decode b_Mpg_readNumber 120 = .ok (.lload 5, 2) := by decide +kernel
theorem d_Mpg_readNumber_122 : decode b_Mpg_readNumber 122 = .ok (.lstore 5, 2) := by decide +kernel
theorem d_Mpg_readNumber_124 : decode b_Mpg_readNumber 124 = .ok (.iinc 4 1, 3) := by decide +kernel
theorem d_Mpg_readNumber_127 : decode b_Mpg_readNumber 127 = .ok (.goto (-81), 3) := by decide +kernel
theorem d_Mpg_readNumber_130 : decode b_Mpg_readNumber 130 = .ok (.aload_n 0, 1) := by decide +kernel
theorem d_Mpg_readNumber_131 : decode b_Mpg_readNumber 131 = .ok (.iload_n 1, 1) := by decide +kernel
theorem d_Mpg_readNumber_132 : decode b_Mpg_readNumber 132 = .ok (.iload_n 3, 1) := by decide +kernel
theorem d_Mpg_readNumber_133 : decode b_Mpg_readNumber 133 = .ok (.iload_n 1, 1) := by decide +kernel
theorem d_Mpg_readNumber_134 : decode b_Mpg_readNumber 134 = .ok (.isub, 1) := by decide +kernel
theorem d_Mpg_readNumber_135 : decode b_Mpg_readNumber 135 = .ok (.iload 4, 2) := by decide +kernel
theorem d_Mpg_readNumber_137 : decode b_Mpg_readNumber 137 = .ok (.iadd, 1) := by decide +kernel
theorem d_Mpg_readNumber_138 : decode b_Mpg_readNumber 138 = .ok (.iconst 3, 1) := by decide +kernel
theorem d_Mpg_readNumber_139 : decode b_Mpg_readNumber 139 = .ok (.lload 5, 2) := by decide +kernel
theorem d_Mpg_readNumber_141 : decode b_Mpg_readNumber 141 = .ok (.l2i, 1) := by decide +kernel
theorem d_Mpg_readNumber_142 : decode b_Mpg_readNumber 142 = .ok (.invokevirtual 325, 3) := by decide +kernel
theorem d_Mpg_readNumber_145 : decode b_Mpg_readNumber 145 = .ok (.iload_n 2, 1) := by decide +kernel
theorem d_Mpg_readNumber_146 : decode b_Mpg_readNumber 146 = .ok (.ifCond .eq 24, 3) := by decide +kernel
theorem d_Mpg_readNumber_149 : decode b_Mpg_readNumber 149 = .ok (.iload 4, 2) := by decide +kernel
theorem d_Mpg_readNumber_151 : decode b_Mpg_readNumber 151 = .ok (.iconst 1, 1) := by decide +kernel
theorem d_Mpg_readNumber_152 : decode b_Mpg_readNumber 152 = .ok (.if_icmp .lt 14, 3) := by decide +kernel
theorem d_Mpg_readNumber_155 : decode b_Mpg_readNumber 155 = .ok (.iload 4, 2) := by decide +kernel
theorem d_Mpg_readNumber_157 : decode b_Mpg_readNumber 157 = .ok (.bipush 8, 2) := by decide +kernel
theorem d_Mpg_readNumber_159 : decode b_Mpg_readNumber 159 = .ok (.if_icmp .gt 7, 3) := by decide +kernel
theorem d_Mpg_readNumber_162 : decode b_Mpg_readNumber 162 = .ok (.iconst 1, 1) := by decide +kernel
theorem d_Mpg_readNumber_163 : decode b_Mpg_readNumber 163 = .ok (.goto 28, 3) := by decide +kernel
theorem d_Mpg_readNumber_166 : decode b_Mpg_readNumber 166 = .ok (.iconst 0, 1) := by decide +kernel
theorem d_Mpg_readNumber_167 : decode b_Mpg_readNumber 167 = .ok (.goto 24, 3) := by decide +kernel
theorem d_Mpg_readNumber_170 : decode b_Mpg_readNumber 170 = .ok (.iload 4, 2) := by decide +kernel
theorem d_Mpg_readNumber_172 : decode b_Mpg_readNumber 172 = .ok (.bipush 10, 2) := by decide +kernel
theorem d_Mpg_readNumber_174 : decode b_Mpg_readNumber 174 = .ok (.if_icmp .gt 16, 3) := by decide +kernel
theorem d_Mpg_readNumber_177 : decode b_Mpg_readNumber 177 = .ok (.lload 5, 2) := by decide +kernel
theorem d_Mpg_readNumber_179 : decode b_Mpg_readNumber 179 = .ok (.ldc2_w 345, 3) := by decide +kernel
theorem d_Mpg_readNumber_182 : decode b_Mpg_readNumber 182 = .ok (.lcmp, 1) := by decide +kernel
theorem d_Mpg_readNumber_183 : decode b_Mpg_readNumber 183 = .ok (.ifCond .ge 7, 3) := by decide +kernel
theorem d_Mpg_readNumber_186 : decode b_Mpg_readNumber 186 = .ok (.iconst 1, 1) := by decide +kernel
theorem d_Mpg_readNumber_187 : decode b_Mpg_readNumber 187 = .ok (.goto 4, 3) := by decide +kernel
theorem d_Mpg_readNumber_190 : decode b_Mpg_readNumber 190 = .ok (.iconst 0, 1) := by decide +kernel
theorem d_Mpg_readNumber_191 : decode b_Mpg_readNumber 191 = .ok (.ireturn, 1) := by decide +kernel
theorem q_Mpg_readNumber : px_y y_Mpg_readNumber 1 := by unfold px_y; decide +kernel
set_option maxHeartbeats 4000000 in
set_option maxRecDepth 100000 in
theorem c_mp_readNumber (l : Launch) (D : va_G) (cs : Nat → ClassId) (h : Nat) (r : Nat → Nat) (g : Nat → Nat → Option Nat) (pf : Nat → Int32) (na : Nat → Nat → Int32) (ma : Nat → Nat → Int32) (wa : Nat → Nat → Int32) (cf : Nat → Int32) (ca : Nat → Nat → Int32) (ef : Nat → Int32) (ea : Nat → Nat → Int32) (xf : Nat → Int32) (xa : Nat → Nat → Int32) (tf : Nat → Int32) (ta : Nat → Nat → Int32) (p0 : Int32)  (g0 : 0 ≤ (tf 5).toInt) (g1 : (tf 5).toInt ≤ 2048) (g2 : 0 ≤ p0.toInt) (g3 : p0.toInt < (tf 5).toInt) (g4 : 0 ≤ (tf 6).toInt) (g5 : (tf 6).toInt ≤ p0.toInt) (htp : TkP (tf 5).toInt ta (tf 6).toInt p0.toInt) (hdg : dgI (btR ta (tf 5).toInt p0.toInt) = 1) : MetI l y_Mpg_readNumber b_Mpg_readNumber 7 (.boolean) D cs 2 70 (0) (0) [.ref h, .int p0] [wdP cs h r g tf ta pf na ma wa cf ca ef ea xf xa] (fun _ => True) (fun v ps => ∃ (tf' : Nat → Int32) (ta' : Nat → Nat → Int32), (ps = [wdP cs h r g tf' ta' pf na ma wa cf ca ef ea xf xa]) ∧ (v = 0 ∨ v = 1) ∧ ((tf' 5).toInt = (tf 5).toInt) ∧ ((tf 6).toInt ≤ (tf' 6).toInt) ∧ ((tf' 6).toInt ≤ (tf 6).toInt + 1) ∧ (v.toInt = 1 → (tf' 6).toInt = (tf 6).toInt + 1) ∧ (RdK (tf 5).toInt ta' (tf 6) v p0)) := by
  refine px_enter (by decide) (Nat.le_of_ble_eq_true rfl) ?_
  intro p e s m below meth c A ls hAe S hr hlk hnm hA hT hX hw hl
  have hl : lv_has ls 7 [(0, .ref h), (1, .int p0)] := hl
  have lp0 := Int32.le_toInt p0
  have up0 := Int32.toInt_lt p0
  have cst0 : (0 : Int32).toInt = 0 := rfl
  have cst1 : (1 : Int32).toInt = 1 := rfl
  have cst2 : (2 : Int32).toInt = 2 := rfl
  have cst3 : (3 : Int32).toInt = 3 := rfl
  have cst8 : (8 : Int32).toInt = 8 := rfl
  have cst10 : (10 : Int32).toInt = 10 := rfl
  have cst12 : (12 : Int32).toInt = 12 := rfl
  have cst48 : (48 : Int32).toInt = 48 := rfl
  have cst120 : (120 : Int32).toInt = 120 := rfl
  have J46 : ∀ (n_46 : Nat)  (x46_2 x46_3 x46_4 : Int32) (x46_5 : Int64) (H : Heap) (locs : List Loc) (ls : Array Slot), (0 ≤ x46_2.toInt) → (x46_2.toInt ≤ 1) → (x46_2.toInt = 1 → x46_3.toInt = p0.toInt + 2) → (x46_2.toInt = 0 → x46_3.toInt = p0.toInt) → (0 ≤ x46_4.toInt) → (x46_3.toInt + x46_4.toInt ≤ (tf 5).toInt ∨ x46_4.toInt = 0) → (x46_2.toInt = 1 → p0.toInt + 2 ≤ (tf 5).toInt) → (tf 5).toInt + 3 - x46_3.toInt - x46_4.toInt < (n_46 : Int) → pw D A s.heap H locs [wdP cs h r g tf ta pf na ma wa cf ca ef ea xf xa] → lv_has ls 7 [(0, .ref h), (1, .int p0), (2, .int x46_2), (3, .int x46_3), (4, .int x46_4), (5, .long x46_5)] → W p l e { frames := 2, cells := 0, slots := 0, locals := 70 } s m [.ref h, .int p0].toArray below meth c H locs 0 0 (MQ below (va_Qi (fun v ps => ∃ (tf' : Nat → Int32) (ta' : Nat → Nat → Int32), (ps = [wdP cs h r g tf' ta' pf na ma wa cf ca ef ea xf xa]) ∧ (v = 0 ∨ v = 1) ∧ ((tf' 5).toInt = (tf 5).toInt) ∧ ((tf 6).toInt ≤ (tf' 6).toInt) ∧ ((tf' 6).toInt ≤ (tf 6).toInt + 1) ∧ (v.toInt = 1 → (tf' 6).toInt = (tf 6).toInt + 1) ∧ (RdK (tf 5).toInt ta' (tf 6) v p0)) (pc_B D (va_A ([wdP cs h r g tf ta pf na ma wa cf ca ef ea xf xa] : List va_W).flatten s.heap.size)) (va_A ([wdP cs h r g tf ta pf na ma wa cf ca ef ea xf xa] : List va_W).flatten s.heap.size)) [.ref h, .int p0].toArray s 0 0 A) (F0 m 46 ls []) := by
    intro n_46
    induction n_46 with
    | zero =>
      intro x46_2 x46_3 x46_4 x46_5 H locs ls k46_0 k46_1 k46_2 k46_3 k46_4 k46_5 k46_6 hm hw hl
      have lx46_2 := Int32.le_toInt x46_2
      have ux46_2 := Int32.toInt_lt x46_2
      have lx46_3 := Int32.le_toInt x46_3
      have ux46_3 := Int32.toInt_lt x46_3
      have lx46_4 := Int32.le_toInt x46_4
      have ux46_4 := Int32.toInt_lt x46_4
      exact absurd hm (by first | with_reducible rfl | with_reducible assumption | omega)
    | succ n_46 ih46 =>
      intro x46_2 x46_3 x46_4 x46_5 H locs ls k46_0 k46_1 k46_2 k46_3 k46_4 k46_5 k46_6 hm hw hl
      have lx46_2 := Int32.le_toInt x46_2
      have ux46_2 := Int32.toInt_lt x46_2
      have lx46_3 := Int32.le_toInt x46_3
      have ux46_3 := Int32.toInt_lt x46_3
      have lx46_4 := Int32.le_toInt x46_4
      have ux46_4 := Int32.toInt_lt x46_4
      refine lv_iload_n S.x S.b d_Mpg_readNumber_46 rfl (lv_at hl 2 rfl) ?_
      refine lv_if_eq (tgt := 67) S.x S.b d_Mpg_readNumber_47 (by decide) (fun c1 => ?_) (fun c1 => ?_)
      · have nc1 : x46_2.toInt = (0 : Int) := (i_eq (x := x46_2) (y := 0)).mp c1
        refine lv_aload_n S.x S.b d_Mpg_readNumber_67 rfl (lv_at hl 0 rfl) ?_
        refine lv_iload_n S.x S.b d_Mpg_readNumber_68 rfl (lv_at hl 3 rfl) ?_
        refine lv_iload S.x S.b d_Mpg_readNumber_69 (lv_at hl 4 rfl) ?_
        refine lv_iadd S.x S.b d_Mpg_readNumber_71 ?_
        refine lv_topi (fun z2 ez2 => ?_)
        have tz2 : z2.toInt = (x46_3.toInt + x46_4.toInt + 2147483648) % 4294967296 - 2147483648 := by rw [ez2]; exact i_add x46_3 x46_4
        have lz2 := Int32.le_toInt z2
        have uz2 := Int32.toInt_lt z2
        try replace tz2 : z2.toInt = x46_3.toInt + x46_4.toInt := by omega
        first | refine px_calli (pr := []) (px_runV (As := [.int z2]) (rest := []) S (c_mp_byteAt l D cs h r g tf ta pf na ma wa cf ca ef ea xf xa z2  (show 0 ≤ (tf 5).toInt from g0) (show (tf 5).toInt ≤ 2048 from g1) (show 0 ≤ z2.toInt from (oz_0e60057f66 tz2 k46_4 nc1 k46_0 k46_3 g2)) _) hT (pr := []) (pcs := [wdP cs h r g tf ta pf na ma wa cf ca ef ea xf xa]) hw px_X.tt (px_recv hT hw 0 0 rfl rfl rfl) m11_142 m11_139 m11_141 ms_7_15 m1_21 q_Mpg_byteAt ⟨Nat.le_of_ble_eq_true rfl, Nat.le_of_ble_eq_true rfl⟩ hl.1 rfl (Nat.le_of_ble_eq_true rfl) d_Mpg_readNumber_72 ⟨Nat.le_of_ble_eq_true rfl, Nat.le_of_ble_eq_true rfl⟩) hw hA (fun v4 p3 H locs hp3 hw => ?_) | refine px_calli (pr := []) (px_runV (As := [.int z2]) (rest := []) S (c_mp_byteAt l D cs h r g tf ta pf na ma wa cf ca ef ea xf xa z2  (show 0 ≤ (tf 5).toInt from by first | exact g0 | omega) (show (tf 5).toInt ≤ 2048 from by first | exact g1 | omega) (show 0 ≤ z2.toInt from by first | exact oz_0e60057f66 tz2 k46_4 nc1 k46_0 k46_3 g2 | omega) _) hT (pr := []) (pcs := [wdP cs h r g tf ta pf na ma wa cf ca ef ea xf xa]) hw px_X.tt (px_recv hT hw 0 0 rfl rfl rfl) m11_142 m11_139 m11_141 ms_7_15 m1_21 q_Mpg_byteAt ⟨Nat.le_of_ble_eq_true rfl, Nat.le_of_ble_eq_true rfl⟩ hl.1 rfl (Nat.le_of_ble_eq_true rfl) d_Mpg_readNumber_72 ⟨Nat.le_of_ble_eq_true rfl, Nat.le_of_ble_eq_true rfl⟩) hw hA (fun v4 p3 H locs hp3 hw => ?_)
        obtain ⟨rfl, e5, e6⟩ := hp3
        have e5 : z2.toInt < (tf 5).toInt ∨ v4.toInt = -1 := e5
        have e6 : BtV ta (tf 5).toInt z2.toInt v4.toInt := e6
        have lv4 := Int32.le_toInt v4
        have uv4 := Int32.toInt_lt v4
        refine px_calli (pr := [wdP cs h r g tf ta pf na ma wa cf ca ef ea xf xa]) (px_runS (As := [.int v4]) (rest := []) S (c_mp_isDigit l D cs  v4   _) hT (pr := [wdP cs h r g tf ta pf na ma wa cf ca ef ea xf xa]) (pcs := []) hw px_X.tt m11_152 m11_150 m11_151 m1_21 q_Mpg_isDigit ⟨Nat.le_of_ble_eq_true rfl, Nat.le_of_ble_eq_true rfl⟩ hl.1 rfl (Nat.le_of_ble_eq_true rfl) d_Mpg_readNumber_75 ⟨Nat.le_of_ble_eq_true rfl, Nat.le_of_ble_eq_true rfl⟩) hw hA (fun v8 p7 H locs hp7 hw => ?_)
        obtain ⟨rfl, e9, e10, e11⟩ := hp7
        have e9 := z_rng e9
        have e10 : v8.toInt = 1 → 48 ≤ v4.toInt ∧ v4.toInt ≤ 57 := e10
        have e11 : DgV v4.toInt v8.toInt := e11
        have lv8 := Int32.le_toInt v8
        have uv8 := Int32.toInt_lt v8
        have hpos75 : v8.toInt = 0 → z2.toInt = p0.toInt + x46_4.toInt → ¬ x46_4.toInt = 0 := fun q1 q2 => dg_pos hdg (show BtV ta (tf 5).toInt z2.toInt v4.toInt by assumption) (show DgV v4.toInt v8.toInt by assumption) q1 q2
        refine lv_if_eq (tgt := 130) S.x S.b d_Mpg_readNumber_78 (by decide) (fun c12 => ?_) (fun c12 => ?_)
        · have nc12 : v8.toInt = (0 : Int) := (i_eq (x := v8) (y := 0)).mp c12
          refine lv_aload_n S.x S.b d_Mpg_readNumber_130 rfl (lv_at hl 0 rfl) ?_
          refine lv_iload_n S.x S.b d_Mpg_readNumber_131 rfl (lv_at hl 1 rfl) ?_
          refine lv_iload_n S.x S.b d_Mpg_readNumber_132 rfl (lv_at hl 3 rfl) ?_
          refine lv_iload_n S.x S.b d_Mpg_readNumber_133 rfl (lv_at hl 1 rfl) ?_
          refine lv_isub S.x S.b d_Mpg_readNumber_134 ?_
          refine lv_topi (fun z13 ez13 => ?_)
          have tz13 : z13.toInt = (x46_3.toInt - p0.toInt + 2147483648) % 4294967296 - 2147483648 := by rw [ez13]; exact i_sub x46_3 p0
          have lz13 := Int32.le_toInt z13
          have uz13 := Int32.toInt_lt z13
          try replace tz13 : z13.toInt = x46_3.toInt - p0.toInt := by omega
          refine lv_iload S.x S.b d_Mpg_readNumber_135 (lv_at hl 4 rfl) ?_
          refine lv_iadd S.x S.b d_Mpg_readNumber_137 ?_
          refine lv_topi (fun z14 ez14 => ?_)
          have tz14 : z14.toInt = (z13.toInt + x46_4.toInt + 2147483648) % 4294967296 - 2147483648 := by rw [ez14]; exact i_add z13 x46_4
          have lz14 := Int32.le_toInt z14
          have uz14 := Int32.toInt_lt z14
          try replace tz14 : z14.toInt = z13.toInt + x46_4.toInt := by omega
          refine lv_iconst (v := 3) S.x S.b d_Mpg_readNumber_138 (by decide) ?_
          refine lv_lload S.x S.b d_Mpg_readNumber_139 (lv_at hl 5 rfl) ?_
          refine lv_l2i S.x S.b d_Mpg_readNumber_141 rfl ?_
          refine lv_topi (fun z15 ez15 => ?_)
          have lz15 := Int32.le_toInt z15
          have uz15 := Int32.toInt_lt z15
          first | refine px_callv (pr := []) (px_runV (As := [.int p0, .int z14, .int 3, .int z15]) (rest := []) S (c_mp_token l D cs h r g pf na ma wa cf ca ef ea xf xa tf ta p0 z14 3 z15  (show 0 ≤ (tf 6).toInt from g4) (show (tf 6).toInt ≤ 2059 from (oz_9dfb4af2f5 g5 g3 g1)) _) hT (pr := []) (pcs := [wdP cs h r g tf ta pf na ma wa cf ca ef ea xf xa]) hw px_X.tt (px_recv hT hw 0 0 rfl rfl rfl) m11_166 m11_163 m11_165 ms_8_3 m1_21 q_Mpg_token ⟨Nat.le_of_ble_eq_true rfl, Nat.le_of_ble_eq_true rfl⟩ hl.1 rfl (Nat.le_of_ble_eq_true rfl) d_Mpg_readNumber_142 ⟨Nat.le_of_ble_eq_true rfl, Nat.le_of_ble_eq_true rfl⟩) hw hA (fun p20 H locs hp20 hw => ?_) | refine px_callv (pr := []) (px_runV (As := [.int p0, .int z14, .int 3, .int z15]) (rest := []) S (c_mp_token l D cs h r g pf na ma wa cf ca ef ea xf xa tf ta p0 z14 3 z15  (show 0 ≤ (tf 6).toInt from by first | exact g4 | omega) (show (tf 6).toInt ≤ 2059 from by first | exact oz_9dfb4af2f5 g5 g3 g1 | omega) _) hT (pr := []) (pcs := [wdP cs h r g tf ta pf na ma wa cf ca ef ea xf xa]) hw px_X.tt (px_recv hT hw 0 0 rfl rfl rfl) m11_166 m11_163 m11_165 ms_8_3 m1_21 q_Mpg_token ⟨Nat.le_of_ble_eq_true rfl, Nat.le_of_ble_eq_true rfl⟩ hl.1 rfl (Nat.le_of_ble_eq_true rfl) d_Mpg_readNumber_142 ⟨Nat.le_of_ble_eq_true rfl, Nat.le_of_ble_eq_true rfl⟩) hw hA (fun p20 H locs hp20 hw => ?_)
          obtain ⟨tf18, ta19, rfl, e22, e23, e24⟩ := hp20
          have e22 : (tf18 6).toInt = (tf 6).toInt + 1 := e22
          have e23 : (tf18 5).toInt = (tf 5).toInt := e23
          have e24 : TkU ta ta19 (tf 6) p0 z14 (3 : Int32) z15 := e24
          refine lv_iload_n S.x S.b d_Mpg_readNumber_145 rfl (lv_at hl 2 rfl) ?_
          refine lv_if_eq (tgt := 170) S.x S.b d_Mpg_readNumber_146 (by decide) (fun c25 => ?_) (fun c25 => ?_)
          · have nc25 : x46_2.toInt = (0 : Int) := (i_eq (x := x46_2) (y := 0)).mp c25
            refine lv_iload S.x S.b d_Mpg_readNumber_170 (lv_at hl 4 rfl) ?_
            refine lv_bipush (v := 10) S.x S.b d_Mpg_readNumber_172 (by decide) ?_
            refine lv_icmp_gt (tgt := 190) S.x S.b d_Mpg_readNumber_174 (by decide) (fun c26 => ?_) (fun c26 => ?_)
            · have nc26 : (10 : Int) < x46_4.toInt := (i_lt (x := 10) (y := x46_4)).mp c26
              refine lv_iconst (v := 0) S.x S.b d_Mpg_readNumber_190 (by decide) ?_
              first | exact px_iret (v := 0) S hr rfl hlk hAe hw (Nat.le_of_ble_eq_true rfl) (Nat.le_of_ble_eq_true rfl) (⟨tf18, ta19, rfl, (show (0 : Int32) = 0 ∨ (0 : Int32) = 1 from by first | exact Or.inl rfl | exact Or.inr rfl | exact z_or (by first | with_reducible rfl | with_reducible assumption | omega)), (show (tf18 5).toInt = (tf 5).toInt from e23), (show (tf 6).toInt ≤ (tf18 6).toInt from (oz_7db54039c4 e22)), (show (tf18 6).toInt ≤ (tf 6).toInt + 1 from (oz_6ad8cf7f07 e22)), (show (0 : Int) = 1 → (tf18 6).toInt = (tf 6).toInt + 1 from by first | with_reducible rfl | with_reducible assumption | omega), (show RdK (tf 5).toInt ta19 (tf 6) (0 : Int32) p0 from (by first | exact rdk_n htp (by assumption) (by first | with_reducible rfl | with_reducible assumption | omega) (by first | with_reducible rfl | with_reducible assumption | omega) | exact rdk_0 htp (by first | with_reducible rfl | with_reducible assumption | omega)))⟩) d_Mpg_readNumber_191 | exact px_iret (v := 0) S hr rfl hlk hAe hw (Nat.le_of_ble_eq_true rfl) (Nat.le_of_ble_eq_true rfl) (⟨tf18, ta19, rfl, (show (0 : Int32) = 0 ∨ (0 : Int32) = 1 from by first | exact Or.inl rfl | exact Or.inr rfl | exact z_or (by first | with_reducible rfl | with_reducible assumption | omega)), (show (tf18 5).toInt = (tf 5).toInt from by first | exact e23 | omega), (show (tf 6).toInt ≤ (tf18 6).toInt from by first | exact oz_7db54039c4 e22 | omega), (show (tf18 6).toInt ≤ (tf 6).toInt + 1 from by first | exact oz_6ad8cf7f07 e22 | omega), (show (0 : Int) = 1 → (tf18 6).toInt = (tf 6).toInt + 1 from by first | with_reducible rfl | with_reducible assumption | omega), (show RdK (tf 5).toInt ta19 (tf 6) (0 : Int32) p0 from (by first | exact rdk_n htp (by assumption) (by first | with_reducible rfl | with_reducible assumption | omega) (by first | with_reducible rfl | with_reducible assumption | omega) | exact rdk_0 htp (by first | with_reducible rfl | with_reducible assumption | omega)))⟩) d_Mpg_readNumber_191
            · have nc26 : ¬ (10 : Int) < x46_4.toInt := mt (i_lt (x := 10) (y := x46_4)).mpr c26
              refine lv_lload S.x S.b d_Mpg_readNumber_177 (lv_at hl 5 rfl) ?_
              refine lv_ldc2 (v := 4294967296) S.x S.b S.own (S.w m11_176) d_Mpg_readNumber_179 ?_
              refine W.lcmp S.x S.b d_Mpg_readNumber_182 ?_
              refine lv_topi (fun z27 ez27 => ?_)
              have lz27 := Int32.le_toInt z27
              have uz27 := Int32.toInt_lt z27
              refine lv_if_ge (tgt := 190) S.x S.b d_Mpg_readNumber_183 (by decide) (fun c28 => ?_) (fun c28 => ?_)
              · have nc28 : (0 : Int) ≤ z27.toInt := (i_le (x := 0) (y := z27)).mp c28
                refine lv_iconst (v := 0) S.x S.b d_Mpg_readNumber_190 (by decide) ?_
                first | exact px_iret (v := 0) S hr rfl hlk hAe hw (Nat.le_of_ble_eq_true rfl) (Nat.le_of_ble_eq_true rfl) (⟨tf18, ta19, rfl, (show (0 : Int32) = 0 ∨ (0 : Int32) = 1 from by first | exact Or.inl rfl | exact Or.inr rfl | exact z_or (by first | with_reducible rfl | with_reducible assumption | omega)), (show (tf18 5).toInt = (tf 5).toInt from e23), (show (tf 6).toInt ≤ (tf18 6).toInt from (oz_7db54039c4 e22)), (show (tf18 6).toInt ≤ (tf 6).toInt + 1 from (oz_6ad8cf7f07 e22)), (show (0 : Int) = 1 → (tf18 6).toInt = (tf 6).toInt + 1 from by first | with_reducible rfl | with_reducible assumption | omega), (show RdK (tf 5).toInt ta19 (tf 6) (0 : Int32) p0 from (by first | exact rdk_n htp (by assumption) (by first | with_reducible rfl | with_reducible assumption | omega) (by first | with_reducible rfl | with_reducible assumption | omega) | exact rdk_0 htp (by first | with_reducible rfl | with_reducible assumption | omega)))⟩) d_Mpg_readNumber_191 | exact px_iret (v := 0) S hr rfl hlk hAe hw (Nat.le_of_ble_eq_true rfl) (Nat.le_of_ble_eq_true rfl) (⟨tf18, ta19, rfl, (show (0 : Int32) = 0 ∨ (0 : Int32) = 1 from by first | exact Or.inl rfl | exact Or.inr rfl | exact z_or (by first | with_reducible rfl | with_reducible assumption | omega)), (show (tf18 5).toInt = (tf 5).toInt from by first | exact e23 | omega), (show (tf 6).toInt ≤ (tf18 6).toInt from by first | exact oz_7db54039c4 e22 | omega), (show (tf18 6).toInt ≤ (tf 6).toInt + 1 from by first | exact oz_6ad8cf7f07 e22 | omega), (show (0 : Int) = 1 → (tf18 6).toInt = (tf 6).toInt + 1 from by first | with_reducible rfl | with_reducible assumption | omega), (show RdK (tf 5).toInt ta19 (tf 6) (0 : Int32) p0 from (by first | exact rdk_n htp (by assumption) (by first | with_reducible rfl | with_reducible assumption | omega) (by first | with_reducible rfl | with_reducible assumption | omega) | exact rdk_0 htp (by first | with_reducible rfl | with_reducible assumption | omega)))⟩) d_Mpg_readNumber_191
              · have nc28 : ¬ (0 : Int) ≤ z27.toInt := mt (i_le (x := 0) (y := z27)).mpr c28
                refine lv_iconst (v := 1) S.x S.b d_Mpg_readNumber_186 (by decide) ?_
                refine lv_goto (tgt := 191) S.x S.b d_Mpg_readNumber_187 (by decide) ?_
                first | exact px_iret (v := 1) S hr rfl hlk hAe hw (Nat.le_of_ble_eq_true rfl) (Nat.le_of_ble_eq_true rfl) (⟨tf18, ta19, rfl, (show (1 : Int32) = 0 ∨ (1 : Int32) = 1 from by first | exact Or.inl rfl | exact Or.inr rfl | exact z_or (by first | with_reducible rfl | with_reducible assumption | omega)), (show (tf18 5).toInt = (tf 5).toInt from e23), (show (tf 6).toInt ≤ (tf18 6).toInt from (oz_7db54039c4 e22)), (show (tf18 6).toInt ≤ (tf 6).toInt + 1 from (oz_6ad8cf7f07 e22)), (show (1 : Int) = 1 → (tf18 6).toInt = (tf 6).toInt + 1 from by first | with_reducible rfl | with_reducible assumption | omega), (show RdK (tf 5).toInt ta19 (tf 6) (1 : Int32) p0 from (rdk_y htp (by assumption) (by first | with_reducible rfl | with_reducible assumption | omega) ⟨⟨by first | with_reducible rfl | with_reducible assumption | omega, by first | with_reducible rfl | with_reducible assumption | omega⟩, ⟨by first | with_reducible rfl | with_reducible assumption | omega, by first | with_reducible rfl | with_reducible assumption | omega, by first | with_reducible rfl | with_reducible assumption | omega⟩, fun h => ⟨by first | with_reducible rfl | with_reducible assumption | omega, by first | with_reducible rfl | with_reducible assumption | omega, by first | with_reducible rfl | with_reducible assumption | omega⟩, fun h => ⟨by first | with_reducible rfl | with_reducible assumption | omega, by first | with_reducible rfl | with_reducible assumption | omega, by first | with_reducible rfl | with_reducible assumption | omega⟩, fun h => ⟨by first | with_reducible rfl | with_reducible assumption | omega, by first | with_reducible rfl | with_reducible assumption | omega, by first | with_reducible rfl | with_reducible assumption | omega⟩⟩))⟩) d_Mpg_readNumber_191 | exact px_iret (v := 1) S hr rfl hlk hAe hw (Nat.le_of_ble_eq_true rfl) (Nat.le_of_ble_eq_true rfl) (⟨tf18, ta19, rfl, (show (1 : Int32) = 0 ∨ (1 : Int32) = 1 from by first | exact Or.inl rfl | exact Or.inr rfl | exact z_or (by first | with_reducible rfl | with_reducible assumption | omega)), (show (tf18 5).toInt = (tf 5).toInt from by first | exact e23 | omega), (show (tf 6).toInt ≤ (tf18 6).toInt from by first | exact oz_7db54039c4 e22 | omega), (show (tf18 6).toInt ≤ (tf 6).toInt + 1 from by first | exact oz_6ad8cf7f07 e22 | omega), (show (1 : Int) = 1 → (tf18 6).toInt = (tf 6).toInt + 1 from by first | with_reducible rfl | with_reducible assumption | omega), (show RdK (tf 5).toInt ta19 (tf 6) (1 : Int32) p0 from (rdk_y htp (by assumption) (by first | with_reducible rfl | with_reducible assumption | omega) ⟨⟨by first | with_reducible rfl | with_reducible assumption | omega, by first | with_reducible rfl | with_reducible assumption | omega⟩, ⟨by first | with_reducible rfl | with_reducible assumption | omega, by first | with_reducible rfl | with_reducible assumption | omega, by first | with_reducible rfl | with_reducible assumption | omega⟩, fun h => ⟨by first | with_reducible rfl | with_reducible assumption | omega, by first | with_reducible rfl | with_reducible assumption | omega, by first | with_reducible rfl | with_reducible assumption | omega⟩, fun h => ⟨by first | with_reducible rfl | with_reducible assumption | omega, by first | with_reducible rfl | with_reducible assumption | omega, by first | with_reducible rfl | with_reducible assumption | omega⟩, fun h => ⟨by first | with_reducible rfl | with_reducible assumption | omega, by first | with_reducible rfl | with_reducible assumption | omega, by first | with_reducible rfl | with_reducible assumption | omega⟩⟩))⟩) d_Mpg_readNumber_191
          · have nc25 : ¬ x46_2.toInt = (0 : Int) := mt (i_eq (x := x46_2) (y := 0)).mpr c25
            refine lv_iload S.x S.b d_Mpg_readNumber_149 (lv_at hl 4 rfl) ?_
            refine lv_iconst (v := 1) S.x S.b d_Mpg_readNumber_151 (by decide) ?_
            refine lv_icmp_lt (tgt := 166) S.x S.b d_Mpg_readNumber_152 (by decide) (fun c29 => ?_) (fun c29 => ?_)
            · have nc29 : x46_4.toInt < (1 : Int) := (i_lt (x := x46_4) (y := 1)).mp c29
              refine lv_iconst (v := 0) S.x S.b d_Mpg_readNumber_166 (by decide) ?_
              refine lv_goto (tgt := 191) S.x S.b d_Mpg_readNumber_167 (by decide) ?_
              first | exact px_iret (v := 0) S hr rfl hlk hAe hw (Nat.le_of_ble_eq_true rfl) (Nat.le_of_ble_eq_true rfl) (⟨tf18, ta19, rfl, (show (0 : Int32) = 0 ∨ (0 : Int32) = 1 from by first | exact Or.inl rfl | exact Or.inr rfl | exact z_or (by first | with_reducible rfl | with_reducible assumption | omega)), (show (tf18 5).toInt = (tf 5).toInt from e23), (show (tf 6).toInt ≤ (tf18 6).toInt from (oz_7db54039c4 e22)), (show (tf18 6).toInt ≤ (tf 6).toInt + 1 from (oz_6ad8cf7f07 e22)), (show (0 : Int) = 1 → (tf18 6).toInt = (tf 6).toInt + 1 from by first | with_reducible rfl | with_reducible assumption | omega), (show RdK (tf 5).toInt ta19 (tf 6) (0 : Int32) p0 from (by first | exact rdk_n htp (by assumption) (by first | with_reducible rfl | with_reducible assumption | omega) (by first | with_reducible rfl | with_reducible assumption | omega) | exact rdk_0 htp (by first | with_reducible rfl | with_reducible assumption | omega)))⟩) d_Mpg_readNumber_191 | exact px_iret (v := 0) S hr rfl hlk hAe hw (Nat.le_of_ble_eq_true rfl) (Nat.le_of_ble_eq_true rfl) (⟨tf18, ta19, rfl, (show (0 : Int32) = 0 ∨ (0 : Int32) = 1 from by first | exact Or.inl rfl | exact Or.inr rfl | exact z_or (by first | with_reducible rfl | with_reducible assumption | omega)), (show (tf18 5).toInt = (tf 5).toInt from by first | exact e23 | omega), (show (tf 6).toInt ≤ (tf18 6).toInt from by first | exact oz_7db54039c4 e22 | omega), (show (tf18 6).toInt ≤ (tf 6).toInt + 1 from by first | exact oz_6ad8cf7f07 e22 | omega), (show (0 : Int) = 1 → (tf18 6).toInt = (tf 6).toInt + 1 from by first | with_reducible rfl | with_reducible assumption | omega), (show RdK (tf 5).toInt ta19 (tf 6) (0 : Int32) p0 from (by first | exact rdk_n htp (by assumption) (by first | with_reducible rfl | with_reducible assumption | omega) (by first | with_reducible rfl | with_reducible assumption | omega) | exact rdk_0 htp (by first | with_reducible rfl | with_reducible assumption | omega)))⟩) d_Mpg_readNumber_191
            · have nc29 : ¬ x46_4.toInt < (1 : Int) := mt (i_lt (x := x46_4) (y := 1)).mpr c29
              refine lv_iload S.x S.b d_Mpg_readNumber_155 (lv_at hl 4 rfl) ?_
              refine lv_bipush (v := 8) S.x S.b d_Mpg_readNumber_157 (by decide) ?_
              refine lv_icmp_gt (tgt := 166) S.x S.b d_Mpg_readNumber_159 (by decide) (fun c30 => ?_) (fun c30 => ?_)
              · have nc30 : (8 : Int) < x46_4.toInt := (i_lt (x := 8) (y := x46_4)).mp c30
                refine lv_iconst (v := 0) S.x S.b d_Mpg_readNumber_166 (by decide) ?_
                refine lv_goto (tgt := 191) S.x S.b d_Mpg_readNumber_167 (by decide) ?_
                first | exact px_iret (v := 0) S hr rfl hlk hAe hw (Nat.le_of_ble_eq_true rfl) (Nat.le_of_ble_eq_true rfl) (⟨tf18, ta19, rfl, (show (0 : Int32) = 0 ∨ (0 : Int32) = 1 from by first | exact Or.inl rfl | exact Or.inr rfl | exact z_or (by first | with_reducible rfl | with_reducible assumption | omega)), (show (tf18 5).toInt = (tf 5).toInt from e23), (show (tf 6).toInt ≤ (tf18 6).toInt from (oz_7db54039c4 e22)), (show (tf18 6).toInt ≤ (tf 6).toInt + 1 from (oz_6ad8cf7f07 e22)), (show (0 : Int) = 1 → (tf18 6).toInt = (tf 6).toInt + 1 from by first | with_reducible rfl | with_reducible assumption | omega), (show RdK (tf 5).toInt ta19 (tf 6) (0 : Int32) p0 from (by first | exact rdk_n htp (by assumption) (by first | with_reducible rfl | with_reducible assumption | omega) (by first | with_reducible rfl | with_reducible assumption | omega) | exact rdk_0 htp (by first | with_reducible rfl | with_reducible assumption | omega)))⟩) d_Mpg_readNumber_191 | exact px_iret (v := 0) S hr rfl hlk hAe hw (Nat.le_of_ble_eq_true rfl) (Nat.le_of_ble_eq_true rfl) (⟨tf18, ta19, rfl, (show (0 : Int32) = 0 ∨ (0 : Int32) = 1 from by first | exact Or.inl rfl | exact Or.inr rfl | exact z_or (by first | with_reducible rfl | with_reducible assumption | omega)), (show (tf18 5).toInt = (tf 5).toInt from by first | exact e23 | omega), (show (tf 6).toInt ≤ (tf18 6).toInt from by first | exact oz_7db54039c4 e22 | omega), (show (tf18 6).toInt ≤ (tf 6).toInt + 1 from by first | exact oz_6ad8cf7f07 e22 | omega), (show (0 : Int) = 1 → (tf18 6).toInt = (tf 6).toInt + 1 from by first | with_reducible rfl | with_reducible assumption | omega), (show RdK (tf 5).toInt ta19 (tf 6) (0 : Int32) p0 from (by first | exact rdk_n htp (by assumption) (by first | with_reducible rfl | with_reducible assumption | omega) (by first | with_reducible rfl | with_reducible assumption | omega) | exact rdk_0 htp (by first | with_reducible rfl | with_reducible assumption | omega)))⟩) d_Mpg_readNumber_191
              · have nc30 : ¬ (8 : Int) < x46_4.toInt := mt (i_lt (x := 8) (y := x46_4)).mpr c30
                refine lv_iconst (v := 1) S.x S.b d_Mpg_readNumber_162 (by decide) ?_
                refine lv_goto (tgt := 191) S.x S.b d_Mpg_readNumber_163 (by decide) ?_
                first | exact px_iret (v := 1) S hr rfl hlk hAe hw (Nat.le_of_ble_eq_true rfl) (Nat.le_of_ble_eq_true rfl) (⟨tf18, ta19, rfl, (show (1 : Int32) = 0 ∨ (1 : Int32) = 1 from by first | exact Or.inl rfl | exact Or.inr rfl | exact z_or (by first | with_reducible rfl | with_reducible assumption | omega)), (show (tf18 5).toInt = (tf 5).toInt from e23), (show (tf 6).toInt ≤ (tf18 6).toInt from (oz_7db54039c4 e22)), (show (tf18 6).toInt ≤ (tf 6).toInt + 1 from (oz_6ad8cf7f07 e22)), (show (1 : Int) = 1 → (tf18 6).toInt = (tf 6).toInt + 1 from by first | with_reducible rfl | with_reducible assumption | omega), (show RdK (tf 5).toInt ta19 (tf 6) (1 : Int32) p0 from (rdk_y htp (by assumption) (by first | with_reducible rfl | with_reducible assumption | omega) ⟨⟨by first | with_reducible rfl | with_reducible assumption | omega, by first | with_reducible rfl | with_reducible assumption | omega⟩, ⟨by first | with_reducible rfl | with_reducible assumption | omega, by first | with_reducible rfl | with_reducible assumption | omega, by first | with_reducible rfl | with_reducible assumption | omega⟩, fun h => ⟨by first | with_reducible rfl | with_reducible assumption | omega, by first | with_reducible rfl | with_reducible assumption | omega, by first | with_reducible rfl | with_reducible assumption | omega⟩, fun h => ⟨by first | with_reducible rfl | with_reducible assumption | omega, by first | with_reducible rfl | with_reducible assumption | omega, by first | with_reducible rfl | with_reducible assumption | omega⟩, fun h => ⟨by first | with_reducible rfl | with_reducible assumption | omega, by first | with_reducible rfl | with_reducible assumption | omega, by first | with_reducible rfl | with_reducible assumption | omega⟩⟩))⟩) d_Mpg_readNumber_191 | exact px_iret (v := 1) S hr rfl hlk hAe hw (Nat.le_of_ble_eq_true rfl) (Nat.le_of_ble_eq_true rfl) (⟨tf18, ta19, rfl, (show (1 : Int32) = 0 ∨ (1 : Int32) = 1 from by first | exact Or.inl rfl | exact Or.inr rfl | exact z_or (by first | with_reducible rfl | with_reducible assumption | omega)), (show (tf18 5).toInt = (tf 5).toInt from by first | exact e23 | omega), (show (tf 6).toInt ≤ (tf18 6).toInt from by first | exact oz_7db54039c4 e22 | omega), (show (tf18 6).toInt ≤ (tf 6).toInt + 1 from by first | exact oz_6ad8cf7f07 e22 | omega), (show (1 : Int) = 1 → (tf18 6).toInt = (tf 6).toInt + 1 from by first | with_reducible rfl | with_reducible assumption | omega), (show RdK (tf 5).toInt ta19 (tf 6) (1 : Int32) p0 from (rdk_y htp (by assumption) (by first | with_reducible rfl | with_reducible assumption | omega) ⟨⟨by first | with_reducible rfl | with_reducible assumption | omega, by first | with_reducible rfl | with_reducible assumption | omega⟩, ⟨by first | with_reducible rfl | with_reducible assumption | omega, by first | with_reducible rfl | with_reducible assumption | omega, by first | with_reducible rfl | with_reducible assumption | omega⟩, fun h => ⟨by first | with_reducible rfl | with_reducible assumption | omega, by first | with_reducible rfl | with_reducible assumption | omega, by first | with_reducible rfl | with_reducible assumption | omega⟩, fun h => ⟨by first | with_reducible rfl | with_reducible assumption | omega, by first | with_reducible rfl | with_reducible assumption | omega, by first | with_reducible rfl | with_reducible assumption | omega⟩, fun h => ⟨by first | with_reducible rfl | with_reducible assumption | omega, by first | with_reducible rfl | with_reducible assumption | omega, by first | with_reducible rfl | with_reducible assumption | omega⟩⟩))⟩) d_Mpg_readNumber_191
        · have nc12 : ¬ v8.toInt = (0 : Int) := mt (i_eq (x := v8) (y := 0)).mpr c12
          refine lv_iload S.x S.b d_Mpg_readNumber_81 (lv_at hl 4 rfl) ?_
          refine lv_bipush (v := 12) S.x S.b d_Mpg_readNumber_83 (by decide) ?_
          refine lv_icmp_ge (tgt := 120) S.x S.b d_Mpg_readNumber_85 (by decide) (fun c31 => ?_) (fun c31 => ?_)
          · have nc31 : (12 : Int) ≤ x46_4.toInt := (i_le (x := 12) (y := x46_4)).mp c31
            refine lv_lload S.x S.b d_Mpg_readNumber_120 (lv_at hl 5 rfl) ?_
            refine lv_lstore (lv' := [(5, .long x46_5), (0, .ref h), (1, .int p0), (2, .int x46_2), (3, .int x46_3), (4, .int x46_4)]) S.x S.b d_Mpg_readNumber_122 hl (by decide) rfl (fun ls hl => ?_)
            obtain ⟨z32, ez32⟩ : ∃ y : Int32, y = x46_4 + 1 := ⟨_, rfl⟩
            have tz32 : z32.toInt = (x46_4.toInt + 1 + 2147483648) % 4294967296 - 2147483648 := by rw [ez32]; exact i_add x46_4 1
            have lz32 := Int32.le_toInt z32
            have uz32 := Int32.toInt_lt z32
            try replace tz32 : z32.toInt = x46_4.toInt + 1 := by omega
            refine lv_iinc (v := z32) (lv' := [(4, .int z32), (5, .long x46_5), (0, .ref h), (1, .int p0), (2, .int x46_2), (3, .int x46_3)]) S.x S.b d_Mpg_readNumber_124 hl (k := 5) rfl (by rw [ez32]; rfl) (by decide) rfl (fun ls hl => ?_)
            refine lv_goto (tgt := 46) S.x S.b d_Mpg_readNumber_127 (by decide) ?_
            first | exact ih46 x46_2 x46_3 z32 x46_5 _ _ ls (show 0 ≤ x46_2.toInt from k46_0) (show x46_2.toInt ≤ 1 from k46_1) (show x46_2.toInt = 1 → x46_3.toInt = p0.toInt + 2 from k46_2) (show x46_2.toInt = 0 → x46_3.toInt = p0.toInt from k46_3) (show 0 ≤ z32.toInt from (oz_f5be280463 tz32 nc31)) (show x46_3.toInt + z32.toInt ≤ (tf 5).toInt ∨ z32.toInt = 0 from by first | with_reducible rfl | with_reducible assumption | omega) (show x46_2.toInt = 1 → p0.toInt + 2 ≤ (tf 5).toInt from k46_6) (show (tf 5).toInt + 3 - x46_3.toInt - z32.toInt < (n_46 : Int) from (oz_46d5be2f80 hm tz32)) hw (lv_sub hl [2, 3, 4, 5, 0, 1] rfl) | exact ih46 x46_2 x46_3 z32 x46_5 _ _ ls (show 0 ≤ x46_2.toInt from by first | exact k46_0 | omega) (show x46_2.toInt ≤ 1 from by first | exact k46_1 | omega) (show x46_2.toInt = 1 → x46_3.toInt = p0.toInt + 2 from by first | exact k46_2 | omega) (show x46_2.toInt = 0 → x46_3.toInt = p0.toInt from by first | exact k46_3 | omega) (show 0 ≤ z32.toInt from by first | exact oz_f5be280463 tz32 nc31 | omega) (show x46_3.toInt + z32.toInt ≤ (tf 5).toInt ∨ z32.toInt = 0 from by first | with_reducible rfl | with_reducible assumption | omega) (show x46_2.toInt = 1 → p0.toInt + 2 ≤ (tf 5).toInt from by first | exact k46_6 | omega) (show (tf 5).toInt + 3 - x46_3.toInt - z32.toInt < (n_46 : Int) from by first | exact oz_46d5be2f80 hm tz32 | omega) hw (lv_sub hl [2, 3, 4, 5, 0, 1] rfl)
          · have nc31 : ¬ (12 : Int) ≤ x46_4.toInt := mt (i_le (x := 12) (y := x46_4)).mpr c31
            refine lv_lload S.x S.b d_Mpg_readNumber_88 (lv_at hl 5 rfl) ?_
            refine lv_iload_n S.x S.b d_Mpg_readNumber_90 rfl (lv_at hl 2 rfl) ?_
            refine lv_if_eq (tgt := 100) S.x S.b d_Mpg_readNumber_91 (by decide) (fun c33 => ?_) (fun c33 => ?_)
            · have nc33 : x46_2.toInt = (0 : Int) := (i_eq (x := x46_2) (y := 0)).mp c33
              refine lv_ldc2 (v := 10) S.x S.b S.own (S.w m11_175) d_Mpg_readNumber_100 ?_
              refine lv_lmul S.x S.b d_Mpg_readNumber_103 ?_
              refine lv_topl (fun z34 ez34 => ?_)
              refine lv_aload_n S.x S.b d_Mpg_readNumber_104 rfl (lv_at hl 0 rfl) ?_
              refine lv_iload_n S.x S.b d_Mpg_readNumber_105 rfl (lv_at hl 3 rfl) ?_
              refine lv_iload S.x S.b d_Mpg_readNumber_106 (lv_at hl 4 rfl) ?_
              refine lv_iadd S.x S.b d_Mpg_readNumber_108 ?_
              refine lv_topi (fun z35 ez35 => ?_)
              have tz35 : z35.toInt = (x46_3.toInt + x46_4.toInt + 2147483648) % 4294967296 - 2147483648 := by rw [ez35]; exact i_add x46_3 x46_4
              have lz35 := Int32.le_toInt z35
              have uz35 := Int32.toInt_lt z35
              try replace tz35 : z35.toInt = x46_3.toInt + x46_4.toInt := by omega
              first | refine px_calli (pr := []) (px_runV (As := [.int z35]) (rest := [.long z34]) S (c_mp_byteAt l D cs h r g tf ta pf na ma wa cf ca ef ea xf xa z35  (show 0 ≤ (tf 5).toInt from g0) (show (tf 5).toInt ≤ 2048 from g1) (show 0 ≤ z35.toInt from (oz_0e60057f66 tz35 k46_4 nc1 k46_0 k46_3 g2)) _) hT (pr := []) (pcs := [wdP cs h r g tf ta pf na ma wa cf ca ef ea xf xa]) hw px_X.tt (px_recv hT hw 0 0 rfl rfl rfl) m11_142 m11_139 m11_141 ms_7_15 m1_21 q_Mpg_byteAt ⟨Nat.le_of_ble_eq_true rfl, Nat.le_of_ble_eq_true rfl⟩ hl.1 rfl (Nat.le_of_ble_eq_true rfl) d_Mpg_readNumber_109 ⟨Nat.le_of_ble_eq_true rfl, Nat.le_of_ble_eq_true rfl⟩) hw hA (fun v37 p36 H locs hp36 hw => ?_) | refine px_calli (pr := []) (px_runV (As := [.int z35]) (rest := [.long z34]) S (c_mp_byteAt l D cs h r g tf ta pf na ma wa cf ca ef ea xf xa z35  (show 0 ≤ (tf 5).toInt from by first | exact g0 | omega) (show (tf 5).toInt ≤ 2048 from by first | exact g1 | omega) (show 0 ≤ z35.toInt from by first | exact oz_0e60057f66 tz35 k46_4 nc1 k46_0 k46_3 g2 | omega) _) hT (pr := []) (pcs := [wdP cs h r g tf ta pf na ma wa cf ca ef ea xf xa]) hw px_X.tt (px_recv hT hw 0 0 rfl rfl rfl) m11_142 m11_139 m11_141 ms_7_15 m1_21 q_Mpg_byteAt ⟨Nat.le_of_ble_eq_true rfl, Nat.le_of_ble_eq_true rfl⟩ hl.1 rfl (Nat.le_of_ble_eq_true rfl) d_Mpg_readNumber_109 ⟨Nat.le_of_ble_eq_true rfl, Nat.le_of_ble_eq_true rfl⟩) hw hA (fun v37 p36 H locs hp36 hw => ?_)
              obtain ⟨rfl, e38, e39⟩ := hp36
              have e38 : z35.toInt < (tf 5).toInt ∨ v37.toInt = -1 := e38
              have e39 : BtV ta (tf 5).toInt z35.toInt v37.toInt := e39
              have lv37 := Int32.le_toInt v37
              have uv37 := Int32.toInt_lt v37
              refine px_calli (pr := [wdP cs h r g tf ta pf na ma wa cf ca ef ea xf xa]) (px_runS (As := [.int v37]) (rest := [.long z34]) S (c_mp_figure l D cs  v37   _) hT (pr := [wdP cs h r g tf ta pf na ma wa cf ca ef ea xf xa]) (pcs := []) hw px_X.tt m11_173 m11_171 m11_172 m1_21 q_Mpg_figure ⟨Nat.le_of_ble_eq_true rfl, Nat.le_of_ble_eq_true rfl⟩ hl.1 rfl (Nat.le_of_ble_eq_true rfl) d_Mpg_readNumber_112 ⟨Nat.le_of_ble_eq_true rfl, Nat.le_of_ble_eq_true rfl⟩) hw hA (fun v41 p40 H locs hp40 hw => ?_)
              obtain ⟨rfl, e42, e43, e44⟩ := hp40
              have e42 : -1 ≤ v41.toInt := e42
              have e43 : v41.toInt ≤ 15 := e43
              have e44 : 0 ≤ v41.toInt → 48 ≤ v37.toInt := e44
              have lv41 := Int32.le_toInt v41
              have uv41 := Int32.toInt_lt v41
              refine lv_i2l S.x S.b d_Mpg_readNumber_115 rfl ?_
              refine lv_ladd S.x S.b d_Mpg_readNumber_116 ?_
              refine lv_topl (fun z45 ez45 => ?_)
              refine lv_goto (tgt := 122) S.x S.b d_Mpg_readNumber_117 (by decide) ?_
              refine lv_lstore (lv' := [(5, .long z45), (0, .ref h), (1, .int p0), (2, .int x46_2), (3, .int x46_3), (4, .int x46_4)]) S.x S.b d_Mpg_readNumber_122 hl (by decide) rfl (fun ls hl => ?_)
              obtain ⟨z46, ez46⟩ : ∃ y : Int32, y = x46_4 + 1 := ⟨_, rfl⟩
              have tz46 : z46.toInt = (x46_4.toInt + 1 + 2147483648) % 4294967296 - 2147483648 := by rw [ez46]; exact i_add x46_4 1
              have lz46 := Int32.le_toInt z46
              have uz46 := Int32.toInt_lt z46
              try replace tz46 : z46.toInt = x46_4.toInt + 1 := by omega
              refine lv_iinc (v := z46) (lv' := [(4, .int z46), (5, .long z45), (0, .ref h), (1, .int p0), (2, .int x46_2), (3, .int x46_3)]) S.x S.b d_Mpg_readNumber_124 hl (k := 5) rfl (by rw [ez46]; rfl) (by decide) rfl (fun ls hl => ?_)
              refine lv_goto (tgt := 46) S.x S.b d_Mpg_readNumber_127 (by decide) ?_
              first | exact ih46 x46_2 x46_3 z46 z45 _ _ ls (show 0 ≤ x46_2.toInt from k46_0) (show x46_2.toInt ≤ 1 from k46_1) (show x46_2.toInt = 1 → x46_3.toInt = p0.toInt + 2 from k46_2) (show x46_2.toInt = 0 → x46_3.toInt = p0.toInt from k46_3) (show 0 ≤ z46.toInt from (oz_ae613611c0 tz46 k46_4)) (show x46_3.toInt + z46.toInt ≤ (tf 5).toInt ∨ z46.toInt = 0 from by first | with_reducible rfl | with_reducible assumption | omega) (show x46_2.toInt = 1 → p0.toInt + 2 ≤ (tf 5).toInt from k46_6) (show (tf 5).toInt + 3 - x46_3.toInt - z46.toInt < (n_46 : Int) from (oz_46d5be2f80 hm tz46)) hw (lv_sub hl [2, 3, 4, 5, 0, 1] rfl) | exact ih46 x46_2 x46_3 z46 z45 _ _ ls (show 0 ≤ x46_2.toInt from by first | exact k46_0 | omega) (show x46_2.toInt ≤ 1 from by first | exact k46_1 | omega) (show x46_2.toInt = 1 → x46_3.toInt = p0.toInt + 2 from by first | exact k46_2 | omega) (show x46_2.toInt = 0 → x46_3.toInt = p0.toInt from by first | exact k46_3 | omega) (show 0 ≤ z46.toInt from by first | exact oz_ae613611c0 tz46 k46_4 | omega) (show x46_3.toInt + z46.toInt ≤ (tf 5).toInt ∨ z46.toInt = 0 from by first | with_reducible rfl | with_reducible assumption | omega) (show x46_2.toInt = 1 → p0.toInt + 2 ≤ (tf 5).toInt from by first | exact k46_6 | omega) (show (tf 5).toInt + 3 - x46_3.toInt - z46.toInt < (n_46 : Int) from by first | exact oz_46d5be2f80 hm tz46 | omega) hw (lv_sub hl [2, 3, 4, 5, 0, 1] rfl)
            · have nc33 : ¬ x46_2.toInt = (0 : Int) := mt (i_eq (x := x46_2) (y := 0)).mpr c33
              refine lv_ldc2 (v := 16) S.x S.b S.own (S.w m11_174) d_Mpg_readNumber_94 ?_
              refine lv_goto (tgt := 103) S.x S.b d_Mpg_readNumber_97 (by decide) ?_
              refine lv_lmul S.x S.b d_Mpg_readNumber_103 ?_
              refine lv_topl (fun z47 ez47 => ?_)
              refine lv_aload_n S.x S.b d_Mpg_readNumber_104 rfl (lv_at hl 0 rfl) ?_
              refine lv_iload_n S.x S.b d_Mpg_readNumber_105 rfl (lv_at hl 3 rfl) ?_
              refine lv_iload S.x S.b d_Mpg_readNumber_106 (lv_at hl 4 rfl) ?_
              refine lv_iadd S.x S.b d_Mpg_readNumber_108 ?_
              refine lv_topi (fun z48 ez48 => ?_)
              have tz48 : z48.toInt = (x46_3.toInt + x46_4.toInt + 2147483648) % 4294967296 - 2147483648 := by rw [ez48]; exact i_add x46_3 x46_4
              have lz48 := Int32.le_toInt z48
              have uz48 := Int32.toInt_lt z48
              try replace tz48 : z48.toInt = x46_3.toInt + x46_4.toInt := by omega
              first | refine px_calli (pr := []) (px_runV (As := [.int z48]) (rest := [.long z47]) S (c_mp_byteAt l D cs h r g tf ta pf na ma wa cf ca ef ea xf xa z48  (show 0 ≤ (tf 5).toInt from g0) (show (tf 5).toInt ≤ 2048 from g1) (show 0 ≤ z48.toInt from (oz_0e60057f66 tz48 k46_4 nc1 k46_0 k46_3 g2)) _) hT (pr := []) (pcs := [wdP cs h r g tf ta pf na ma wa cf ca ef ea xf xa]) hw px_X.tt (px_recv hT hw 0 0 rfl rfl rfl) m11_142 m11_139 m11_141 ms_7_15 m1_21 q_Mpg_byteAt ⟨Nat.le_of_ble_eq_true rfl, Nat.le_of_ble_eq_true rfl⟩ hl.1 rfl (Nat.le_of_ble_eq_true rfl) d_Mpg_readNumber_109 ⟨Nat.le_of_ble_eq_true rfl, Nat.le_of_ble_eq_true rfl⟩) hw hA (fun v50 p49 H locs hp49 hw => ?_) | refine px_calli (pr := []) (px_runV (As := [.int z48]) (rest := [.long z47]) S (c_mp_byteAt l D cs h r g tf ta pf na ma wa cf ca ef ea xf xa z48  (show 0 ≤ (tf 5).toInt from by first | exact g0 | omega) (show (tf 5).toInt ≤ 2048 from by first | exact g1 | omega) (show 0 ≤ z48.toInt from by first | exact oz_0e60057f66 tz48 k46_4 nc1 k46_0 k46_3 g2 | omega) _) hT (pr := []) (pcs := [wdP cs h r g tf ta pf na ma wa cf ca ef ea xf xa]) hw px_X.tt (px_recv hT hw 0 0 rfl rfl rfl) m11_142 m11_139 m11_141 ms_7_15 m1_21 q_Mpg_byteAt ⟨Nat.le_of_ble_eq_true rfl, Nat.le_of_ble_eq_true rfl⟩ hl.1 rfl (Nat.le_of_ble_eq_true rfl) d_Mpg_readNumber_109 ⟨Nat.le_of_ble_eq_true rfl, Nat.le_of_ble_eq_true rfl⟩) hw hA (fun v50 p49 H locs hp49 hw => ?_)
              obtain ⟨rfl, e51, e52⟩ := hp49
              have e51 : z48.toInt < (tf 5).toInt ∨ v50.toInt = -1 := e51
              have e52 : BtV ta (tf 5).toInt z48.toInt v50.toInt := e52
              have lv50 := Int32.le_toInt v50
              have uv50 := Int32.toInt_lt v50
              refine px_calli (pr := [wdP cs h r g tf ta pf na ma wa cf ca ef ea xf xa]) (px_runS (As := [.int v50]) (rest := [.long z47]) S (c_mp_figure l D cs  v50   _) hT (pr := [wdP cs h r g tf ta pf na ma wa cf ca ef ea xf xa]) (pcs := []) hw px_X.tt m11_173 m11_171 m11_172 m1_21 q_Mpg_figure ⟨Nat.le_of_ble_eq_true rfl, Nat.le_of_ble_eq_true rfl⟩ hl.1 rfl (Nat.le_of_ble_eq_true rfl) d_Mpg_readNumber_112 ⟨Nat.le_of_ble_eq_true rfl, Nat.le_of_ble_eq_true rfl⟩) hw hA (fun v54 p53 H locs hp53 hw => ?_)
              obtain ⟨rfl, e55, e56, e57⟩ := hp53
              have e55 : -1 ≤ v54.toInt := e55
              have e56 : v54.toInt ≤ 15 := e56
              have e57 : 0 ≤ v54.toInt → 48 ≤ v50.toInt := e57
              have lv54 := Int32.le_toInt v54
              have uv54 := Int32.toInt_lt v54
              refine lv_i2l S.x S.b d_Mpg_readNumber_115 rfl ?_
              refine lv_ladd S.x S.b d_Mpg_readNumber_116 ?_
              refine lv_topl (fun z58 ez58 => ?_)
              refine lv_goto (tgt := 122) S.x S.b d_Mpg_readNumber_117 (by decide) ?_
              refine lv_lstore (lv' := [(5, .long z58), (0, .ref h), (1, .int p0), (2, .int x46_2), (3, .int x46_3), (4, .int x46_4)]) S.x S.b d_Mpg_readNumber_122 hl (by decide) rfl (fun ls hl => ?_)
              obtain ⟨z59, ez59⟩ : ∃ y : Int32, y = x46_4 + 1 := ⟨_, rfl⟩
              have tz59 : z59.toInt = (x46_4.toInt + 1 + 2147483648) % 4294967296 - 2147483648 := by rw [ez59]; exact i_add x46_4 1
              have lz59 := Int32.le_toInt z59
              have uz59 := Int32.toInt_lt z59
              try replace tz59 : z59.toInt = x46_4.toInt + 1 := by omega
              refine lv_iinc (v := z59) (lv' := [(4, .int z59), (5, .long z58), (0, .ref h), (1, .int p0), (2, .int x46_2), (3, .int x46_3)]) S.x S.b d_Mpg_readNumber_124 hl (k := 5) rfl (by rw [ez59]; rfl) (by decide) rfl (fun ls hl => ?_)
              refine lv_goto (tgt := 46) S.x S.b d_Mpg_readNumber_127 (by decide) ?_
              first | exact ih46 x46_2 x46_3 z59 z58 _ _ ls (show 0 ≤ x46_2.toInt from k46_0) (show x46_2.toInt ≤ 1 from k46_1) (show x46_2.toInt = 1 → x46_3.toInt = p0.toInt + 2 from k46_2) (show x46_2.toInt = 0 → x46_3.toInt = p0.toInt from k46_3) (show 0 ≤ z59.toInt from (oz_ae613611c0 tz59 k46_4)) (show x46_3.toInt + z59.toInt ≤ (tf 5).toInt ∨ z59.toInt = 0 from by first | with_reducible rfl | with_reducible assumption | omega) (show x46_2.toInt = 1 → p0.toInt + 2 ≤ (tf 5).toInt from k46_6) (show (tf 5).toInt + 3 - x46_3.toInt - z59.toInt < (n_46 : Int) from (oz_46d5be2f80 hm tz59)) hw (lv_sub hl [2, 3, 4, 5, 0, 1] rfl) | exact ih46 x46_2 x46_3 z59 z58 _ _ ls (show 0 ≤ x46_2.toInt from by first | exact k46_0 | omega) (show x46_2.toInt ≤ 1 from by first | exact k46_1 | omega) (show x46_2.toInt = 1 → x46_3.toInt = p0.toInt + 2 from by first | exact k46_2 | omega) (show x46_2.toInt = 0 → x46_3.toInt = p0.toInt from by first | exact k46_3 | omega) (show 0 ≤ z59.toInt from by first | exact oz_ae613611c0 tz59 k46_4 | omega) (show x46_3.toInt + z59.toInt ≤ (tf 5).toInt ∨ z59.toInt = 0 from by first | with_reducible rfl | with_reducible assumption | omega) (show x46_2.toInt = 1 → p0.toInt + 2 ≤ (tf 5).toInt from by first | exact k46_6 | omega) (show (tf 5).toInt + 3 - x46_3.toInt - z59.toInt < (n_46 : Int) from by first | exact oz_46d5be2f80 hm tz59 | omega) hw (lv_sub hl [2, 3, 4, 5, 0, 1] rfl)
      · have nc1 : ¬ x46_2.toInt = (0 : Int) := mt (i_eq (x := x46_2) (y := 0)).mpr c1
        refine lv_aload_n S.x S.b d_Mpg_readNumber_50 rfl (lv_at hl 0 rfl) ?_
        refine lv_iload_n S.x S.b d_Mpg_readNumber_51 rfl (lv_at hl 3 rfl) ?_
        refine lv_iload S.x S.b d_Mpg_readNumber_52 (lv_at hl 4 rfl) ?_
        refine lv_iadd S.x S.b d_Mpg_readNumber_54 ?_
        refine lv_topi (fun z60 ez60 => ?_)
        have tz60 : z60.toInt = (x46_3.toInt + x46_4.toInt + 2147483648) % 4294967296 - 2147483648 := by rw [ez60]; exact i_add x46_3 x46_4
        have lz60 := Int32.le_toInt z60
        have uz60 := Int32.toInt_lt z60
        try replace tz60 : z60.toInt = x46_3.toInt + x46_4.toInt := by omega
        first | refine px_calli (pr := []) (px_runV (As := [.int z60]) (rest := []) S (c_mp_byteAt l D cs h r g tf ta pf na ma wa cf ca ef ea xf xa z60  (show 0 ≤ (tf 5).toInt from g0) (show (tf 5).toInt ≤ 2048 from g1) (show 0 ≤ z60.toInt from by first | with_reducible rfl | with_reducible assumption | omega) _) hT (pr := []) (pcs := [wdP cs h r g tf ta pf na ma wa cf ca ef ea xf xa]) hw px_X.tt (px_recv hT hw 0 0 rfl rfl rfl) m11_142 m11_139 m11_141 ms_7_15 m1_21 q_Mpg_byteAt ⟨Nat.le_of_ble_eq_true rfl, Nat.le_of_ble_eq_true rfl⟩ hl.1 rfl (Nat.le_of_ble_eq_true rfl) d_Mpg_readNumber_55 ⟨Nat.le_of_ble_eq_true rfl, Nat.le_of_ble_eq_true rfl⟩) hw hA (fun v62 p61 H locs hp61 hw => ?_) | refine px_calli (pr := []) (px_runV (As := [.int z60]) (rest := []) S (c_mp_byteAt l D cs h r g tf ta pf na ma wa cf ca ef ea xf xa z60  (show 0 ≤ (tf 5).toInt from by first | exact g0 | omega) (show (tf 5).toInt ≤ 2048 from by first | exact g1 | omega) (show 0 ≤ z60.toInt from by first | with_reducible rfl | with_reducible assumption | omega) _) hT (pr := []) (pcs := [wdP cs h r g tf ta pf na ma wa cf ca ef ea xf xa]) hw px_X.tt (px_recv hT hw 0 0 rfl rfl rfl) m11_142 m11_139 m11_141 ms_7_15 m1_21 q_Mpg_byteAt ⟨Nat.le_of_ble_eq_true rfl, Nat.le_of_ble_eq_true rfl⟩ hl.1 rfl (Nat.le_of_ble_eq_true rfl) d_Mpg_readNumber_55 ⟨Nat.le_of_ble_eq_true rfl, Nat.le_of_ble_eq_true rfl⟩) hw hA (fun v62 p61 H locs hp61 hw => ?_)
        obtain ⟨rfl, e63, e64⟩ := hp61
        have e63 : z60.toInt < (tf 5).toInt ∨ v62.toInt = -1 := e63
        have e64 : BtV ta (tf 5).toInt z60.toInt v62.toInt := e64
        have lv62 := Int32.le_toInt v62
        have uv62 := Int32.toInt_lt v62
        refine px_calli (pr := [wdP cs h r g tf ta pf na ma wa cf ca ef ea xf xa]) (px_runS (As := [.int v62]) (rest := []) S (c_mp_figure l D cs  v62   _) hT (pr := [wdP cs h r g tf ta pf na ma wa cf ca ef ea xf xa]) (pcs := []) hw px_X.tt m11_173 m11_171 m11_172 m1_21 q_Mpg_figure ⟨Nat.le_of_ble_eq_true rfl, Nat.le_of_ble_eq_true rfl⟩ hl.1 rfl (Nat.le_of_ble_eq_true rfl) d_Mpg_readNumber_58 ⟨Nat.le_of_ble_eq_true rfl, Nat.le_of_ble_eq_true rfl⟩) hw hA (fun v66 p65 H locs hp65 hw => ?_)
        obtain ⟨rfl, e67, e68, e69⟩ := hp65
        have e67 : -1 ≤ v66.toInt := e67
        have e68 : v66.toInt ≤ 15 := e68
        have e69 : 0 ≤ v66.toInt → 48 ≤ v62.toInt := e69
        have lv66 := Int32.le_toInt v66
        have uv66 := Int32.toInt_lt v66
        refine lv_if_lt (tgt := 130) S.x S.b d_Mpg_readNumber_61 (by decide) (fun c70 => ?_) (fun c70 => ?_)
        · have nc70 : v66.toInt < (0 : Int) := (i_lt (x := v66) (y := 0)).mp c70
          refine lv_aload_n S.x S.b d_Mpg_readNumber_130 rfl (lv_at hl 0 rfl) ?_
          refine lv_iload_n S.x S.b d_Mpg_readNumber_131 rfl (lv_at hl 1 rfl) ?_
          refine lv_iload_n S.x S.b d_Mpg_readNumber_132 rfl (lv_at hl 3 rfl) ?_
          refine lv_iload_n S.x S.b d_Mpg_readNumber_133 rfl (lv_at hl 1 rfl) ?_
          refine lv_isub S.x S.b d_Mpg_readNumber_134 ?_
          refine lv_topi (fun z71 ez71 => ?_)
          have tz71 : z71.toInt = (x46_3.toInt - p0.toInt + 2147483648) % 4294967296 - 2147483648 := by rw [ez71]; exact i_sub x46_3 p0
          have lz71 := Int32.le_toInt z71
          have uz71 := Int32.toInt_lt z71
          try replace tz71 : z71.toInt = x46_3.toInt - p0.toInt := by omega
          refine lv_iload S.x S.b d_Mpg_readNumber_135 (lv_at hl 4 rfl) ?_
          refine lv_iadd S.x S.b d_Mpg_readNumber_137 ?_
          refine lv_topi (fun z72 ez72 => ?_)
          have tz72 : z72.toInt = (z71.toInt + x46_4.toInt + 2147483648) % 4294967296 - 2147483648 := by rw [ez72]; exact i_add z71 x46_4
          have lz72 := Int32.le_toInt z72
          have uz72 := Int32.toInt_lt z72
          try replace tz72 : z72.toInt = z71.toInt + x46_4.toInt := by omega
          refine lv_iconst (v := 3) S.x S.b d_Mpg_readNumber_138 (by decide) ?_
          refine lv_lload S.x S.b d_Mpg_readNumber_139 (lv_at hl 5 rfl) ?_
          refine lv_l2i S.x S.b d_Mpg_readNumber_141 rfl ?_
          refine lv_topi (fun z73 ez73 => ?_)
          have lz73 := Int32.le_toInt z73
          have uz73 := Int32.toInt_lt z73
          first | refine px_callv (pr := []) (px_runV (As := [.int p0, .int z72, .int 3, .int z73]) (rest := []) S (c_mp_token l D cs h r g pf na ma wa cf ca ef ea xf xa tf ta p0 z72 3 z73  (show 0 ≤ (tf 6).toInt from g4) (show (tf 6).toInt ≤ 2059 from (oz_9dfb4af2f5 g5 g3 g1)) _) hT (pr := []) (pcs := [wdP cs h r g tf ta pf na ma wa cf ca ef ea xf xa]) hw px_X.tt (px_recv hT hw 0 0 rfl rfl rfl) m11_166 m11_163 m11_165 ms_8_3 m1_21 q_Mpg_token ⟨Nat.le_of_ble_eq_true rfl, Nat.le_of_ble_eq_true rfl⟩ hl.1 rfl (Nat.le_of_ble_eq_true rfl) d_Mpg_readNumber_142 ⟨Nat.le_of_ble_eq_true rfl, Nat.le_of_ble_eq_true rfl⟩) hw hA (fun p78 H locs hp78 hw => ?_) | refine px_callv (pr := []) (px_runV (As := [.int p0, .int z72, .int 3, .int z73]) (rest := []) S (c_mp_token l D cs h r g pf na ma wa cf ca ef ea xf xa tf ta p0 z72 3 z73  (show 0 ≤ (tf 6).toInt from by first | exact g4 | omega) (show (tf 6).toInt ≤ 2059 from by first | exact oz_9dfb4af2f5 g5 g3 g1 | omega) _) hT (pr := []) (pcs := [wdP cs h r g tf ta pf na ma wa cf ca ef ea xf xa]) hw px_X.tt (px_recv hT hw 0 0 rfl rfl rfl) m11_166 m11_163 m11_165 ms_8_3 m1_21 q_Mpg_token ⟨Nat.le_of_ble_eq_true rfl, Nat.le_of_ble_eq_true rfl⟩ hl.1 rfl (Nat.le_of_ble_eq_true rfl) d_Mpg_readNumber_142 ⟨Nat.le_of_ble_eq_true rfl, Nat.le_of_ble_eq_true rfl⟩) hw hA (fun p78 H locs hp78 hw => ?_)
          obtain ⟨tf76, ta77, rfl, e80, e81, e82⟩ := hp78
          have e80 : (tf76 6).toInt = (tf 6).toInt + 1 := e80
          have e81 : (tf76 5).toInt = (tf 5).toInt := e81
          have e82 : TkU ta ta77 (tf 6) p0 z72 (3 : Int32) z73 := e82
          refine lv_iload_n S.x S.b d_Mpg_readNumber_145 rfl (lv_at hl 2 rfl) ?_
          refine lv_if_eq (tgt := 170) S.x S.b d_Mpg_readNumber_146 (by decide) (fun c83 => ?_) (fun c83 => ?_)
          · have nc83 : x46_2.toInt = (0 : Int) := (i_eq (x := x46_2) (y := 0)).mp c83
            refine lv_iload S.x S.b d_Mpg_readNumber_170 (lv_at hl 4 rfl) ?_
            refine lv_bipush (v := 10) S.x S.b d_Mpg_readNumber_172 (by decide) ?_
            refine lv_icmp_gt (tgt := 190) S.x S.b d_Mpg_readNumber_174 (by decide) (fun c84 => ?_) (fun c84 => ?_)
            · have nc84 : (10 : Int) < x46_4.toInt := (i_lt (x := 10) (y := x46_4)).mp c84
              refine lv_iconst (v := 0) S.x S.b d_Mpg_readNumber_190 (by decide) ?_
              first | exact px_iret (v := 0) S hr rfl hlk hAe hw (Nat.le_of_ble_eq_true rfl) (Nat.le_of_ble_eq_true rfl) (⟨tf76, ta77, rfl, (show (0 : Int32) = 0 ∨ (0 : Int32) = 1 from by first | exact Or.inl rfl | exact Or.inr rfl | exact z_or (by first | with_reducible rfl | with_reducible assumption | omega)), (show (tf76 5).toInt = (tf 5).toInt from e81), (show (tf 6).toInt ≤ (tf76 6).toInt from (oz_7db54039c4 e80)), (show (tf76 6).toInt ≤ (tf 6).toInt + 1 from (oz_6ad8cf7f07 e80)), (show (0 : Int) = 1 → (tf76 6).toInt = (tf 6).toInt + 1 from by first | with_reducible rfl | with_reducible assumption | omega), (show RdK (tf 5).toInt ta77 (tf 6) (0 : Int32) p0 from (by first | exact rdk_n htp (by assumption) (by first | with_reducible rfl | with_reducible assumption | omega) (by first | with_reducible rfl | with_reducible assumption | omega) | exact rdk_0 htp (by first | with_reducible rfl | with_reducible assumption | omega)))⟩) d_Mpg_readNumber_191 | exact px_iret (v := 0) S hr rfl hlk hAe hw (Nat.le_of_ble_eq_true rfl) (Nat.le_of_ble_eq_true rfl) (⟨tf76, ta77, rfl, (show (0 : Int32) = 0 ∨ (0 : Int32) = 1 from by first | exact Or.inl rfl | exact Or.inr rfl | exact z_or (by first | with_reducible rfl | with_reducible assumption | omega)), (show (tf76 5).toInt = (tf 5).toInt from by first | exact e81 | omega), (show (tf 6).toInt ≤ (tf76 6).toInt from by first | exact oz_7db54039c4 e80 | omega), (show (tf76 6).toInt ≤ (tf 6).toInt + 1 from by first | exact oz_6ad8cf7f07 e80 | omega), (show (0 : Int) = 1 → (tf76 6).toInt = (tf 6).toInt + 1 from by first | with_reducible rfl | with_reducible assumption | omega), (show RdK (tf 5).toInt ta77 (tf 6) (0 : Int32) p0 from (by first | exact rdk_n htp (by assumption) (by first | with_reducible rfl | with_reducible assumption | omega) (by first | with_reducible rfl | with_reducible assumption | omega) | exact rdk_0 htp (by first | with_reducible rfl | with_reducible assumption | omega)))⟩) d_Mpg_readNumber_191
            · have nc84 : ¬ (10 : Int) < x46_4.toInt := mt (i_lt (x := 10) (y := x46_4)).mpr c84
              refine lv_lload S.x S.b d_Mpg_readNumber_177 (lv_at hl 5 rfl) ?_
              refine lv_ldc2 (v := 4294967296) S.x S.b S.own (S.w m11_176) d_Mpg_readNumber_179 ?_
              refine W.lcmp S.x S.b d_Mpg_readNumber_182 ?_
              refine lv_topi (fun z85 ez85 => ?_)
              have lz85 := Int32.le_toInt z85
              have uz85 := Int32.toInt_lt z85
              refine lv_if_ge (tgt := 190) S.x S.b d_Mpg_readNumber_183 (by decide) (fun c86 => ?_) (fun c86 => ?_)
              · have nc86 : (0 : Int) ≤ z85.toInt := (i_le (x := 0) (y := z85)).mp c86
                refine lv_iconst (v := 0) S.x S.b d_Mpg_readNumber_190 (by decide) ?_
                first | exact px_iret (v := 0) S hr rfl hlk hAe hw (Nat.le_of_ble_eq_true rfl) (Nat.le_of_ble_eq_true rfl) (⟨tf76, ta77, rfl, (show (0 : Int32) = 0 ∨ (0 : Int32) = 1 from by first | exact Or.inl rfl | exact Or.inr rfl | exact z_or (by first | with_reducible rfl | with_reducible assumption | omega)), (show (tf76 5).toInt = (tf 5).toInt from e81), (show (tf 6).toInt ≤ (tf76 6).toInt from (oz_7db54039c4 e80)), (show (tf76 6).toInt ≤ (tf 6).toInt + 1 from (oz_6ad8cf7f07 e80)), (show (0 : Int) = 1 → (tf76 6).toInt = (tf 6).toInt + 1 from by first | with_reducible rfl | with_reducible assumption | omega), (show RdK (tf 5).toInt ta77 (tf 6) (0 : Int32) p0 from (by first | exact rdk_n htp (by assumption) (by first | with_reducible rfl | with_reducible assumption | omega) (by first | with_reducible rfl | with_reducible assumption | omega) | exact rdk_0 htp (by first | with_reducible rfl | with_reducible assumption | omega)))⟩) d_Mpg_readNumber_191 | exact px_iret (v := 0) S hr rfl hlk hAe hw (Nat.le_of_ble_eq_true rfl) (Nat.le_of_ble_eq_true rfl) (⟨tf76, ta77, rfl, (show (0 : Int32) = 0 ∨ (0 : Int32) = 1 from by first | exact Or.inl rfl | exact Or.inr rfl | exact z_or (by first | with_reducible rfl | with_reducible assumption | omega)), (show (tf76 5).toInt = (tf 5).toInt from by first | exact e81 | omega), (show (tf 6).toInt ≤ (tf76 6).toInt from by first | exact oz_7db54039c4 e80 | omega), (show (tf76 6).toInt ≤ (tf 6).toInt + 1 from by first | exact oz_6ad8cf7f07 e80 | omega), (show (0 : Int) = 1 → (tf76 6).toInt = (tf 6).toInt + 1 from by first | with_reducible rfl | with_reducible assumption | omega), (show RdK (tf 5).toInt ta77 (tf 6) (0 : Int32) p0 from (by first | exact rdk_n htp (by assumption) (by first | with_reducible rfl | with_reducible assumption | omega) (by first | with_reducible rfl | with_reducible assumption | omega) | exact rdk_0 htp (by first | with_reducible rfl | with_reducible assumption | omega)))⟩) d_Mpg_readNumber_191
              · have nc86 : ¬ (0 : Int) ≤ z85.toInt := mt (i_le (x := 0) (y := z85)).mpr c86
                refine lv_iconst (v := 1) S.x S.b d_Mpg_readNumber_186 (by decide) ?_
                refine lv_goto (tgt := 191) S.x S.b d_Mpg_readNumber_187 (by decide) ?_
                first | exact px_iret (v := 1) S hr rfl hlk hAe hw (Nat.le_of_ble_eq_true rfl) (Nat.le_of_ble_eq_true rfl) (⟨tf76, ta77, rfl, (show (1 : Int32) = 0 ∨ (1 : Int32) = 1 from by first | exact Or.inl rfl | exact Or.inr rfl | exact z_or (by first | with_reducible rfl | with_reducible assumption | omega)), (show (tf76 5).toInt = (tf 5).toInt from e81), (show (tf 6).toInt ≤ (tf76 6).toInt from (oz_7db54039c4 e80)), (show (tf76 6).toInt ≤ (tf 6).toInt + 1 from (oz_6ad8cf7f07 e80)), (show (1 : Int) = 1 → (tf76 6).toInt = (tf 6).toInt + 1 from by first | with_reducible rfl | with_reducible assumption | omega), (show RdK (tf 5).toInt ta77 (tf 6) (1 : Int32) p0 from (rdk_y htp (by assumption) (by first | with_reducible rfl | with_reducible assumption | omega) ⟨⟨by first | with_reducible rfl | with_reducible assumption | omega, by first | with_reducible rfl | with_reducible assumption | omega⟩, ⟨by first | with_reducible rfl | with_reducible assumption | omega, by first | with_reducible rfl | with_reducible assumption | omega, by first | with_reducible rfl | with_reducible assumption | omega⟩, fun h => ⟨by first | with_reducible rfl | with_reducible assumption | omega, by first | with_reducible rfl | with_reducible assumption | omega, by first | with_reducible rfl | with_reducible assumption | omega⟩, fun h => ⟨by first | with_reducible rfl | with_reducible assumption | omega, by first | with_reducible rfl | with_reducible assumption | omega, by first | with_reducible rfl | with_reducible assumption | omega⟩, fun h => ⟨by first | with_reducible rfl | with_reducible assumption | omega, by first | with_reducible rfl | with_reducible assumption | omega, by first | with_reducible rfl | with_reducible assumption | omega⟩⟩))⟩) d_Mpg_readNumber_191 | exact px_iret (v := 1) S hr rfl hlk hAe hw (Nat.le_of_ble_eq_true rfl) (Nat.le_of_ble_eq_true rfl) (⟨tf76, ta77, rfl, (show (1 : Int32) = 0 ∨ (1 : Int32) = 1 from by first | exact Or.inl rfl | exact Or.inr rfl | exact z_or (by first | with_reducible rfl | with_reducible assumption | omega)), (show (tf76 5).toInt = (tf 5).toInt from by first | exact e81 | omega), (show (tf 6).toInt ≤ (tf76 6).toInt from by first | exact oz_7db54039c4 e80 | omega), (show (tf76 6).toInt ≤ (tf 6).toInt + 1 from by first | exact oz_6ad8cf7f07 e80 | omega), (show (1 : Int) = 1 → (tf76 6).toInt = (tf 6).toInt + 1 from by first | with_reducible rfl | with_reducible assumption | omega), (show RdK (tf 5).toInt ta77 (tf 6) (1 : Int32) p0 from (rdk_y htp (by assumption) (by first | with_reducible rfl | with_reducible assumption | omega) ⟨⟨by first | with_reducible rfl | with_reducible assumption | omega, by first | with_reducible rfl | with_reducible assumption | omega⟩, ⟨by first | with_reducible rfl | with_reducible assumption | omega, by first | with_reducible rfl | with_reducible assumption | omega, by first | with_reducible rfl | with_reducible assumption | omega⟩, fun h => ⟨by first | with_reducible rfl | with_reducible assumption | omega, by first | with_reducible rfl | with_reducible assumption | omega, by first | with_reducible rfl | with_reducible assumption | omega⟩, fun h => ⟨by first | with_reducible rfl | with_reducible assumption | omega, by first | with_reducible rfl | with_reducible assumption | omega, by first | with_reducible rfl | with_reducible assumption | omega⟩, fun h => ⟨by first | with_reducible rfl | with_reducible assumption | omega, by first | with_reducible rfl | with_reducible assumption | omega, by first | with_reducible rfl | with_reducible assumption | omega⟩⟩))⟩) d_Mpg_readNumber_191
          · have nc83 : ¬ x46_2.toInt = (0 : Int) := mt (i_eq (x := x46_2) (y := 0)).mpr c83
            refine lv_iload S.x S.b d_Mpg_readNumber_149 (lv_at hl 4 rfl) ?_
            refine lv_iconst (v := 1) S.x S.b d_Mpg_readNumber_151 (by decide) ?_
            refine lv_icmp_lt (tgt := 166) S.x S.b d_Mpg_readNumber_152 (by decide) (fun c87 => ?_) (fun c87 => ?_)
            · have nc87 : x46_4.toInt < (1 : Int) := (i_lt (x := x46_4) (y := 1)).mp c87
              refine lv_iconst (v := 0) S.x S.b d_Mpg_readNumber_166 (by decide) ?_
              refine lv_goto (tgt := 191) S.x S.b d_Mpg_readNumber_167 (by decide) ?_
              first | exact px_iret (v := 0) S hr rfl hlk hAe hw (Nat.le_of_ble_eq_true rfl) (Nat.le_of_ble_eq_true rfl) (⟨tf76, ta77, rfl, (show (0 : Int32) = 0 ∨ (0 : Int32) = 1 from by first | exact Or.inl rfl | exact Or.inr rfl | exact z_or (by first | with_reducible rfl | with_reducible assumption | omega)), (show (tf76 5).toInt = (tf 5).toInt from e81), (show (tf 6).toInt ≤ (tf76 6).toInt from (oz_7db54039c4 e80)), (show (tf76 6).toInt ≤ (tf 6).toInt + 1 from (oz_6ad8cf7f07 e80)), (show (0 : Int) = 1 → (tf76 6).toInt = (tf 6).toInt + 1 from by first | with_reducible rfl | with_reducible assumption | omega), (show RdK (tf 5).toInt ta77 (tf 6) (0 : Int32) p0 from (by first | exact rdk_n htp (by assumption) (by first | with_reducible rfl | with_reducible assumption | omega) (by first | with_reducible rfl | with_reducible assumption | omega) | exact rdk_0 htp (by first | with_reducible rfl | with_reducible assumption | omega)))⟩) d_Mpg_readNumber_191 | exact px_iret (v := 0) S hr rfl hlk hAe hw (Nat.le_of_ble_eq_true rfl) (Nat.le_of_ble_eq_true rfl) (⟨tf76, ta77, rfl, (show (0 : Int32) = 0 ∨ (0 : Int32) = 1 from by first | exact Or.inl rfl | exact Or.inr rfl | exact z_or (by first | with_reducible rfl | with_reducible assumption | omega)), (show (tf76 5).toInt = (tf 5).toInt from by first | exact e81 | omega), (show (tf 6).toInt ≤ (tf76 6).toInt from by first | exact oz_7db54039c4 e80 | omega), (show (tf76 6).toInt ≤ (tf 6).toInt + 1 from by first | exact oz_6ad8cf7f07 e80 | omega), (show (0 : Int) = 1 → (tf76 6).toInt = (tf 6).toInt + 1 from by first | with_reducible rfl | with_reducible assumption | omega), (show RdK (tf 5).toInt ta77 (tf 6) (0 : Int32) p0 from (by first | exact rdk_n htp (by assumption) (by first | with_reducible rfl | with_reducible assumption | omega) (by first | with_reducible rfl | with_reducible assumption | omega) | exact rdk_0 htp (by first | with_reducible rfl | with_reducible assumption | omega)))⟩) d_Mpg_readNumber_191
            · have nc87 : ¬ x46_4.toInt < (1 : Int) := mt (i_lt (x := x46_4) (y := 1)).mpr c87
              refine lv_iload S.x S.b d_Mpg_readNumber_155 (lv_at hl 4 rfl) ?_
              refine lv_bipush (v := 8) S.x S.b d_Mpg_readNumber_157 (by decide) ?_
              refine lv_icmp_gt (tgt := 166) S.x S.b d_Mpg_readNumber_159 (by decide) (fun c88 => ?_) (fun c88 => ?_)
              · have nc88 : (8 : Int) < x46_4.toInt := (i_lt (x := 8) (y := x46_4)).mp c88
                refine lv_iconst (v := 0) S.x S.b d_Mpg_readNumber_166 (by decide) ?_
                refine lv_goto (tgt := 191) S.x S.b d_Mpg_readNumber_167 (by decide) ?_
                first | exact px_iret (v := 0) S hr rfl hlk hAe hw (Nat.le_of_ble_eq_true rfl) (Nat.le_of_ble_eq_true rfl) (⟨tf76, ta77, rfl, (show (0 : Int32) = 0 ∨ (0 : Int32) = 1 from by first | exact Or.inl rfl | exact Or.inr rfl | exact z_or (by first | with_reducible rfl | with_reducible assumption | omega)), (show (tf76 5).toInt = (tf 5).toInt from e81), (show (tf 6).toInt ≤ (tf76 6).toInt from (oz_7db54039c4 e80)), (show (tf76 6).toInt ≤ (tf 6).toInt + 1 from (oz_6ad8cf7f07 e80)), (show (0 : Int) = 1 → (tf76 6).toInt = (tf 6).toInt + 1 from by first | with_reducible rfl | with_reducible assumption | omega), (show RdK (tf 5).toInt ta77 (tf 6) (0 : Int32) p0 from (by first | exact rdk_n htp (by assumption) (by first | with_reducible rfl | with_reducible assumption | omega) (by first | with_reducible rfl | with_reducible assumption | omega) | exact rdk_0 htp (by first | with_reducible rfl | with_reducible assumption | omega)))⟩) d_Mpg_readNumber_191 | exact px_iret (v := 0) S hr rfl hlk hAe hw (Nat.le_of_ble_eq_true rfl) (Nat.le_of_ble_eq_true rfl) (⟨tf76, ta77, rfl, (show (0 : Int32) = 0 ∨ (0 : Int32) = 1 from by first | exact Or.inl rfl | exact Or.inr rfl | exact z_or (by first | with_reducible rfl | with_reducible assumption | omega)), (show (tf76 5).toInt = (tf 5).toInt from by first | exact e81 | omega), (show (tf 6).toInt ≤ (tf76 6).toInt from by first | exact oz_7db54039c4 e80 | omega), (show (tf76 6).toInt ≤ (tf 6).toInt + 1 from by first | exact oz_6ad8cf7f07 e80 | omega), (show (0 : Int) = 1 → (tf76 6).toInt = (tf 6).toInt + 1 from by first | with_reducible rfl | with_reducible assumption | omega), (show RdK (tf 5).toInt ta77 (tf 6) (0 : Int32) p0 from (by first | exact rdk_n htp (by assumption) (by first | with_reducible rfl | with_reducible assumption | omega) (by first | with_reducible rfl | with_reducible assumption | omega) | exact rdk_0 htp (by first | with_reducible rfl | with_reducible assumption | omega)))⟩) d_Mpg_readNumber_191
              · have nc88 : ¬ (8 : Int) < x46_4.toInt := mt (i_lt (x := 8) (y := x46_4)).mpr c88
                refine lv_iconst (v := 1) S.x S.b d_Mpg_readNumber_162 (by decide) ?_
                refine lv_goto (tgt := 191) S.x S.b d_Mpg_readNumber_163 (by decide) ?_
                first | exact px_iret (v := 1) S hr rfl hlk hAe hw (Nat.le_of_ble_eq_true rfl) (Nat.le_of_ble_eq_true rfl) (⟨tf76, ta77, rfl, (show (1 : Int32) = 0 ∨ (1 : Int32) = 1 from by first | exact Or.inl rfl | exact Or.inr rfl | exact z_or (by first | with_reducible rfl | with_reducible assumption | omega)), (show (tf76 5).toInt = (tf 5).toInt from e81), (show (tf 6).toInt ≤ (tf76 6).toInt from (oz_7db54039c4 e80)), (show (tf76 6).toInt ≤ (tf 6).toInt + 1 from (oz_6ad8cf7f07 e80)), (show (1 : Int) = 1 → (tf76 6).toInt = (tf 6).toInt + 1 from by first | with_reducible rfl | with_reducible assumption | omega), (show RdK (tf 5).toInt ta77 (tf 6) (1 : Int32) p0 from (rdk_y htp (by assumption) (by first | with_reducible rfl | with_reducible assumption | omega) ⟨⟨by first | with_reducible rfl | with_reducible assumption | omega, by first | with_reducible rfl | with_reducible assumption | omega⟩, ⟨by first | with_reducible rfl | with_reducible assumption | omega, by first | with_reducible rfl | with_reducible assumption | omega, by first | with_reducible rfl | with_reducible assumption | omega⟩, fun h => ⟨by first | with_reducible rfl | with_reducible assumption | omega, by first | with_reducible rfl | with_reducible assumption | omega, by first | with_reducible rfl | with_reducible assumption | omega⟩, fun h => ⟨by first | with_reducible rfl | with_reducible assumption | omega, by first | with_reducible rfl | with_reducible assumption | omega, by first | with_reducible rfl | with_reducible assumption | omega⟩, fun h => ⟨by first | with_reducible rfl | with_reducible assumption | omega, by first | with_reducible rfl | with_reducible assumption | omega, by first | with_reducible rfl | with_reducible assumption | omega⟩⟩))⟩) d_Mpg_readNumber_191 | exact px_iret (v := 1) S hr rfl hlk hAe hw (Nat.le_of_ble_eq_true rfl) (Nat.le_of_ble_eq_true rfl) (⟨tf76, ta77, rfl, (show (1 : Int32) = 0 ∨ (1 : Int32) = 1 from by first | exact Or.inl rfl | exact Or.inr rfl | exact z_or (by first | with_reducible rfl | with_reducible assumption | omega)), (show (tf76 5).toInt = (tf 5).toInt from by first | exact e81 | omega), (show (tf 6).toInt ≤ (tf76 6).toInt from by first | exact oz_7db54039c4 e80 | omega), (show (tf76 6).toInt ≤ (tf 6).toInt + 1 from by first | exact oz_6ad8cf7f07 e80 | omega), (show (1 : Int) = 1 → (tf76 6).toInt = (tf 6).toInt + 1 from by first | with_reducible rfl | with_reducible assumption | omega), (show RdK (tf 5).toInt ta77 (tf 6) (1 : Int32) p0 from (rdk_y htp (by assumption) (by first | with_reducible rfl | with_reducible assumption | omega) ⟨⟨by first | with_reducible rfl | with_reducible assumption | omega, by first | with_reducible rfl | with_reducible assumption | omega⟩, ⟨by first | with_reducible rfl | with_reducible assumption | omega, by first | with_reducible rfl | with_reducible assumption | omega, by first | with_reducible rfl | with_reducible assumption | omega⟩, fun h => ⟨by first | with_reducible rfl | with_reducible assumption | omega, by first | with_reducible rfl | with_reducible assumption | omega, by first | with_reducible rfl | with_reducible assumption | omega⟩, fun h => ⟨by first | with_reducible rfl | with_reducible assumption | omega, by first | with_reducible rfl | with_reducible assumption | omega, by first | with_reducible rfl | with_reducible assumption | omega⟩, fun h => ⟨by first | with_reducible rfl | with_reducible assumption | omega, by first | with_reducible rfl | with_reducible assumption | omega, by first | with_reducible rfl | with_reducible assumption | omega⟩⟩))⟩) d_Mpg_readNumber_191
        · have nc70 : ¬ v66.toInt < (0 : Int) := mt (i_lt (x := v66) (y := 0)).mpr c70
          refine lv_goto (tgt := 81) S.x S.b d_Mpg_readNumber_64 (by decide) ?_
          refine lv_iload S.x S.b d_Mpg_readNumber_81 (lv_at hl 4 rfl) ?_
          refine lv_bipush (v := 12) S.x S.b d_Mpg_readNumber_83 (by decide) ?_
          refine lv_icmp_ge (tgt := 120) S.x S.b d_Mpg_readNumber_85 (by decide) (fun c89 => ?_) (fun c89 => ?_)
          · have nc89 : (12 : Int) ≤ x46_4.toInt := (i_le (x := 12) (y := x46_4)).mp c89
            refine lv_lload S.x S.b d_Mpg_readNumber_120 (lv_at hl 5 rfl) ?_
            refine lv_lstore (lv' := [(5, .long x46_5), (0, .ref h), (1, .int p0), (2, .int x46_2), (3, .int x46_3), (4, .int x46_4)]) S.x S.b d_Mpg_readNumber_122 hl (by decide) rfl (fun ls hl => ?_)
            obtain ⟨z90, ez90⟩ : ∃ y : Int32, y = x46_4 + 1 := ⟨_, rfl⟩
            have tz90 : z90.toInt = (x46_4.toInt + 1 + 2147483648) % 4294967296 - 2147483648 := by rw [ez90]; exact i_add x46_4 1
            have lz90 := Int32.le_toInt z90
            have uz90 := Int32.toInt_lt z90
            try replace tz90 : z90.toInt = x46_4.toInt + 1 := by omega
            refine lv_iinc (v := z90) (lv' := [(4, .int z90), (5, .long x46_5), (0, .ref h), (1, .int p0), (2, .int x46_2), (3, .int x46_3)]) S.x S.b d_Mpg_readNumber_124 hl (k := 5) rfl (by rw [ez90]; rfl) (by decide) rfl (fun ls hl => ?_)
            refine lv_goto (tgt := 46) S.x S.b d_Mpg_readNumber_127 (by decide) ?_
            first | exact ih46 x46_2 x46_3 z90 x46_5 _ _ ls (show 0 ≤ x46_2.toInt from k46_0) (show x46_2.toInt ≤ 1 from k46_1) (show x46_2.toInt = 1 → x46_3.toInt = p0.toInt + 2 from k46_2) (show x46_2.toInt = 0 → x46_3.toInt = p0.toInt from k46_3) (show 0 ≤ z90.toInt from (oz_f5be280463 tz90 nc89)) (show x46_3.toInt + z90.toInt ≤ (tf 5).toInt ∨ z90.toInt = 0 from by first | with_reducible rfl | with_reducible assumption | omega) (show x46_2.toInt = 1 → p0.toInt + 2 ≤ (tf 5).toInt from k46_6) (show (tf 5).toInt + 3 - x46_3.toInt - z90.toInt < (n_46 : Int) from (oz_46d5be2f80 hm tz90)) hw (lv_sub hl [2, 3, 4, 5, 0, 1] rfl) | exact ih46 x46_2 x46_3 z90 x46_5 _ _ ls (show 0 ≤ x46_2.toInt from by first | exact k46_0 | omega) (show x46_2.toInt ≤ 1 from by first | exact k46_1 | omega) (show x46_2.toInt = 1 → x46_3.toInt = p0.toInt + 2 from by first | exact k46_2 | omega) (show x46_2.toInt = 0 → x46_3.toInt = p0.toInt from by first | exact k46_3 | omega) (show 0 ≤ z90.toInt from by first | exact oz_f5be280463 tz90 nc89 | omega) (show x46_3.toInt + z90.toInt ≤ (tf 5).toInt ∨ z90.toInt = 0 from by first | with_reducible rfl | with_reducible assumption | omega) (show x46_2.toInt = 1 → p0.toInt + 2 ≤ (tf 5).toInt from by first | exact k46_6 | omega) (show (tf 5).toInt + 3 - x46_3.toInt - z90.toInt < (n_46 : Int) from by first | exact oz_46d5be2f80 hm tz90 | omega) hw (lv_sub hl [2, 3, 4, 5, 0, 1] rfl)
          · have nc89 : ¬ (12 : Int) ≤ x46_4.toInt := mt (i_le (x := 12) (y := x46_4)).mpr c89
            refine lv_lload S.x S.b d_Mpg_readNumber_88 (lv_at hl 5 rfl) ?_
            refine lv_iload_n S.x S.b d_Mpg_readNumber_90 rfl (lv_at hl 2 rfl) ?_
            refine lv_if_eq (tgt := 100) S.x S.b d_Mpg_readNumber_91 (by decide) (fun c91 => ?_) (fun c91 => ?_)
            · have nc91 : x46_2.toInt = (0 : Int) := (i_eq (x := x46_2) (y := 0)).mp c91
              refine lv_ldc2 (v := 10) S.x S.b S.own (S.w m11_175) d_Mpg_readNumber_100 ?_
              refine lv_lmul S.x S.b d_Mpg_readNumber_103 ?_
              refine lv_topl (fun z92 ez92 => ?_)
              refine lv_aload_n S.x S.b d_Mpg_readNumber_104 rfl (lv_at hl 0 rfl) ?_
              refine lv_iload_n S.x S.b d_Mpg_readNumber_105 rfl (lv_at hl 3 rfl) ?_
              refine lv_iload S.x S.b d_Mpg_readNumber_106 (lv_at hl 4 rfl) ?_
              refine lv_iadd S.x S.b d_Mpg_readNumber_108 ?_
              refine lv_topi (fun z93 ez93 => ?_)
              have tz93 : z93.toInt = (x46_3.toInt + x46_4.toInt + 2147483648) % 4294967296 - 2147483648 := by rw [ez93]; exact i_add x46_3 x46_4
              have lz93 := Int32.le_toInt z93
              have uz93 := Int32.toInt_lt z93
              try replace tz93 : z93.toInt = x46_3.toInt + x46_4.toInt := by omega
              first | refine px_calli (pr := []) (px_runV (As := [.int z93]) (rest := [.long z92]) S (c_mp_byteAt l D cs h r g tf ta pf na ma wa cf ca ef ea xf xa z93  (show 0 ≤ (tf 5).toInt from g0) (show (tf 5).toInt ≤ 2048 from g1) (show 0 ≤ z93.toInt from (oz_0e60057f66 tz93 k46_4 nc91 k46_0 k46_3 g2)) _) hT (pr := []) (pcs := [wdP cs h r g tf ta pf na ma wa cf ca ef ea xf xa]) hw px_X.tt (px_recv hT hw 0 0 rfl rfl rfl) m11_142 m11_139 m11_141 ms_7_15 m1_21 q_Mpg_byteAt ⟨Nat.le_of_ble_eq_true rfl, Nat.le_of_ble_eq_true rfl⟩ hl.1 rfl (Nat.le_of_ble_eq_true rfl) d_Mpg_readNumber_109 ⟨Nat.le_of_ble_eq_true rfl, Nat.le_of_ble_eq_true rfl⟩) hw hA (fun v95 p94 H locs hp94 hw => ?_) | refine px_calli (pr := []) (px_runV (As := [.int z93]) (rest := [.long z92]) S (c_mp_byteAt l D cs h r g tf ta pf na ma wa cf ca ef ea xf xa z93  (show 0 ≤ (tf 5).toInt from by first | exact g0 | omega) (show (tf 5).toInt ≤ 2048 from by first | exact g1 | omega) (show 0 ≤ z93.toInt from by first | exact oz_0e60057f66 tz93 k46_4 nc91 k46_0 k46_3 g2 | omega) _) hT (pr := []) (pcs := [wdP cs h r g tf ta pf na ma wa cf ca ef ea xf xa]) hw px_X.tt (px_recv hT hw 0 0 rfl rfl rfl) m11_142 m11_139 m11_141 ms_7_15 m1_21 q_Mpg_byteAt ⟨Nat.le_of_ble_eq_true rfl, Nat.le_of_ble_eq_true rfl⟩ hl.1 rfl (Nat.le_of_ble_eq_true rfl) d_Mpg_readNumber_109 ⟨Nat.le_of_ble_eq_true rfl, Nat.le_of_ble_eq_true rfl⟩) hw hA (fun v95 p94 H locs hp94 hw => ?_)
              obtain ⟨rfl, e96, e97⟩ := hp94
              have e96 : z93.toInt < (tf 5).toInt ∨ v95.toInt = -1 := e96
              have e97 : BtV ta (tf 5).toInt z93.toInt v95.toInt := e97
              have lv95 := Int32.le_toInt v95
              have uv95 := Int32.toInt_lt v95
              refine px_calli (pr := [wdP cs h r g tf ta pf na ma wa cf ca ef ea xf xa]) (px_runS (As := [.int v95]) (rest := [.long z92]) S (c_mp_figure l D cs  v95   _) hT (pr := [wdP cs h r g tf ta pf na ma wa cf ca ef ea xf xa]) (pcs := []) hw px_X.tt m11_173 m11_171 m11_172 m1_21 q_Mpg_figure ⟨Nat.le_of_ble_eq_true rfl, Nat.le_of_ble_eq_true rfl⟩ hl.1 rfl (Nat.le_of_ble_eq_true rfl) d_Mpg_readNumber_112 ⟨Nat.le_of_ble_eq_true rfl, Nat.le_of_ble_eq_true rfl⟩) hw hA (fun v99 p98 H locs hp98 hw => ?_)
              obtain ⟨rfl, e100, e101, e102⟩ := hp98
              have e100 : -1 ≤ v99.toInt := e100
              have e101 : v99.toInt ≤ 15 := e101
              have e102 : 0 ≤ v99.toInt → 48 ≤ v95.toInt := e102
              have lv99 := Int32.le_toInt v99
              have uv99 := Int32.toInt_lt v99
              refine lv_i2l S.x S.b d_Mpg_readNumber_115 rfl ?_
              refine lv_ladd S.x S.b d_Mpg_readNumber_116 ?_
              refine lv_topl (fun z103 ez103 => ?_)
              refine lv_goto (tgt := 122) S.x S.b d_Mpg_readNumber_117 (by decide) ?_
              refine lv_lstore (lv' := [(5, .long z103), (0, .ref h), (1, .int p0), (2, .int x46_2), (3, .int x46_3), (4, .int x46_4)]) S.x S.b d_Mpg_readNumber_122 hl (by decide) rfl (fun ls hl => ?_)
              obtain ⟨z104, ez104⟩ : ∃ y : Int32, y = x46_4 + 1 := ⟨_, rfl⟩
              have tz104 : z104.toInt = (x46_4.toInt + 1 + 2147483648) % 4294967296 - 2147483648 := by rw [ez104]; exact i_add x46_4 1
              have lz104 := Int32.le_toInt z104
              have uz104 := Int32.toInt_lt z104
              try replace tz104 : z104.toInt = x46_4.toInt + 1 := by omega
              refine lv_iinc (v := z104) (lv' := [(4, .int z104), (5, .long z103), (0, .ref h), (1, .int p0), (2, .int x46_2), (3, .int x46_3)]) S.x S.b d_Mpg_readNumber_124 hl (k := 5) rfl (by rw [ez104]; rfl) (by decide) rfl (fun ls hl => ?_)
              refine lv_goto (tgt := 46) S.x S.b d_Mpg_readNumber_127 (by decide) ?_
              first | exact ih46 x46_2 x46_3 z104 z103 _ _ ls (show 0 ≤ x46_2.toInt from k46_0) (show x46_2.toInt ≤ 1 from k46_1) (show x46_2.toInt = 1 → x46_3.toInt = p0.toInt + 2 from k46_2) (show x46_2.toInt = 0 → x46_3.toInt = p0.toInt from k46_3) (show 0 ≤ z104.toInt from (oz_ae613611c0 tz104 k46_4)) (show x46_3.toInt + z104.toInt ≤ (tf 5).toInt ∨ z104.toInt = 0 from by first | with_reducible rfl | with_reducible assumption | omega) (show x46_2.toInt = 1 → p0.toInt + 2 ≤ (tf 5).toInt from k46_6) (show (tf 5).toInt + 3 - x46_3.toInt - z104.toInt < (n_46 : Int) from (oz_46d5be2f80 hm tz104)) hw (lv_sub hl [2, 3, 4, 5, 0, 1] rfl) | exact ih46 x46_2 x46_3 z104 z103 _ _ ls (show 0 ≤ x46_2.toInt from by first | exact k46_0 | omega) (show x46_2.toInt ≤ 1 from by first | exact k46_1 | omega) (show x46_2.toInt = 1 → x46_3.toInt = p0.toInt + 2 from by first | exact k46_2 | omega) (show x46_2.toInt = 0 → x46_3.toInt = p0.toInt from by first | exact k46_3 | omega) (show 0 ≤ z104.toInt from by first | exact oz_ae613611c0 tz104 k46_4 | omega) (show x46_3.toInt + z104.toInt ≤ (tf 5).toInt ∨ z104.toInt = 0 from by first | with_reducible rfl | with_reducible assumption | omega) (show x46_2.toInt = 1 → p0.toInt + 2 ≤ (tf 5).toInt from by first | exact k46_6 | omega) (show (tf 5).toInt + 3 - x46_3.toInt - z104.toInt < (n_46 : Int) from by first | exact oz_46d5be2f80 hm tz104 | omega) hw (lv_sub hl [2, 3, 4, 5, 0, 1] rfl)
            · have nc91 : ¬ x46_2.toInt = (0 : Int) := mt (i_eq (x := x46_2) (y := 0)).mpr c91
              refine lv_ldc2 (v := 16) S.x S.b S.own (S.w m11_174) d_Mpg_readNumber_94 ?_
              refine lv_goto (tgt := 103) S.x S.b d_Mpg_readNumber_97 (by decide) ?_
              refine lv_lmul S.x S.b d_Mpg_readNumber_103 ?_
              refine lv_topl (fun z105 ez105 => ?_)
              refine lv_aload_n S.x S.b d_Mpg_readNumber_104 rfl (lv_at hl 0 rfl) ?_
              refine lv_iload_n S.x S.b d_Mpg_readNumber_105 rfl (lv_at hl 3 rfl) ?_
              refine lv_iload S.x S.b d_Mpg_readNumber_106 (lv_at hl 4 rfl) ?_
              refine lv_iadd S.x S.b d_Mpg_readNumber_108 ?_
              refine lv_topi (fun z106 ez106 => ?_)
              have tz106 : z106.toInt = (x46_3.toInt + x46_4.toInt + 2147483648) % 4294967296 - 2147483648 := by rw [ez106]; exact i_add x46_3 x46_4
              have lz106 := Int32.le_toInt z106
              have uz106 := Int32.toInt_lt z106
              try replace tz106 : z106.toInt = x46_3.toInt + x46_4.toInt := by omega
              first | refine px_calli (pr := []) (px_runV (As := [.int z106]) (rest := [.long z105]) S (c_mp_byteAt l D cs h r g tf ta pf na ma wa cf ca ef ea xf xa z106  (show 0 ≤ (tf 5).toInt from g0) (show (tf 5).toInt ≤ 2048 from g1) (show 0 ≤ z106.toInt from by first | with_reducible rfl | with_reducible assumption | omega) _) hT (pr := []) (pcs := [wdP cs h r g tf ta pf na ma wa cf ca ef ea xf xa]) hw px_X.tt (px_recv hT hw 0 0 rfl rfl rfl) m11_142 m11_139 m11_141 ms_7_15 m1_21 q_Mpg_byteAt ⟨Nat.le_of_ble_eq_true rfl, Nat.le_of_ble_eq_true rfl⟩ hl.1 rfl (Nat.le_of_ble_eq_true rfl) d_Mpg_readNumber_109 ⟨Nat.le_of_ble_eq_true rfl, Nat.le_of_ble_eq_true rfl⟩) hw hA (fun v108 p107 H locs hp107 hw => ?_) | refine px_calli (pr := []) (px_runV (As := [.int z106]) (rest := [.long z105]) S (c_mp_byteAt l D cs h r g tf ta pf na ma wa cf ca ef ea xf xa z106  (show 0 ≤ (tf 5).toInt from by first | exact g0 | omega) (show (tf 5).toInt ≤ 2048 from by first | exact g1 | omega) (show 0 ≤ z106.toInt from by first | with_reducible rfl | with_reducible assumption | omega) _) hT (pr := []) (pcs := [wdP cs h r g tf ta pf na ma wa cf ca ef ea xf xa]) hw px_X.tt (px_recv hT hw 0 0 rfl rfl rfl) m11_142 m11_139 m11_141 ms_7_15 m1_21 q_Mpg_byteAt ⟨Nat.le_of_ble_eq_true rfl, Nat.le_of_ble_eq_true rfl⟩ hl.1 rfl (Nat.le_of_ble_eq_true rfl) d_Mpg_readNumber_109 ⟨Nat.le_of_ble_eq_true rfl, Nat.le_of_ble_eq_true rfl⟩) hw hA (fun v108 p107 H locs hp107 hw => ?_)
              obtain ⟨rfl, e109, e110⟩ := hp107
              have e109 : z106.toInt < (tf 5).toInt ∨ v108.toInt = -1 := e109
              have e110 : BtV ta (tf 5).toInt z106.toInt v108.toInt := e110
              have lv108 := Int32.le_toInt v108
              have uv108 := Int32.toInt_lt v108
              refine px_calli (pr := [wdP cs h r g tf ta pf na ma wa cf ca ef ea xf xa]) (px_runS (As := [.int v108]) (rest := [.long z105]) S (c_mp_figure l D cs  v108   _) hT (pr := [wdP cs h r g tf ta pf na ma wa cf ca ef ea xf xa]) (pcs := []) hw px_X.tt m11_173 m11_171 m11_172 m1_21 q_Mpg_figure ⟨Nat.le_of_ble_eq_true rfl, Nat.le_of_ble_eq_true rfl⟩ hl.1 rfl (Nat.le_of_ble_eq_true rfl) d_Mpg_readNumber_112 ⟨Nat.le_of_ble_eq_true rfl, Nat.le_of_ble_eq_true rfl⟩) hw hA (fun v112 p111 H locs hp111 hw => ?_)
              obtain ⟨rfl, e113, e114, e115⟩ := hp111
              have e113 : -1 ≤ v112.toInt := e113
              have e114 : v112.toInt ≤ 15 := e114
              have e115 : 0 ≤ v112.toInt → 48 ≤ v108.toInt := e115
              have lv112 := Int32.le_toInt v112
              have uv112 := Int32.toInt_lt v112
              refine lv_i2l S.x S.b d_Mpg_readNumber_115 rfl ?_
              refine lv_ladd S.x S.b d_Mpg_readNumber_116 ?_
              refine lv_topl (fun z116 ez116 => ?_)
              refine lv_goto (tgt := 122) S.x S.b d_Mpg_readNumber_117 (by decide) ?_
              refine lv_lstore (lv' := [(5, .long z116), (0, .ref h), (1, .int p0), (2, .int x46_2), (3, .int x46_3), (4, .int x46_4)]) S.x S.b d_Mpg_readNumber_122 hl (by decide) rfl (fun ls hl => ?_)
              obtain ⟨z117, ez117⟩ : ∃ y : Int32, y = x46_4 + 1 := ⟨_, rfl⟩
              have tz117 : z117.toInt = (x46_4.toInt + 1 + 2147483648) % 4294967296 - 2147483648 := by rw [ez117]; exact i_add x46_4 1
              have lz117 := Int32.le_toInt z117
              have uz117 := Int32.toInt_lt z117
              try replace tz117 : z117.toInt = x46_4.toInt + 1 := by omega
              refine lv_iinc (v := z117) (lv' := [(4, .int z117), (5, .long z116), (0, .ref h), (1, .int p0), (2, .int x46_2), (3, .int x46_3)]) S.x S.b d_Mpg_readNumber_124 hl (k := 5) rfl (by rw [ez117]; rfl) (by decide) rfl (fun ls hl => ?_)
              refine lv_goto (tgt := 46) S.x S.b d_Mpg_readNumber_127 (by decide) ?_
              first | exact ih46 x46_2 x46_3 z117 z116 _ _ ls (show 0 ≤ x46_2.toInt from k46_0) (show x46_2.toInt ≤ 1 from k46_1) (show x46_2.toInt = 1 → x46_3.toInt = p0.toInt + 2 from k46_2) (show x46_2.toInt = 0 → x46_3.toInt = p0.toInt from k46_3) (show 0 ≤ z117.toInt from (oz_ae613611c0 tz117 k46_4)) (show x46_3.toInt + z117.toInt ≤ (tf 5).toInt ∨ z117.toInt = 0 from by first | with_reducible rfl | with_reducible assumption | omega) (show x46_2.toInt = 1 → p0.toInt + 2 ≤ (tf 5).toInt from k46_6) (show (tf 5).toInt + 3 - x46_3.toInt - z117.toInt < (n_46 : Int) from (oz_46d5be2f80 hm tz117)) hw (lv_sub hl [2, 3, 4, 5, 0, 1] rfl) | exact ih46 x46_2 x46_3 z117 z116 _ _ ls (show 0 ≤ x46_2.toInt from by first | exact k46_0 | omega) (show x46_2.toInt ≤ 1 from by first | exact k46_1 | omega) (show x46_2.toInt = 1 → x46_3.toInt = p0.toInt + 2 from by first | exact k46_2 | omega) (show x46_2.toInt = 0 → x46_3.toInt = p0.toInt from by first | exact k46_3 | omega) (show 0 ≤ z117.toInt from by first | exact oz_ae613611c0 tz117 k46_4 | omega) (show x46_3.toInt + z117.toInt ≤ (tf 5).toInt ∨ z117.toInt = 0 from by first | with_reducible rfl | with_reducible assumption | omega) (show x46_2.toInt = 1 → p0.toInt + 2 ≤ (tf 5).toInt from by first | exact k46_6 | omega) (show (tf 5).toInt + 3 - x46_3.toInt - z117.toInt < (n_46 : Int) from by first | exact oz_46d5be2f80 hm tz117 | omega) hw (lv_sub hl [2, 3, 4, 5, 0, 1] rfl)
  refine lv_aload_n S.x S.b d_Mpg_readNumber_0 rfl (lv_at hl 0 rfl) ?_
  refine lv_iload_n S.x S.b d_Mpg_readNumber_1 rfl (lv_at hl 1 rfl) ?_
  first | refine px_calli (pr := []) (px_runV (As := [.int p0]) (rest := []) S (c_mp_byteAt l D cs h r g tf ta pf na ma wa cf ca ef ea xf xa p0  (show 0 ≤ (tf 5).toInt from g0) (show (tf 5).toInt ≤ 2048 from g1) (show 0 ≤ p0.toInt from g2) _) hT (pr := []) (pcs := [wdP cs h r g tf ta pf na ma wa cf ca ef ea xf xa]) hw px_X.tt (px_recv hT hw 0 0 rfl rfl rfl) m11_142 m11_139 m11_141 ms_7_15 m1_21 q_Mpg_byteAt ⟨Nat.le_of_ble_eq_true rfl, Nat.le_of_ble_eq_true rfl⟩ hl.1 rfl (Nat.le_of_ble_eq_true rfl) d_Mpg_readNumber_2 ⟨Nat.le_of_ble_eq_true rfl, Nat.le_of_ble_eq_true rfl⟩) hw hA (fun v119 p118 H locs hp118 hw => ?_) | refine px_calli (pr := []) (px_runV (As := [.int p0]) (rest := []) S (c_mp_byteAt l D cs h r g tf ta pf na ma wa cf ca ef ea xf xa p0  (show 0 ≤ (tf 5).toInt from by first | exact g0 | omega) (show (tf 5).toInt ≤ 2048 from by first | exact g1 | omega) (show 0 ≤ p0.toInt from by first | exact g2 | omega) _) hT (pr := []) (pcs := [wdP cs h r g tf ta pf na ma wa cf ca ef ea xf xa]) hw px_X.tt (px_recv hT hw 0 0 rfl rfl rfl) m11_142 m11_139 m11_141 ms_7_15 m1_21 q_Mpg_byteAt ⟨Nat.le_of_ble_eq_true rfl, Nat.le_of_ble_eq_true rfl⟩ hl.1 rfl (Nat.le_of_ble_eq_true rfl) d_Mpg_readNumber_2 ⟨Nat.le_of_ble_eq_true rfl, Nat.le_of_ble_eq_true rfl⟩) hw hA (fun v119 p118 H locs hp118 hw => ?_)
  obtain ⟨rfl, e120, e121⟩ := hp118
  have e120 : p0.toInt < (tf 5).toInt ∨ v119.toInt = -1 := e120
  have e121 : BtV ta (tf 5).toInt p0.toInt v119.toInt := e121
  have lv119 := Int32.le_toInt v119
  have uv119 := Int32.toInt_lt v119
  refine lv_bipush (v := 48) S.x S.b d_Mpg_readNumber_5 (by decide) ?_
  refine lv_icmp_ne (tgt := 26) S.x S.b d_Mpg_readNumber_7 (by decide) (fun c122 => ?_) (fun c122 => ?_)
  · have nc122 : ¬ v119.toInt = (48 : Int) := mt (i_eq (x := v119) (y := 48)).mpr c122
    refine lv_iconst (v := 0) S.x S.b d_Mpg_readNumber_26 (by decide) ?_
    refine lv_istore_n (lv' := [(2, .int 0), (0, .ref h), (1, .int p0)]) S.x S.b d_Mpg_readNumber_27 rfl hl (by decide) rfl (fun ls hl => ?_)
    refine lv_iload_n S.x S.b d_Mpg_readNumber_28 rfl (lv_at hl 0 rfl) ?_
    refine lv_if_eq (tgt := 38) S.x S.b d_Mpg_readNumber_29 (by decide) (fun c123 => ?_) (fun c123 => ?_)
    ·
      refine lv_iload_n S.x S.b d_Mpg_readNumber_38 rfl (lv_at hl 2 rfl) ?_
      refine lv_istore_n (lv' := [(3, .int p0), (2, .int 0), (0, .ref h), (1, .int p0)]) S.x S.b d_Mpg_readNumber_39 rfl hl (by decide) rfl (fun ls hl => ?_)
      refine lv_iconst (v := 0) S.x S.b d_Mpg_readNumber_40 (by decide) ?_
      refine lv_istore (lv' := [(4, .int 0), (3, .int p0), (2, .int 0), (0, .ref h), (1, .int p0)]) S.x S.b d_Mpg_readNumber_41 hl (by decide) rfl (fun ls hl => ?_)
      refine lv_lconst (v := 0) S.x S.b d_Mpg_readNumber_43 (by decide) ?_
      refine lv_lstore (lv' := [(5, .long 0), (4, .int 0), (3, .int p0), (2, .int 0), (0, .ref h), (1, .int p0)]) S.x S.b d_Mpg_readNumber_44 hl (by decide) rfl (fun ls hl => ?_)
      first | exact J46 (((tf 5).toInt + 3 - p0.toInt - (0 : Int)).toNat + 1) (0 : Int32) p0 (0 : Int32) 0 _ _ ls (show 0 ≤ (0 : Int) from by first | decide | omega) (show (0 : Int) ≤ 1 from by first | decide | omega) (show (0 : Int) = 1 → p0.toInt = p0.toInt + 2 from by first | with_reducible rfl | with_reducible assumption | omega) (show (0 : Int) = 0 → p0.toInt = p0.toInt from by first | with_reducible rfl | with_reducible assumption | omega) (show 0 ≤ (0 : Int) from by first | decide | omega) (show p0.toInt + (0 : Int) ≤ (tf 5).toInt ∨ (0 : Int) = 0 from by first | with_reducible rfl | with_reducible assumption | omega) (show (0 : Int) = 1 → p0.toInt + 2 ≤ (tf 5).toInt from by first | with_reducible rfl | with_reducible assumption | omega) (show (tf 5).toInt + 3 - p0.toInt - (0 : Int) < (((((tf 5).toInt + 3 - p0.toInt - (0 : Int)).toNat + 1 : Nat) : Int) : Int) from oz_natlt) hw (lv_sub hl [4, 5, 3, 2, 1, 0] rfl) | exact J46 (((tf 5).toInt + 3 - p0.toInt - (0 : Int)).toNat + 1) (0 : Int32) p0 (0 : Int32) 0 _ _ ls (show 0 ≤ (0 : Int) from by first | decide | omega) (show (0 : Int) ≤ 1 from by first | decide | omega) (show (0 : Int) = 1 → p0.toInt = p0.toInt + 2 from by first | with_reducible rfl | with_reducible assumption | omega) (show (0 : Int) = 0 → p0.toInt = p0.toInt from by first | with_reducible rfl | with_reducible assumption | omega) (show 0 ≤ (0 : Int) from by first | decide | omega) (show p0.toInt + (0 : Int) ≤ (tf 5).toInt ∨ (0 : Int) = 0 from by first | with_reducible rfl | with_reducible assumption | omega) (show (0 : Int) = 1 → p0.toInt + 2 ≤ (tf 5).toInt from by first | with_reducible rfl | with_reducible assumption | omega) (show (tf 5).toInt + 3 - p0.toInt - (0 : Int) < (((((tf 5).toInt + 3 - p0.toInt - (0 : Int)).toNat + 1 : Nat) : Int) : Int) from by first | exact oz_natlt | omega) hw (lv_sub hl [4, 5, 3, 2, 1, 0] rfl)
    · exact absurd c123 (by decide)
  · have nc122 : v119.toInt = (48 : Int) := (i_eq (x := v119) (y := 48)).mp c122
    refine lv_aload_n S.x S.b d_Mpg_readNumber_10 rfl (lv_at hl 0 rfl) ?_
    refine lv_iload_n S.x S.b d_Mpg_readNumber_11 rfl (lv_at hl 1 rfl) ?_
    refine lv_iconst (v := 1) S.x S.b d_Mpg_readNumber_12 (by decide) ?_
    refine lv_iadd S.x S.b d_Mpg_readNumber_13 ?_
    refine lv_topi (fun z124 ez124 => ?_)
    have tz124 : z124.toInt = (p0.toInt + (1 : Int) + 2147483648) % 4294967296 - 2147483648 := by rw [ez124]; exact i_add p0 1
    have lz124 := Int32.le_toInt z124
    have uz124 := Int32.toInt_lt z124
    try replace tz124 : z124.toInt = p0.toInt + (1 : Int) := by omega
    first | refine px_calli (pr := []) (px_runV (As := [.int z124]) (rest := []) S (c_mp_byteAt l D cs h r g tf ta pf na ma wa cf ca ef ea xf xa z124  (show 0 ≤ (tf 5).toInt from g0) (show (tf 5).toInt ≤ 2048 from g1) (show 0 ≤ z124.toInt from (oz_b3b25f0e49 tz124 g2)) _) hT (pr := []) (pcs := [wdP cs h r g tf ta pf na ma wa cf ca ef ea xf xa]) hw px_X.tt (px_recv hT hw 0 0 rfl rfl rfl) m11_142 m11_139 m11_141 ms_7_15 m1_21 q_Mpg_byteAt ⟨Nat.le_of_ble_eq_true rfl, Nat.le_of_ble_eq_true rfl⟩ hl.1 rfl (Nat.le_of_ble_eq_true rfl) d_Mpg_readNumber_14 ⟨Nat.le_of_ble_eq_true rfl, Nat.le_of_ble_eq_true rfl⟩) hw hA (fun v126 p125 H locs hp125 hw => ?_) | refine px_calli (pr := []) (px_runV (As := [.int z124]) (rest := []) S (c_mp_byteAt l D cs h r g tf ta pf na ma wa cf ca ef ea xf xa z124  (show 0 ≤ (tf 5).toInt from by first | exact g0 | omega) (show (tf 5).toInt ≤ 2048 from by first | exact g1 | omega) (show 0 ≤ z124.toInt from by first | exact oz_b3b25f0e49 tz124 g2 | omega) _) hT (pr := []) (pcs := [wdP cs h r g tf ta pf na ma wa cf ca ef ea xf xa]) hw px_X.tt (px_recv hT hw 0 0 rfl rfl rfl) m11_142 m11_139 m11_141 ms_7_15 m1_21 q_Mpg_byteAt ⟨Nat.le_of_ble_eq_true rfl, Nat.le_of_ble_eq_true rfl⟩ hl.1 rfl (Nat.le_of_ble_eq_true rfl) d_Mpg_readNumber_14 ⟨Nat.le_of_ble_eq_true rfl, Nat.le_of_ble_eq_true rfl⟩) hw hA (fun v126 p125 H locs hp125 hw => ?_)
    obtain ⟨rfl, e127, e128⟩ := hp125
    have e127 : z124.toInt < (tf 5).toInt ∨ v126.toInt = -1 := e127
    have e128 : BtV ta (tf 5).toInt z124.toInt v126.toInt := e128
    have lv126 := Int32.le_toInt v126
    have uv126 := Int32.toInt_lt v126
    refine lv_bipush (v := 120) S.x S.b d_Mpg_readNumber_17 (by decide) ?_
    refine lv_icmp_ne (tgt := 26) S.x S.b d_Mpg_readNumber_19 (by decide) (fun c129 => ?_) (fun c129 => ?_)
    · have nc129 : ¬ v126.toInt = (120 : Int) := mt (i_eq (x := v126) (y := 120)).mpr c129
      refine lv_iconst (v := 0) S.x S.b d_Mpg_readNumber_26 (by decide) ?_
      refine lv_istore_n (lv' := [(2, .int 0), (0, .ref h), (1, .int p0)]) S.x S.b d_Mpg_readNumber_27 rfl hl (by decide) rfl (fun ls hl => ?_)
      refine lv_iload_n S.x S.b d_Mpg_readNumber_28 rfl (lv_at hl 0 rfl) ?_
      refine lv_if_eq (tgt := 38) S.x S.b d_Mpg_readNumber_29 (by decide) (fun c130 => ?_) (fun c130 => ?_)
      ·
        refine lv_iload_n S.x S.b d_Mpg_readNumber_38 rfl (lv_at hl 2 rfl) ?_
        refine lv_istore_n (lv' := [(3, .int p0), (2, .int 0), (0, .ref h), (1, .int p0)]) S.x S.b d_Mpg_readNumber_39 rfl hl (by decide) rfl (fun ls hl => ?_)
        refine lv_iconst (v := 0) S.x S.b d_Mpg_readNumber_40 (by decide) ?_
        refine lv_istore (lv' := [(4, .int 0), (3, .int p0), (2, .int 0), (0, .ref h), (1, .int p0)]) S.x S.b d_Mpg_readNumber_41 hl (by decide) rfl (fun ls hl => ?_)
        refine lv_lconst (v := 0) S.x S.b d_Mpg_readNumber_43 (by decide) ?_
        refine lv_lstore (lv' := [(5, .long 0), (4, .int 0), (3, .int p0), (2, .int 0), (0, .ref h), (1, .int p0)]) S.x S.b d_Mpg_readNumber_44 hl (by decide) rfl (fun ls hl => ?_)
        first | exact J46 (((tf 5).toInt + 3 - p0.toInt - (0 : Int)).toNat + 1) (0 : Int32) p0 (0 : Int32) 0 _ _ ls (show 0 ≤ (0 : Int) from by first | decide | omega) (show (0 : Int) ≤ 1 from by first | decide | omega) (show (0 : Int) = 1 → p0.toInt = p0.toInt + 2 from by first | with_reducible rfl | with_reducible assumption | omega) (show (0 : Int) = 0 → p0.toInt = p0.toInt from by first | with_reducible rfl | with_reducible assumption | omega) (show 0 ≤ (0 : Int) from by first | decide | omega) (show p0.toInt + (0 : Int) ≤ (tf 5).toInt ∨ (0 : Int) = 0 from by first | with_reducible rfl | with_reducible assumption | omega) (show (0 : Int) = 1 → p0.toInt + 2 ≤ (tf 5).toInt from by first | with_reducible rfl | with_reducible assumption | omega) (show (tf 5).toInt + 3 - p0.toInt - (0 : Int) < (((((tf 5).toInt + 3 - p0.toInt - (0 : Int)).toNat + 1 : Nat) : Int) : Int) from oz_natlt) hw (lv_sub hl [4, 5, 3, 2, 1, 0] rfl) | exact J46 (((tf 5).toInt + 3 - p0.toInt - (0 : Int)).toNat + 1) (0 : Int32) p0 (0 : Int32) 0 _ _ ls (show 0 ≤ (0 : Int) from by first | decide | omega) (show (0 : Int) ≤ 1 from by first | decide | omega) (show (0 : Int) = 1 → p0.toInt = p0.toInt + 2 from by first | with_reducible rfl | with_reducible assumption | omega) (show (0 : Int) = 0 → p0.toInt = p0.toInt from by first | with_reducible rfl | with_reducible assumption | omega) (show 0 ≤ (0 : Int) from by first | decide | omega) (show p0.toInt + (0 : Int) ≤ (tf 5).toInt ∨ (0 : Int) = 0 from by first | with_reducible rfl | with_reducible assumption | omega) (show (0 : Int) = 1 → p0.toInt + 2 ≤ (tf 5).toInt from by first | with_reducible rfl | with_reducible assumption | omega) (show (tf 5).toInt + 3 - p0.toInt - (0 : Int) < (((((tf 5).toInt + 3 - p0.toInt - (0 : Int)).toNat + 1 : Nat) : Int) : Int) from by first | exact oz_natlt | omega) hw (lv_sub hl [4, 5, 3, 2, 1, 0] rfl)
      · exact absurd c130 (by decide)
    · have nc129 : v126.toInt = (120 : Int) := (i_eq (x := v126) (y := 120)).mp c129
      refine lv_iconst (v := 1) S.x S.b d_Mpg_readNumber_22 (by decide) ?_
      refine lv_goto (tgt := 27) S.x S.b d_Mpg_readNumber_23 (by decide) ?_
      refine lv_istore_n (lv' := [(2, .int 1), (0, .ref h), (1, .int p0)]) S.x S.b d_Mpg_readNumber_27 rfl hl (by decide) rfl (fun ls hl => ?_)
      refine lv_iload_n S.x S.b d_Mpg_readNumber_28 rfl (lv_at hl 0 rfl) ?_
      refine lv_if_eq (tgt := 38) S.x S.b d_Mpg_readNumber_29 (by decide) (fun c131 => ?_) (fun c131 => ?_)
      · exact absurd c131 (by decide)
      ·
        refine lv_iload_n S.x S.b d_Mpg_readNumber_32 rfl (lv_at hl 2 rfl) ?_
        refine lv_iconst (v := 2) S.x S.b d_Mpg_readNumber_33 (by decide) ?_
        refine lv_iadd S.x S.b d_Mpg_readNumber_34 ?_
        refine lv_topi (fun z132 ez132 => ?_)
        have tz132 : z132.toInt = (p0.toInt + (2 : Int) + 2147483648) % 4294967296 - 2147483648 := by rw [ez132]; exact i_add p0 2
        have lz132 := Int32.le_toInt z132
        have uz132 := Int32.toInt_lt z132
        try replace tz132 : z132.toInt = p0.toInt + (2 : Int) := by omega
        refine lv_goto (tgt := 39) S.x S.b d_Mpg_readNumber_35 (by decide) ?_
        refine lv_istore_n (lv' := [(3, .int z132), (2, .int 1), (0, .ref h), (1, .int p0)]) S.x S.b d_Mpg_readNumber_39 rfl hl (by decide) rfl (fun ls hl => ?_)
        refine lv_iconst (v := 0) S.x S.b d_Mpg_readNumber_40 (by decide) ?_
        refine lv_istore (lv' := [(4, .int 0), (3, .int z132), (2, .int 1), (0, .ref h), (1, .int p0)]) S.x S.b d_Mpg_readNumber_41 hl (by decide) rfl (fun ls hl => ?_)
        refine lv_lconst (v := 0) S.x S.b d_Mpg_readNumber_43 (by decide) ?_
        refine lv_lstore (lv' := [(5, .long 0), (4, .int 0), (3, .int z132), (2, .int 1), (0, .ref h), (1, .int p0)]) S.x S.b d_Mpg_readNumber_44 hl (by decide) rfl (fun ls hl => ?_)
        first | exact J46 (((tf 5).toInt + 3 - z132.toInt - (0 : Int)).toNat + 1) (1 : Int32) z132 (0 : Int32) 0 _ _ ls (show 0 ≤ (1 : Int) from by first | decide | omega) (show (1 : Int) ≤ 1 from by first | decide | omega) (show (1 : Int) = 1 → z132.toInt = p0.toInt + 2 from by first | with_reducible rfl | with_reducible assumption | omega) (show (1 : Int) = 0 → z132.toInt = p0.toInt from by first | with_reducible rfl | with_reducible assumption | omega) (show 0 ≤ (0 : Int) from by first | decide | omega) (show z132.toInt + (0 : Int) ≤ (tf 5).toInt ∨ (0 : Int) = 0 from by first | with_reducible rfl | with_reducible assumption | omega) (show (1 : Int) = 1 → p0.toInt + 2 ≤ (tf 5).toInt from by first | with_reducible rfl | with_reducible assumption | omega) (show (tf 5).toInt + 3 - z132.toInt - (0 : Int) < (((((tf 5).toInt + 3 - z132.toInt - (0 : Int)).toNat + 1 : Nat) : Int) : Int) from oz_natlt) hw (lv_sub hl [4, 5, 3, 2, 1, 0] rfl) | exact J46 (((tf 5).toInt + 3 - z132.toInt - (0 : Int)).toNat + 1) (1 : Int32) z132 (0 : Int32) 0 _ _ ls (show 0 ≤ (1 : Int) from by first | decide | omega) (show (1 : Int) ≤ 1 from by first | decide | omega) (show (1 : Int) = 1 → z132.toInt = p0.toInt + 2 from by first | with_reducible rfl | with_reducible assumption | omega) (show (1 : Int) = 0 → z132.toInt = p0.toInt from by first | with_reducible rfl | with_reducible assumption | omega) (show 0 ≤ (0 : Int) from by first | decide | omega) (show z132.toInt + (0 : Int) ≤ (tf 5).toInt ∨ (0 : Int) = 0 from by first | with_reducible rfl | with_reducible assumption | omega) (show (1 : Int) = 1 → p0.toInt + 2 ≤ (tf 5).toInt from by first | with_reducible rfl | with_reducible assumption | omega) (show (tf 5).toInt + 3 - z132.toInt - (0 : Int) < (((((tf 5).toInt + 3 - z132.toInt - (0 : Int)).toNat + 1 : Nat) : Int) : Int) from by first | exact oz_natlt | omega) hw (lv_sub hl [4, 5, 3, 2, 1, 0] rfl)
abbrev b_Mpg_readString : ByteArray := prog_16_method_13_code
def y_Mpg_readString : MethodName := ⟨"HomeSystemModel$Program", "readString", "(I)Z"⟩
theorem d_Mpg_readString_0 : decode b_Mpg_readString 0 = .ok (.iload_n 1, 1) := by decide +kernel
theorem d_Mpg_readString_1 : decode b_Mpg_readString 1 = .ok (.iconst 1, 1) := by decide +kernel
theorem d_Mpg_readString_2 : decode b_Mpg_readString 2 = .ok (.iadd, 1) := by decide +kernel
theorem d_Mpg_readString_3 : decode b_Mpg_readString 3 = .ok (.istore_n 2, 1) := by decide +kernel
theorem d_Mpg_readString_4 : decode b_Mpg_readString 4 = .ok (.iconst 0, 1) := by decide +kernel
theorem d_Mpg_readString_5 : decode b_Mpg_readString 5 = .ok (.istore_n 3, 1) := by decide +kernel
theorem d_Mpg_readString_6 : decode b_Mpg_readString 6 = .ok (.aload_n 0, 1) := by decide +kernel
theorem d_Mpg_readString_7 : decode b_Mpg_readString 7 = .ok (.iload_n 2, 1) := by decide +kernel
theorem d_Mpg_readString_8 : decode b_Mpg_readString 8 = .ok (.bipush 34, 2) := by decide +kernel
theorem d_Mpg_readString_10 : decode b_Mpg_readString 10 = .ok (.invokevirtual 332, 3) := by decide +kernel
theorem d_Mpg_readString_13 : decode b_Mpg_readString 13 = .ok (.istore 4, 2) := by decide +kernel
theorem d_Mpg_readString_15 : decode b_Mpg_readString 15 = .ok (.iload 4, 2) := by decide +kernel
theorem d_Mpg_readString_17 : decode b_Mpg_readString 17 = .ok (.ifCond .lt 34, 3) := by decide +kernel
theorem d_Mpg_readString_20 : decode b_Mpg_readString 20 = .ok (.iload_n 2, 1) := by decide +kernel
theorem d_Mpg_readString_21 : decode b_Mpg_readString 21 = .ok (.iload 4, 2) := by decide +kernel
theorem d_Mpg_readString_23 : decode b_Mpg_readString 23 = .ok (.sipush 1000, 3) := by decide +kernel
theorem d_Mpg_readString_26 : decode b_Mpg_readString 26 = .ok (.if_icmp .ge 7, 3) := by decide +kernel
theorem d_Mpg_readString_29 : decode b_Mpg_readString 29 = .ok (.iconst 1, 1) := by decide +kernel
theorem d_Mpg_readString_30 : decode b_Mpg_readString 30 = .ok (.goto 4, 3) := by decide +kernel
theorem d_Mpg_readString_33 : decode b_Mpg_readString 33 = .ok (.iconst 2, 1) := by decide +kernel
theorem d_Mpg_readString_34 : decode b_Mpg_readString 34 = .ok (.iadd, 1) := by decide +kernel
theorem d_Mpg_readString_35 : decode b_Mpg_readString 35 = .ok (.istore_n 2, 1) := by decide +kernel
theorem d_Mpg_readString_36 : decode b_Mpg_readString 36 = .ok (.iinc 3 1, 3) := by decide +kernel
theorem d_Mpg_readString_39 : decode b_Mpg_readString 39 = .ok (.aload_n 0, 1) := by decide +kernel
theorem d_Mpg_readString_40 : decode b_Mpg_readString 40 = .ok (.iload_n 2, 1) := by decide +kernel
theorem d_Mpg_readString_41 : decode b_Mpg_readString 41 = .ok (.bipush 34, 2) := by decide +kernel
theorem d_Mpg_readString_43 : decode b_Mpg_readString 43 = .ok (.invokevirtual 332, 3) := by decide +kernel
theorem d_Mpg_readString_46 : decode b_Mpg_readString 46 = .ok (.istore 4, 2) := by decide +kernel
theorem d_Mpg_readString_48 : decode b_Mpg_readString 48 = .ok (.goto (-33), 3) := by decide +kernel
theorem d_Mpg_readString_51 : decode b_Mpg_readString 51 = .ok (.aload_n 0, 1) := by decide +kernel
theorem d_Mpg_readString_52 : decode b_Mpg_readString 52 = .ok (.iload_n 1, 1) := by decide +kernel
theorem d_Mpg_readString_53 : decode b_Mpg_readString 53 = .ok (.iload_n 2, 1) := by decide +kernel
theorem d_Mpg_readString_54 : decode b_Mpg_readString 54 = .ok (.iconst 1, 1) := by decide +kernel
theorem d_Mpg_readString_55 : decode b_Mpg_readString 55 = .ok (.iadd, 1) := by decide +kernel
theorem d_Mpg_readString_56 : decode b_Mpg_readString 56 = .ok (.iload_n 1, 1) := by decide +kernel
theorem d_Mpg_readString_57 : decode b_Mpg_readString 57 = .ok (.isub, 1) := by decide +kernel
theorem d_Mpg_readString_58 : decode b_Mpg_readString 58 = .ok (.iconst 4, 1) := by decide +kernel
theorem d_Mpg_readString_59 : decode b_Mpg_readString 59 = .ok (.iload_n 3, 1) := by decide +kernel
theorem d_Mpg_readString_60 : decode b_Mpg_readString 60 = .ok (.invokevirtual 325, 3) := by decide +kernel
theorem d_Mpg_readString_63 : decode b_Mpg_readString 63 = .ok (.aload_n 0, 1) := by decide +kernel
theorem d_Mpg_readString_64 : decode b_Mpg_readString 64 = .ok (.iload_n 2, 1) := by decide +kernel
theorem d_Mpg_readString_65 : decode b_Mpg_readString 65 = .ok (.invokevirtual 300, 3) := by decide +kernel
theorem d_Mpg_readString_68 : decode b_Mpg_readString 68 = .ok (.bipush 34, 2) := by decide +kernel
theorem d_Mpg_readString_70 : decode b_Mpg_readString 70 = .ok (.if_icmp .ne 14, 3) := by decide +kernel
theorem d_Mpg_readString_73 : decode b_Mpg_readString 73 = .ok (.iload_n 3, 1) := by decide +kernel
theorem d_Mpg_readString_74 : decode b_Mpg_readString 74 = .ok (.sipush 200, 3) := by decide +kernel
theorem d_Mpg_readString_77 : decode b_Mpg_readString 77 = .ok (.if_icmp .gt 7, 3) := by decide +kernel
theorem d_Mpg_readString_80 : decode b_Mpg_readString 80 = .ok (.iconst 1, 1) := by decide +kernel
theorem d_Mpg_readString_81 : decode b_Mpg_readString 81 = .ok (.goto 4, 3) := by decide +kernel
theorem d_Mpg_readString_84 : decode b_Mpg_readString 84 = .ok (.iconst 0, 1) := by decide +kernel
theorem d_Mpg_readString_85 : decode b_Mpg_readString 85 = .ok (.ireturn, 1) := by decide +kernel
theorem q_Mpg_readString : px_y y_Mpg_readString 1 := by unfold px_y; decide +kernel
set_option maxHeartbeats 4000000 in
set_option maxRecDepth 100000 in
theorem c_mp_readString (l : Launch) (D : va_G) (cs : Nat → ClassId) (h : Nat) (r : Nat → Nat) (g : Nat → Nat → Option Nat) (pf : Nat → Int32) (na : Nat → Nat → Int32) (ma : Nat → Nat → Int32) (wa : Nat → Nat → Int32) (cf : Nat → Int32) (ca : Nat → Nat → Int32) (ef : Nat → Int32) (ea : Nat → Nat → Int32) (xf : Nat → Int32) (xa : Nat → Nat → Int32) (tf : Nat → Int32) (ta : Nat → Nat → Int32) (p0 : Int32)  (g0 : 0 ≤ (tf 5).toInt) (g1 : (tf 5).toInt ≤ 2048) (g2 : 0 ≤ p0.toInt) (g3 : p0.toInt < (tf 5).toInt) (g4 : 0 ≤ (tf 6).toInt) (g5 : (tf 6).toInt ≤ p0.toInt) (htp : TkP (tf 5).toInt ta (tf 6).toInt p0.toInt) : MetI l y_Mpg_readString b_Mpg_readString 5 (.boolean) D cs 2 70 (0) (0) [.ref h, .int p0] [wdP cs h r g tf ta pf na ma wa cf ca ef ea xf xa] (fun _ => True) (fun v ps => ∃ (tf' : Nat → Int32) (ta' : Nat → Nat → Int32), (ps = [wdP cs h r g tf' ta' pf na ma wa cf ca ef ea xf xa]) ∧ (v = 0 ∨ v = 1) ∧ ((tf' 5).toInt = (tf 5).toInt) ∧ ((tf 6).toInt ≤ (tf' 6).toInt) ∧ ((tf' 6).toInt ≤ (tf 6).toInt + 1) ∧ (v.toInt = 1 → (tf' 6).toInt = (tf 6).toInt + 1) ∧ (RdK (tf 5).toInt ta' (tf 6) v p0)) := by
  refine px_enter (by decide) (Nat.le_of_ble_eq_true rfl) ?_
  intro p e s m below meth c A ls hAe S hr hlk hnm hA hT hX hw hl
  have hl : lv_has ls 5 [(0, .ref h), (1, .int p0)] := hl
  have lp0 := Int32.le_toInt p0
  have up0 := Int32.toInt_lt p0
  have cst0 : (0 : Int32).toInt = 0 := rfl
  have cst1 : (1 : Int32).toInt = 1 := rfl
  have cst2 : (2 : Int32).toInt = 2 := rfl
  have cst4 : (4 : Int32).toInt = 4 := rfl
  have cst34 : (34 : Int32).toInt = 34 := rfl
  have cst200 : (200 : Int32).toInt = 200 := rfl
  have cst1000 : (1000 : Int32).toInt = 1000 := rfl
  have J15 : ∀ (n_15 : Nat)  (x15_2 x15_3 x15_4 : Int32) (H : Heap) (locs : List Loc) (ls : Array Slot), (p0.toInt + 1 ≤ x15_2.toInt) → (x15_2.toInt ≤ (tf 5).toInt+1) → (0 ≤ x15_3.toInt) → (p0.toInt + 1 + x15_3.toInt ≤ x15_2.toInt) → (0 ≤ x15_4.toInt → x15_2.toInt < (tf 5).toInt) → (1000 ≤ x15_4.toInt → x15_2.toInt + 1 < (tf 5).toInt) → (tf 5).toInt+2-x15_2.toInt < (n_15 : Int) → pw D A s.heap H locs [wdP cs h r g tf ta pf na ma wa cf ca ef ea xf xa] → lv_has ls 5 [(0, .ref h), (1, .int p0), (2, .int x15_2), (3, .int x15_3), (4, .int x15_4)] → W p l e { frames := 2, cells := 0, slots := 0, locals := 70 } s m [.ref h, .int p0].toArray below meth c H locs 0 0 (MQ below (va_Qi (fun v ps => ∃ (tf' : Nat → Int32) (ta' : Nat → Nat → Int32), (ps = [wdP cs h r g tf' ta' pf na ma wa cf ca ef ea xf xa]) ∧ (v = 0 ∨ v = 1) ∧ ((tf' 5).toInt = (tf 5).toInt) ∧ ((tf 6).toInt ≤ (tf' 6).toInt) ∧ ((tf' 6).toInt ≤ (tf 6).toInt + 1) ∧ (v.toInt = 1 → (tf' 6).toInt = (tf 6).toInt + 1) ∧ (RdK (tf 5).toInt ta' (tf 6) v p0)) (pc_B D (va_A ([wdP cs h r g tf ta pf na ma wa cf ca ef ea xf xa] : List va_W).flatten s.heap.size)) (va_A ([wdP cs h r g tf ta pf na ma wa cf ca ef ea xf xa] : List va_W).flatten s.heap.size)) [.ref h, .int p0].toArray s 0 0 A) (F0 m 15 ls []) := by
    intro  n_15
    induction n_15 with
    | zero =>
      intro x15_2 x15_3 x15_4 H locs ls k15_0 k15_1 k15_2 k15_3 k15_4 k15_5 hm hw hl
      have lx15_2 := Int32.le_toInt x15_2
      have ux15_2 := Int32.toInt_lt x15_2
      have lx15_3 := Int32.le_toInt x15_3
      have ux15_3 := Int32.toInt_lt x15_3
      have lx15_4 := Int32.le_toInt x15_4
      have ux15_4 := Int32.toInt_lt x15_4
      exact absurd hm (by first | with_reducible rfl | with_reducible assumption | omega)
    | succ n_15 ih15 =>
      intro x15_2 x15_3 x15_4 H locs ls k15_0 k15_1 k15_2 k15_3 k15_4 k15_5 hm hw hl
      have lx15_2 := Int32.le_toInt x15_2
      have ux15_2 := Int32.toInt_lt x15_2
      have lx15_3 := Int32.le_toInt x15_3
      have ux15_3 := Int32.toInt_lt x15_3
      have lx15_4 := Int32.le_toInt x15_4
      have ux15_4 := Int32.toInt_lt x15_4
      refine lv_iload S.x S.b d_Mpg_readString_15 (lv_at hl 4 rfl) ?_
      refine lv_if_lt (tgt := 51) S.x S.b d_Mpg_readString_17 (by decide) (fun c1 => ?_) (fun c1 => ?_)
      · have nc1 : x15_4.toInt < (0 : Int) := (i_lt (x := x15_4) (y := 0)).mp c1
        refine lv_aload_n S.x S.b d_Mpg_readString_51 rfl (lv_at hl 0 rfl) ?_
        refine lv_iload_n S.x S.b d_Mpg_readString_52 rfl (lv_at hl 1 rfl) ?_
        refine lv_iload_n S.x S.b d_Mpg_readString_53 rfl (lv_at hl 2 rfl) ?_
        refine lv_iconst (v := 1) S.x S.b d_Mpg_readString_54 (by decide) ?_
        refine lv_iadd S.x S.b d_Mpg_readString_55 ?_
        refine lv_topi (fun z2 ez2 => ?_)
        have tz2 : z2.toInt = (x15_2.toInt + (1 : Int) + 2147483648) % 4294967296 - 2147483648 := by rw [ez2]; exact i_add x15_2 1
        have lz2 := Int32.le_toInt z2
        have uz2 := Int32.toInt_lt z2
        try replace tz2 : z2.toInt = x15_2.toInt + (1 : Int) := by omega
        refine lv_iload_n S.x S.b d_Mpg_readString_56 rfl (lv_at hl 1 rfl) ?_
        refine lv_isub S.x S.b d_Mpg_readString_57 ?_
        refine lv_topi (fun z3 ez3 => ?_)
        have tz3 : z3.toInt = (z2.toInt - p0.toInt + 2147483648) % 4294967296 - 2147483648 := by rw [ez3]; exact i_sub z2 p0
        have lz3 := Int32.le_toInt z3
        have uz3 := Int32.toInt_lt z3
        try replace tz3 : z3.toInt = z2.toInt - p0.toInt := by omega
        refine lv_iconst (v := 4) S.x S.b d_Mpg_readString_58 (by decide) ?_
        refine lv_iload_n S.x S.b d_Mpg_readString_59 rfl (lv_at hl 3 rfl) ?_
        first | refine px_callv (pr := []) (px_runV (As := [.int p0, .int z3, .int 4, .int x15_3]) (rest := []) S (c_mp_token l D cs h r g pf na ma wa cf ca ef ea xf xa tf ta p0 z3 4 x15_3  (show 0 ≤ (tf 6).toInt from g4) (show (tf 6).toInt ≤ 2059 from (oz_9dfb4af2f5 g5 g3 g1)) _) hT (pr := []) (pcs := [wdP cs h r g tf ta pf na ma wa cf ca ef ea xf xa]) hw px_X.tt (px_recv hT hw 0 0 rfl rfl rfl) m11_166 m11_163 m11_165 ms_8_3 m1_21 q_Mpg_token ⟨Nat.le_of_ble_eq_true rfl, Nat.le_of_ble_eq_true rfl⟩ hl.1 rfl (Nat.le_of_ble_eq_true rfl) d_Mpg_readString_60 ⟨Nat.le_of_ble_eq_true rfl, Nat.le_of_ble_eq_true rfl⟩) hw hA (fun p8 H locs hp8 hw => ?_) | refine px_callv (pr := []) (px_runV (As := [.int p0, .int z3, .int 4, .int x15_3]) (rest := []) S (c_mp_token l D cs h r g pf na ma wa cf ca ef ea xf xa tf ta p0 z3 4 x15_3  (show 0 ≤ (tf 6).toInt from by first | exact g4 | omega) (show (tf 6).toInt ≤ 2059 from by first | exact oz_9dfb4af2f5 g5 g3 g1 | omega) _) hT (pr := []) (pcs := [wdP cs h r g tf ta pf na ma wa cf ca ef ea xf xa]) hw px_X.tt (px_recv hT hw 0 0 rfl rfl rfl) m11_166 m11_163 m11_165 ms_8_3 m1_21 q_Mpg_token ⟨Nat.le_of_ble_eq_true rfl, Nat.le_of_ble_eq_true rfl⟩ hl.1 rfl (Nat.le_of_ble_eq_true rfl) d_Mpg_readString_60 ⟨Nat.le_of_ble_eq_true rfl, Nat.le_of_ble_eq_true rfl⟩) hw hA (fun p8 H locs hp8 hw => ?_)
        obtain ⟨tf6, ta7, rfl, e10, e11, e12⟩ := hp8
        have e10 : (tf6 6).toInt = (tf 6).toInt + 1 := e10
        have e11 : (tf6 5).toInt = (tf 5).toInt := e11
        have e12 : TkU ta ta7 (tf 6) p0 z3 (4 : Int32) x15_3 := e12
        refine lv_aload_n S.x S.b d_Mpg_readString_63 rfl (lv_at hl 0 rfl) ?_
        refine lv_iload_n S.x S.b d_Mpg_readString_64 rfl (lv_at hl 2 rfl) ?_
        first | refine px_calli (pr := []) (px_runV (As := [.int x15_2]) (rest := []) S (c_mp_byteAt l D cs h r g tf6 ta7 pf na ma wa cf ca ef ea xf xa x15_2  (show 0 ≤ (tf6 5).toInt from (oz_f3ebed1ad0 e11 g0)) (show (tf6 5).toInt ≤ 2048 from (oz_508e595d19 e11 g1)) (show 0 ≤ x15_2.toInt from (oz_06d7f15a5c k15_0 g2)) _) hT (pr := []) (pcs := [wdP cs h r g tf6 ta7 pf na ma wa cf ca ef ea xf xa]) hw px_X.tt (px_recv hT hw 0 0 rfl rfl rfl) m11_142 m11_139 m11_141 ms_7_15 m1_21 q_Mpg_byteAt ⟨Nat.le_of_ble_eq_true rfl, Nat.le_of_ble_eq_true rfl⟩ hl.1 rfl (Nat.le_of_ble_eq_true rfl) d_Mpg_readString_65 ⟨Nat.le_of_ble_eq_true rfl, Nat.le_of_ble_eq_true rfl⟩) hw hA (fun v14 p13 H locs hp13 hw => ?_) | refine px_calli (pr := []) (px_runV (As := [.int x15_2]) (rest := []) S (c_mp_byteAt l D cs h r g tf6 ta7 pf na ma wa cf ca ef ea xf xa x15_2  (show 0 ≤ (tf6 5).toInt from by first | exact oz_f3ebed1ad0 e11 g0 | omega) (show (tf6 5).toInt ≤ 2048 from by first | exact oz_508e595d19 e11 g1 | omega) (show 0 ≤ x15_2.toInt from by first | exact oz_06d7f15a5c k15_0 g2 | omega) _) hT (pr := []) (pcs := [wdP cs h r g tf6 ta7 pf na ma wa cf ca ef ea xf xa]) hw px_X.tt (px_recv hT hw 0 0 rfl rfl rfl) m11_142 m11_139 m11_141 ms_7_15 m1_21 q_Mpg_byteAt ⟨Nat.le_of_ble_eq_true rfl, Nat.le_of_ble_eq_true rfl⟩ hl.1 rfl (Nat.le_of_ble_eq_true rfl) d_Mpg_readString_65 ⟨Nat.le_of_ble_eq_true rfl, Nat.le_of_ble_eq_true rfl⟩) hw hA (fun v14 p13 H locs hp13 hw => ?_)
        obtain ⟨rfl, e15, e16⟩ := hp13
        have e15 : x15_2.toInt < (tf6 5).toInt ∨ v14.toInt = -1 := e15
        have e16 : BtV ta7 (tf6 5).toInt x15_2.toInt v14.toInt := e16
        have lv14 := Int32.le_toInt v14
        have uv14 := Int32.toInt_lt v14
        refine lv_bipush (v := 34) S.x S.b d_Mpg_readString_68 (by decide) ?_
        refine lv_icmp_ne (tgt := 84) S.x S.b d_Mpg_readString_70 (by decide) (fun c17 => ?_) (fun c17 => ?_)
        · have nc17 : ¬ v14.toInt = (34 : Int) := mt (i_eq (x := v14) (y := 34)).mpr c17
          refine lv_iconst (v := 0) S.x S.b d_Mpg_readString_84 (by decide) ?_
          first | exact px_iret (v := 0) S hr rfl hlk hAe hw (Nat.le_of_ble_eq_true rfl) (Nat.le_of_ble_eq_true rfl) (⟨tf6, ta7, rfl, (show (0 : Int32) = 0 ∨ (0 : Int32) = 1 from by first | exact Or.inl rfl | exact Or.inr rfl | exact z_or (by first | with_reducible rfl | with_reducible assumption | omega)), (show (tf6 5).toInt = (tf 5).toInt from e11), (show (tf 6).toInt ≤ (tf6 6).toInt from (oz_7db54039c4 e10)), (show (tf6 6).toInt ≤ (tf 6).toInt + 1 from (oz_6ad8cf7f07 e10)), (show (0 : Int) = 1 → (tf6 6).toInt = (tf 6).toInt + 1 from by first | with_reducible rfl | with_reducible assumption | omega), (show RdK (tf 5).toInt ta7 (tf 6) (0 : Int32) p0 from (by first | exact rdk_n htp (by assumption) (by first | with_reducible rfl | with_reducible assumption | omega) (by first | with_reducible rfl | with_reducible assumption | omega) | exact rdk_0 htp (by first | with_reducible rfl | with_reducible assumption | omega)))⟩) d_Mpg_readString_85 | exact px_iret (v := 0) S hr rfl hlk hAe hw (Nat.le_of_ble_eq_true rfl) (Nat.le_of_ble_eq_true rfl) (⟨tf6, ta7, rfl, (show (0 : Int32) = 0 ∨ (0 : Int32) = 1 from by first | exact Or.inl rfl | exact Or.inr rfl | exact z_or (by first | with_reducible rfl | with_reducible assumption | omega)), (show (tf6 5).toInt = (tf 5).toInt from by first | exact e11 | omega), (show (tf 6).toInt ≤ (tf6 6).toInt from by first | exact oz_7db54039c4 e10 | omega), (show (tf6 6).toInt ≤ (tf 6).toInt + 1 from by first | exact oz_6ad8cf7f07 e10 | omega), (show (0 : Int) = 1 → (tf6 6).toInt = (tf 6).toInt + 1 from by first | with_reducible rfl | with_reducible assumption | omega), (show RdK (tf 5).toInt ta7 (tf 6) (0 : Int32) p0 from (by first | exact rdk_n htp (by assumption) (by first | with_reducible rfl | with_reducible assumption | omega) (by first | with_reducible rfl | with_reducible assumption | omega) | exact rdk_0 htp (by first | with_reducible rfl | with_reducible assumption | omega)))⟩) d_Mpg_readString_85
        · have nc17 : v14.toInt = (34 : Int) := (i_eq (x := v14) (y := 34)).mp c17
          refine lv_iload_n S.x S.b d_Mpg_readString_73 rfl (lv_at hl 3 rfl) ?_
          refine lv_sipush (v := 200) S.x S.b d_Mpg_readString_74 (by decide) ?_
          refine lv_icmp_gt (tgt := 84) S.x S.b d_Mpg_readString_77 (by decide) (fun c18 => ?_) (fun c18 => ?_)
          · have nc18 : (200 : Int) < x15_3.toInt := (i_lt (x := 200) (y := x15_3)).mp c18
            refine lv_iconst (v := 0) S.x S.b d_Mpg_readString_84 (by decide) ?_
            first | exact px_iret (v := 0) S hr rfl hlk hAe hw (Nat.le_of_ble_eq_true rfl) (Nat.le_of_ble_eq_true rfl) (⟨tf6, ta7, rfl, (show (0 : Int32) = 0 ∨ (0 : Int32) = 1 from by first | exact Or.inl rfl | exact Or.inr rfl | exact z_or (by first | with_reducible rfl | with_reducible assumption | omega)), (show (tf6 5).toInt = (tf 5).toInt from e11), (show (tf 6).toInt ≤ (tf6 6).toInt from (oz_7db54039c4 e10)), (show (tf6 6).toInt ≤ (tf 6).toInt + 1 from (oz_6ad8cf7f07 e10)), (show (0 : Int) = 1 → (tf6 6).toInt = (tf 6).toInt + 1 from by first | with_reducible rfl | with_reducible assumption | omega), (show RdK (tf 5).toInt ta7 (tf 6) (0 : Int32) p0 from (by first | exact rdk_n htp (by assumption) (by first | with_reducible rfl | with_reducible assumption | omega) (by first | with_reducible rfl | with_reducible assumption | omega) | exact rdk_0 htp (by first | with_reducible rfl | with_reducible assumption | omega)))⟩) d_Mpg_readString_85 | exact px_iret (v := 0) S hr rfl hlk hAe hw (Nat.le_of_ble_eq_true rfl) (Nat.le_of_ble_eq_true rfl) (⟨tf6, ta7, rfl, (show (0 : Int32) = 0 ∨ (0 : Int32) = 1 from by first | exact Or.inl rfl | exact Or.inr rfl | exact z_or (by first | with_reducible rfl | with_reducible assumption | omega)), (show (tf6 5).toInt = (tf 5).toInt from by first | exact e11 | omega), (show (tf 6).toInt ≤ (tf6 6).toInt from by first | exact oz_7db54039c4 e10 | omega), (show (tf6 6).toInt ≤ (tf 6).toInt + 1 from by first | exact oz_6ad8cf7f07 e10 | omega), (show (0 : Int) = 1 → (tf6 6).toInt = (tf 6).toInt + 1 from by first | with_reducible rfl | with_reducible assumption | omega), (show RdK (tf 5).toInt ta7 (tf 6) (0 : Int32) p0 from (by first | exact rdk_n htp (by assumption) (by first | with_reducible rfl | with_reducible assumption | omega) (by first | with_reducible rfl | with_reducible assumption | omega) | exact rdk_0 htp (by first | with_reducible rfl | with_reducible assumption | omega)))⟩) d_Mpg_readString_85
          · have nc18 : ¬ (200 : Int) < x15_3.toInt := mt (i_lt (x := 200) (y := x15_3)).mpr c18
            refine lv_iconst (v := 1) S.x S.b d_Mpg_readString_80 (by decide) ?_
            refine lv_goto (tgt := 85) S.x S.b d_Mpg_readString_81 (by decide) ?_
            first | exact px_iret (v := 1) S hr rfl hlk hAe hw (Nat.le_of_ble_eq_true rfl) (Nat.le_of_ble_eq_true rfl) (⟨tf6, ta7, rfl, (show (1 : Int32) = 0 ∨ (1 : Int32) = 1 from by first | exact Or.inl rfl | exact Or.inr rfl | exact z_or (by first | with_reducible rfl | with_reducible assumption | omega)), (show (tf6 5).toInt = (tf 5).toInt from e11), (show (tf 6).toInt ≤ (tf6 6).toInt from (oz_7db54039c4 e10)), (show (tf6 6).toInt ≤ (tf 6).toInt + 1 from (oz_6ad8cf7f07 e10)), (show (1 : Int) = 1 → (tf6 6).toInt = (tf 6).toInt + 1 from by first | with_reducible rfl | with_reducible assumption | omega), (show RdK (tf 5).toInt ta7 (tf 6) (1 : Int32) p0 from (rdk_y htp (by assumption) (by first | with_reducible rfl | with_reducible assumption | omega) ⟨⟨by first | with_reducible rfl | with_reducible assumption | omega, by first | with_reducible rfl | with_reducible assumption | omega⟩, ⟨by first | with_reducible rfl | with_reducible assumption | omega, by first | with_reducible rfl | with_reducible assumption | omega, by first | with_reducible rfl | with_reducible assumption | omega⟩, fun h => ⟨by first | with_reducible rfl | with_reducible assumption | omega, by first | with_reducible rfl | with_reducible assumption | omega, by first | with_reducible rfl | with_reducible assumption | omega⟩, fun h => ⟨by first | with_reducible rfl | with_reducible assumption | omega, by first | with_reducible rfl | with_reducible assumption | omega, by first | with_reducible rfl | with_reducible assumption | omega⟩, fun h => ⟨by first | with_reducible rfl | with_reducible assumption | omega, by first | with_reducible rfl | with_reducible assumption | omega, by first | with_reducible rfl | with_reducible assumption | omega⟩⟩))⟩) d_Mpg_readString_85 | exact px_iret (v := 1) S hr rfl hlk hAe hw (Nat.le_of_ble_eq_true rfl) (Nat.le_of_ble_eq_true rfl) (⟨tf6, ta7, rfl, (show (1 : Int32) = 0 ∨ (1 : Int32) = 1 from by first | exact Or.inl rfl | exact Or.inr rfl | exact z_or (by first | with_reducible rfl | with_reducible assumption | omega)), (show (tf6 5).toInt = (tf 5).toInt from by first | exact e11 | omega), (show (tf 6).toInt ≤ (tf6 6).toInt from by first | exact oz_7db54039c4 e10 | omega), (show (tf6 6).toInt ≤ (tf 6).toInt + 1 from by first | exact oz_6ad8cf7f07 e10 | omega), (show (1 : Int) = 1 → (tf6 6).toInt = (tf 6).toInt + 1 from by first | with_reducible rfl | with_reducible assumption | omega), (show RdK (tf 5).toInt ta7 (tf 6) (1 : Int32) p0 from (rdk_y htp (by assumption) (by first | with_reducible rfl | with_reducible assumption | omega) ⟨⟨by first | with_reducible rfl | with_reducible assumption | omega, by first | with_reducible rfl | with_reducible assumption | omega⟩, ⟨by first | with_reducible rfl | with_reducible assumption | omega, by first | with_reducible rfl | with_reducible assumption | omega, by first | with_reducible rfl | with_reducible assumption | omega⟩, fun h => ⟨by first | with_reducible rfl | with_reducible assumption | omega, by first | with_reducible rfl | with_reducible assumption | omega, by first | with_reducible rfl | with_reducible assumption | omega⟩, fun h => ⟨by first | with_reducible rfl | with_reducible assumption | omega, by first | with_reducible rfl | with_reducible assumption | omega, by first | with_reducible rfl | with_reducible assumption | omega⟩, fun h => ⟨by first | with_reducible rfl | with_reducible assumption | omega, by first | with_reducible rfl | with_reducible assumption | omega, by first | with_reducible rfl | with_reducible assumption | omega⟩⟩))⟩) d_Mpg_readString_85
      · have nc1 : ¬ x15_4.toInt < (0 : Int) := mt (i_lt (x := x15_4) (y := 0)).mpr c1
        refine lv_iload_n S.x S.b d_Mpg_readString_20 rfl (lv_at hl 2 rfl) ?_
        refine lv_iload S.x S.b d_Mpg_readString_21 (lv_at hl 4 rfl) ?_
        refine lv_sipush (v := 1000) S.x S.b d_Mpg_readString_23 (by decide) ?_
        refine lv_icmp_ge (tgt := 33) S.x S.b d_Mpg_readString_26 (by decide) (fun c19 => ?_) (fun c19 => ?_)
        · have nc19 : (1000 : Int) ≤ x15_4.toInt := (i_le (x := 1000) (y := x15_4)).mp c19
          refine lv_iconst (v := 2) S.x S.b d_Mpg_readString_33 (by decide) ?_
          refine lv_iadd S.x S.b d_Mpg_readString_34 ?_
          refine lv_topi (fun z20 ez20 => ?_)
          have tz20 : z20.toInt = (x15_2.toInt + (2 : Int) + 2147483648) % 4294967296 - 2147483648 := by rw [ez20]; exact i_add x15_2 2
          have lz20 := Int32.le_toInt z20
          have uz20 := Int32.toInt_lt z20
          try replace tz20 : z20.toInt = x15_2.toInt + (2 : Int) := by omega
          refine lv_istore_n (lv' := [(2, .int z20), (0, .ref h), (1, .int p0), (3, .int x15_3), (4, .int x15_4)]) S.x S.b d_Mpg_readString_35 rfl hl (by decide) rfl (fun ls hl => ?_)
          obtain ⟨z21, ez21⟩ : ∃ y : Int32, y = x15_3 + 1 := ⟨_, rfl⟩
          have tz21 : z21.toInt = (x15_3.toInt + 1 + 2147483648) % 4294967296 - 2147483648 := by rw [ez21]; exact i_add x15_3 1
          have lz21 := Int32.le_toInt z21
          have uz21 := Int32.toInt_lt z21
          try replace tz21 : z21.toInt = x15_3.toInt + 1 := by omega
          refine lv_iinc (v := z21) (lv' := [(3, .int z21), (2, .int z20), (0, .ref h), (1, .int p0), (4, .int x15_4)]) S.x S.b d_Mpg_readString_36 hl (k := 3) rfl (by rw [ez21]; rfl) (by decide) rfl (fun ls hl => ?_)
          refine lv_aload_n S.x S.b d_Mpg_readString_39 rfl (lv_at hl 2 rfl) ?_
          refine lv_iload_n S.x S.b d_Mpg_readString_40 rfl (lv_at hl 1 rfl) ?_
          refine lv_bipush (v := 34) S.x S.b d_Mpg_readString_41 (by decide) ?_
          first | refine px_calli (pr := []) (px_runV (As := [.int z20, .int 34]) (rest := []) S (c_mp_character l D cs h r g tf ta pf na ma wa cf ca ef ea xf xa z20 34  (show 0 ≤ (tf 5).toInt from g0) (show (tf 5).toInt ≤ 2048 from g1) (show 0 ≤ z20.toInt from (oz_dff81e9050 tz20 k15_0 g2)) (show z20.toInt ≤ 100000 from (oz_051e663e68 tz20 k15_1 g1)) (show 0 ≤ (34 : Int) from by first | decide | omega) (show (34 : Int) ≤ 100 from by first | decide | omega) _) hT (pr := []) (pcs := [wdP cs h r g tf ta pf na ma wa cf ca ef ea xf xa]) hw px_X.tt (px_recv hT hw 0 0 rfl rfl rfl) m11_180 m11_177 m11_179 ms_8_5 m1_21 q_Mpg_character ⟨Nat.le_of_ble_eq_true rfl, Nat.le_of_ble_eq_true rfl⟩ hl.1 rfl (Nat.le_of_ble_eq_true rfl) d_Mpg_readString_43 ⟨Nat.le_of_ble_eq_true rfl, Nat.le_of_ble_eq_true rfl⟩) hw hA (fun v23 p22 H locs hp22 hw => ?_) | refine px_calli (pr := []) (px_runV (As := [.int z20, .int 34]) (rest := []) S (c_mp_character l D cs h r g tf ta pf na ma wa cf ca ef ea xf xa z20 34  (show 0 ≤ (tf 5).toInt from by first | exact g0 | omega) (show (tf 5).toInt ≤ 2048 from by first | exact g1 | omega) (show 0 ≤ z20.toInt from by first | exact oz_dff81e9050 tz20 k15_0 g2 | omega) (show z20.toInt ≤ 100000 from by first | exact oz_051e663e68 tz20 k15_1 g1 | omega) (show 0 ≤ (34 : Int) from by first | decide | omega) (show (34 : Int) ≤ 100 from by first | decide | omega) _) hT (pr := []) (pcs := [wdP cs h r g tf ta pf na ma wa cf ca ef ea xf xa]) hw px_X.tt (px_recv hT hw 0 0 rfl rfl rfl) m11_180 m11_177 m11_179 ms_8_5 m1_21 q_Mpg_character ⟨Nat.le_of_ble_eq_true rfl, Nat.le_of_ble_eq_true rfl⟩ hl.1 rfl (Nat.le_of_ble_eq_true rfl) d_Mpg_readString_43 ⟨Nat.le_of_ble_eq_true rfl, Nat.le_of_ble_eq_true rfl⟩) hw hA (fun v23 p22 H locs hp22 hw => ?_)
          obtain ⟨rfl, e24, e25, e26, e27⟩ := hp22
          have e24 : -1 ≤ v23.toInt := e24
          have e25 : v23.toInt ≤ 1126 := e25
          have e26 : 0 ≤ v23.toInt → z20.toInt < (tf 5).toInt := e26
          have e27 : 1000 ≤ v23.toInt → z20.toInt + 1 < (tf 5).toInt := e27
          have lv23 := Int32.le_toInt v23
          have uv23 := Int32.toInt_lt v23
          refine lv_istore (lv' := [(4, .int v23), (3, .int z21), (2, .int z20), (0, .ref h), (1, .int p0)]) S.x S.b d_Mpg_readString_46 hl (by decide) rfl (fun ls hl => ?_)
          refine lv_goto (tgt := 15) S.x S.b d_Mpg_readString_48 (by decide) ?_
          first | exact ih15 z20 z21 v23 _ _ ls (show p0.toInt + 1 ≤ z20.toInt from (oz_590b8446af k15_0 tz20)) (show z20.toInt ≤ (tf 5).toInt+1 from (oz_6142c9739d tz20 nc19 k15_5)) (show 0 ≤ z21.toInt from (oz_ae613611c0 tz21 k15_2)) (show p0.toInt + 1 + z21.toInt ≤ z20.toInt from (oz_c21c446132 k15_3 tz20 tz21)) (show 0 ≤ v23.toInt → z20.toInt < (tf 5).toInt from e26) (show 1000 ≤ v23.toInt → z20.toInt + 1 < (tf 5).toInt from e27) (show (tf 5).toInt+2-z20.toInt < (n_15 : Int) from (oz_d610434099 hm tz20)) hw (lv_sub hl [3, 4, 2, 1, 0] rfl) | exact ih15 z20 z21 v23 _ _ ls (show p0.toInt + 1 ≤ z20.toInt from by first | exact oz_590b8446af k15_0 tz20 | omega) (show z20.toInt ≤ (tf 5).toInt+1 from by first | exact oz_6142c9739d tz20 nc19 k15_5 | omega) (show 0 ≤ z21.toInt from by first | exact oz_ae613611c0 tz21 k15_2 | omega) (show p0.toInt + 1 + z21.toInt ≤ z20.toInt from by first | exact oz_c21c446132 k15_3 tz20 tz21 | omega) (show 0 ≤ v23.toInt → z20.toInt < (tf 5).toInt from by first | exact e26 | omega) (show 1000 ≤ v23.toInt → z20.toInt + 1 < (tf 5).toInt from by first | exact e27 | omega) (show (tf 5).toInt+2-z20.toInt < (n_15 : Int) from by first | exact oz_d610434099 hm tz20 | omega) hw (lv_sub hl [3, 4, 2, 1, 0] rfl)
        · have nc19 : ¬ (1000 : Int) ≤ x15_4.toInt := mt (i_le (x := 1000) (y := x15_4)).mpr c19
          refine lv_iconst (v := 1) S.x S.b d_Mpg_readString_29 (by decide) ?_
          refine lv_goto (tgt := 34) S.x S.b d_Mpg_readString_30 (by decide) ?_
          refine lv_iadd S.x S.b d_Mpg_readString_34 ?_
          refine lv_topi (fun z28 ez28 => ?_)
          have tz28 : z28.toInt = (x15_2.toInt + (1 : Int) + 2147483648) % 4294967296 - 2147483648 := by rw [ez28]; exact i_add x15_2 1
          have lz28 := Int32.le_toInt z28
          have uz28 := Int32.toInt_lt z28
          try replace tz28 : z28.toInt = x15_2.toInt + (1 : Int) := by omega
          refine lv_istore_n (lv' := [(2, .int z28), (0, .ref h), (1, .int p0), (3, .int x15_3), (4, .int x15_4)]) S.x S.b d_Mpg_readString_35 rfl hl (by decide) rfl (fun ls hl => ?_)
          obtain ⟨z29, ez29⟩ : ∃ y : Int32, y = x15_3 + 1 := ⟨_, rfl⟩
          have tz29 : z29.toInt = (x15_3.toInt + 1 + 2147483648) % 4294967296 - 2147483648 := by rw [ez29]; exact i_add x15_3 1
          have lz29 := Int32.le_toInt z29
          have uz29 := Int32.toInt_lt z29
          try replace tz29 : z29.toInt = x15_3.toInt + 1 := by omega
          refine lv_iinc (v := z29) (lv' := [(3, .int z29), (2, .int z28), (0, .ref h), (1, .int p0), (4, .int x15_4)]) S.x S.b d_Mpg_readString_36 hl (k := 3) rfl (by rw [ez29]; rfl) (by decide) rfl (fun ls hl => ?_)
          refine lv_aload_n S.x S.b d_Mpg_readString_39 rfl (lv_at hl 2 rfl) ?_
          refine lv_iload_n S.x S.b d_Mpg_readString_40 rfl (lv_at hl 1 rfl) ?_
          refine lv_bipush (v := 34) S.x S.b d_Mpg_readString_41 (by decide) ?_
          first | refine px_calli (pr := []) (px_runV (As := [.int z28, .int 34]) (rest := []) S (c_mp_character l D cs h r g tf ta pf na ma wa cf ca ef ea xf xa z28 34  (show 0 ≤ (tf 5).toInt from g0) (show (tf 5).toInt ≤ 2048 from g1) (show 0 ≤ z28.toInt from (oz_00e0e5ddd3 tz28 k15_0 g2)) (show z28.toInt ≤ 100000 from (oz_b502284cf8 tz28 k15_1 g1)) (show 0 ≤ (34 : Int) from by first | decide | omega) (show (34 : Int) ≤ 100 from by first | decide | omega) _) hT (pr := []) (pcs := [wdP cs h r g tf ta pf na ma wa cf ca ef ea xf xa]) hw px_X.tt (px_recv hT hw 0 0 rfl rfl rfl) m11_180 m11_177 m11_179 ms_8_5 m1_21 q_Mpg_character ⟨Nat.le_of_ble_eq_true rfl, Nat.le_of_ble_eq_true rfl⟩ hl.1 rfl (Nat.le_of_ble_eq_true rfl) d_Mpg_readString_43 ⟨Nat.le_of_ble_eq_true rfl, Nat.le_of_ble_eq_true rfl⟩) hw hA (fun v31 p30 H locs hp30 hw => ?_) | refine px_calli (pr := []) (px_runV (As := [.int z28, .int 34]) (rest := []) S (c_mp_character l D cs h r g tf ta pf na ma wa cf ca ef ea xf xa z28 34  (show 0 ≤ (tf 5).toInt from by first | exact g0 | omega) (show (tf 5).toInt ≤ 2048 from by first | exact g1 | omega) (show 0 ≤ z28.toInt from by first | exact oz_00e0e5ddd3 tz28 k15_0 g2 | omega) (show z28.toInt ≤ 100000 from by first | exact oz_b502284cf8 tz28 k15_1 g1 | omega) (show 0 ≤ (34 : Int) from by first | decide | omega) (show (34 : Int) ≤ 100 from by first | decide | omega) _) hT (pr := []) (pcs := [wdP cs h r g tf ta pf na ma wa cf ca ef ea xf xa]) hw px_X.tt (px_recv hT hw 0 0 rfl rfl rfl) m11_180 m11_177 m11_179 ms_8_5 m1_21 q_Mpg_character ⟨Nat.le_of_ble_eq_true rfl, Nat.le_of_ble_eq_true rfl⟩ hl.1 rfl (Nat.le_of_ble_eq_true rfl) d_Mpg_readString_43 ⟨Nat.le_of_ble_eq_true rfl, Nat.le_of_ble_eq_true rfl⟩) hw hA (fun v31 p30 H locs hp30 hw => ?_)
          obtain ⟨rfl, e32, e33, e34, e35⟩ := hp30
          have e32 : -1 ≤ v31.toInt := e32
          have e33 : v31.toInt ≤ 1126 := e33
          have e34 : 0 ≤ v31.toInt → z28.toInt < (tf 5).toInt := e34
          have e35 : 1000 ≤ v31.toInt → z28.toInt + 1 < (tf 5).toInt := e35
          have lv31 := Int32.le_toInt v31
          have uv31 := Int32.toInt_lt v31
          refine lv_istore (lv' := [(4, .int v31), (3, .int z29), (2, .int z28), (0, .ref h), (1, .int p0)]) S.x S.b d_Mpg_readString_46 hl (by decide) rfl (fun ls hl => ?_)
          refine lv_goto (tgt := 15) S.x S.b d_Mpg_readString_48 (by decide) ?_
          first | exact ih15 z28 z29 v31 _ _ ls (show p0.toInt + 1 ≤ z28.toInt from (oz_54ae5af180 k15_0 tz28)) (show z28.toInt ≤ (tf 5).toInt+1 from (oz_5e8b481c01 tz28 nc1 k15_4)) (show 0 ≤ z29.toInt from (oz_ae613611c0 tz29 k15_2)) (show p0.toInt + 1 + z29.toInt ≤ z28.toInt from (oz_557cb2123a k15_3 tz28 tz29)) (show 0 ≤ v31.toInt → z28.toInt < (tf 5).toInt from e34) (show 1000 ≤ v31.toInt → z28.toInt + 1 < (tf 5).toInt from e35) (show (tf 5).toInt+2-z28.toInt < (n_15 : Int) from (oz_bd37f95e89 hm tz28)) hw (lv_sub hl [3, 4, 2, 1, 0] rfl) | exact ih15 z28 z29 v31 _ _ ls (show p0.toInt + 1 ≤ z28.toInt from by first | exact oz_54ae5af180 k15_0 tz28 | omega) (show z28.toInt ≤ (tf 5).toInt+1 from by first | exact oz_5e8b481c01 tz28 nc1 k15_4 | omega) (show 0 ≤ z29.toInt from by first | exact oz_ae613611c0 tz29 k15_2 | omega) (show p0.toInt + 1 + z29.toInt ≤ z28.toInt from by first | exact oz_557cb2123a k15_3 tz28 tz29 | omega) (show 0 ≤ v31.toInt → z28.toInt < (tf 5).toInt from by first | exact e34 | omega) (show 1000 ≤ v31.toInt → z28.toInt + 1 < (tf 5).toInt from by first | exact e35 | omega) (show (tf 5).toInt+2-z28.toInt < (n_15 : Int) from by first | exact oz_bd37f95e89 hm tz28 | omega) hw (lv_sub hl [3, 4, 2, 1, 0] rfl)
  refine lv_iload_n S.x S.b d_Mpg_readString_0 rfl (lv_at hl 1 rfl) ?_
  refine lv_iconst (v := 1) S.x S.b d_Mpg_readString_1 (by decide) ?_
  refine lv_iadd S.x S.b d_Mpg_readString_2 ?_
  refine lv_topi (fun z36 ez36 => ?_)
  have tz36 : z36.toInt = (p0.toInt + (1 : Int) + 2147483648) % 4294967296 - 2147483648 := by rw [ez36]; exact i_add p0 1
  have lz36 := Int32.le_toInt z36
  have uz36 := Int32.toInt_lt z36
  try replace tz36 : z36.toInt = p0.toInt + (1 : Int) := by omega
  refine lv_istore_n (lv' := [(2, .int z36), (0, .ref h), (1, .int p0)]) S.x S.b d_Mpg_readString_3 rfl hl (by decide) rfl (fun ls hl => ?_)
  refine lv_iconst (v := 0) S.x S.b d_Mpg_readString_4 (by decide) ?_
  refine lv_istore_n (lv' := [(3, .int 0), (2, .int z36), (0, .ref h), (1, .int p0)]) S.x S.b d_Mpg_readString_5 rfl hl (by decide) rfl (fun ls hl => ?_)
  refine lv_aload_n S.x S.b d_Mpg_readString_6 rfl (lv_at hl 2 rfl) ?_
  refine lv_iload_n S.x S.b d_Mpg_readString_7 rfl (lv_at hl 1 rfl) ?_
  refine lv_bipush (v := 34) S.x S.b d_Mpg_readString_8 (by decide) ?_
  first | refine px_calli (pr := []) (px_runV (As := [.int z36, .int 34]) (rest := []) S (c_mp_character l D cs h r g tf ta pf na ma wa cf ca ef ea xf xa z36 34  (show 0 ≤ (tf 5).toInt from g0) (show (tf 5).toInt ≤ 2048 from g1) (show 0 ≤ z36.toInt from (oz_b3b25f0e49 tz36 g2)) (show z36.toInt ≤ 100000 from (oz_f878e4a551 tz36 g3 g1)) (show 0 ≤ (34 : Int) from by first | decide | omega) (show (34 : Int) ≤ 100 from by first | decide | omega) _) hT (pr := []) (pcs := [wdP cs h r g tf ta pf na ma wa cf ca ef ea xf xa]) hw px_X.tt (px_recv hT hw 0 0 rfl rfl rfl) m11_180 m11_177 m11_179 ms_8_5 m1_21 q_Mpg_character ⟨Nat.le_of_ble_eq_true rfl, Nat.le_of_ble_eq_true rfl⟩ hl.1 rfl (Nat.le_of_ble_eq_true rfl) d_Mpg_readString_10 ⟨Nat.le_of_ble_eq_true rfl, Nat.le_of_ble_eq_true rfl⟩) hw hA (fun v38 p37 H locs hp37 hw => ?_) | refine px_calli (pr := []) (px_runV (As := [.int z36, .int 34]) (rest := []) S (c_mp_character l D cs h r g tf ta pf na ma wa cf ca ef ea xf xa z36 34  (show 0 ≤ (tf 5).toInt from by first | exact g0 | omega) (show (tf 5).toInt ≤ 2048 from by first | exact g1 | omega) (show 0 ≤ z36.toInt from by first | exact oz_b3b25f0e49 tz36 g2 | omega) (show z36.toInt ≤ 100000 from by first | exact oz_f878e4a551 tz36 g3 g1 | omega) (show 0 ≤ (34 : Int) from by first | decide | omega) (show (34 : Int) ≤ 100 from by first | decide | omega) _) hT (pr := []) (pcs := [wdP cs h r g tf ta pf na ma wa cf ca ef ea xf xa]) hw px_X.tt (px_recv hT hw 0 0 rfl rfl rfl) m11_180 m11_177 m11_179 ms_8_5 m1_21 q_Mpg_character ⟨Nat.le_of_ble_eq_true rfl, Nat.le_of_ble_eq_true rfl⟩ hl.1 rfl (Nat.le_of_ble_eq_true rfl) d_Mpg_readString_10 ⟨Nat.le_of_ble_eq_true rfl, Nat.le_of_ble_eq_true rfl⟩) hw hA (fun v38 p37 H locs hp37 hw => ?_)
  obtain ⟨rfl, e39, e40, e41, e42⟩ := hp37
  have e39 : -1 ≤ v38.toInt := e39
  have e40 : v38.toInt ≤ 1126 := e40
  have e41 : 0 ≤ v38.toInt → z36.toInt < (tf 5).toInt := e41
  have e42 : 1000 ≤ v38.toInt → z36.toInt + 1 < (tf 5).toInt := e42
  have lv38 := Int32.le_toInt v38
  have uv38 := Int32.toInt_lt v38
  refine lv_istore (lv' := [(4, .int v38), (3, .int 0), (2, .int z36), (0, .ref h), (1, .int p0)]) S.x S.b d_Mpg_readString_13 hl (by decide) rfl (fun ls hl => ?_)
  first | exact J15 (((tf 5).toInt+2-z36.toInt).toNat + 1) z36 (0 : Int32) v38 _ _ ls (show p0.toInt + 1 ≤ z36.toInt from (oz_38236be559 tz36)) (show z36.toInt ≤ (tf 5).toInt+1 from (oz_b0df47dfe2 g3 tz36)) (show 0 ≤ (0 : Int) from by first | decide | omega) (show p0.toInt + 1 + (0 : Int) ≤ z36.toInt from (oz_1b9c7f1cbe tz36)) (show 0 ≤ v38.toInt → z36.toInt < (tf 5).toInt from e41) (show 1000 ≤ v38.toInt → z36.toInt + 1 < (tf 5).toInt from e42) (show (tf 5).toInt+2-z36.toInt < (((((tf 5).toInt+2-z36.toInt).toNat + 1 : Nat) : Int) : Int) from oz_natlt) hw (lv_sub hl [3, 4, 2, 1, 0] rfl) | exact J15 (((tf 5).toInt+2-z36.toInt).toNat + 1) z36 (0 : Int32) v38 _ _ ls (show p0.toInt + 1 ≤ z36.toInt from by first | exact oz_38236be559 tz36 | omega) (show z36.toInt ≤ (tf 5).toInt+1 from by first | exact oz_b0df47dfe2 g3 tz36 | omega) (show 0 ≤ (0 : Int) from by first | decide | omega) (show p0.toInt + 1 + (0 : Int) ≤ z36.toInt from by first | exact oz_1b9c7f1cbe tz36 | omega) (show 0 ≤ v38.toInt → z36.toInt < (tf 5).toInt from by first | exact e41 | omega) (show 1000 ≤ v38.toInt → z36.toInt + 1 < (tf 5).toInt from by first | exact e42 | omega) (show (tf 5).toInt+2-z36.toInt < (((((tf 5).toInt+2-z36.toInt).toNat + 1 : Nat) : Int) : Int) from by first | exact oz_natlt | omega) hw (lv_sub hl [3, 4, 2, 1, 0] rfl)
