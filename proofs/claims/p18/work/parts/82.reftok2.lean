theorem oz_0e60057f66 {a0 a1 a2 a3 a4 : Int} (h0 : a0 = a1 + a2) (h1 : 0 ≤ a2) (h2 : a3 = (0 : Int)) (h3 : 0 ≤ a3) (h4 : a3 = 0 → a1 = a4) (h5 : 0 ≤ a4) : 0 ≤ a0 := by omega
theorem oz_9dfb4af2f5 {a0 a1 a2 : Int} (h0 : a0 ≤ a1) (h1 : a1 < a2) (h2 : a2 ≤ 2048) : a0 ≤ 2059 := by omega
theorem oz_f5be280463 {a0 a1 : Int} (h0 : a0 = a1 + 1) (h1 : (12 : Int) ≤ a1) : 0 ≤ a0 := by omega
theorem oz_46d5be2f80 {a0 a1 a2 a4 : Int} {n3 : Nat} (h0 : a0 + 3 - a1 - a4 < ((n3 + 1 : Nat) : Int)) (h1 : a2 = a4 + 1) : a0 + 3 - a1 - a2 < (n3 : Int) := by omega
theorem oz_06d7f15a5c {a0 a1 : Int} (h0 : a1 + 1 ≤ a0) (h1 : 0 ≤ a1) : 0 ≤ a0 := by omega
theorem oz_dff81e9050 {a0 a1 a2 : Int} (h0 : a0 = a1 + (2 : Int)) (h1 : a2 + 1 ≤ a1) (h2 : 0 ≤ a2) : 0 ≤ a0 := by omega
theorem oz_051e663e68 {a0 a1 a2 : Int} (h0 : a0 = a1 + (2 : Int)) (h1 : a1 ≤ a2+1) (h2 : a2 ≤ 2048) : a0 ≤ 100000 := by omega
theorem oz_3355060c74  : 0 ≤ (34 : Int) := by omega
theorem oz_590b8446af {a0 a1 a2 : Int} (h0 : a0 + 1 ≤ a2) (h1 : a1 = a2 + (2 : Int)) : a0 + 1 ≤ a1 := by omega
theorem oz_6142c9739d {a0 a1 a2 a3 : Int} (h0 : a0 = a2 + (2 : Int)) (h1 : (1000 : Int) ≤ a3) (h2 : 1000 ≤ a3 → a2 + 1 < a1) : a0 ≤ a1+1 := by omega
theorem oz_c21c446132 {a0 a1 a2 a3 a4 : Int} (h0 : a0 + 1 + a3 ≤ a4) (h1 : a2 = a4 + (2 : Int)) (h2 : a1 = a3 + 1) : a0 + 1 + a1 ≤ a2 := by omega
theorem oz_d610434099 {a0 a1 a3 : Int} {n2 : Nat} (h0 : a0+2-a3 < ((n2 + 1 : Nat) : Int)) (h1 : a1 = a3 + (2 : Int)) : a0+2-a1 < (n2 : Int) := by omega
theorem oz_00e0e5ddd3 {a0 a1 a2 : Int} (h0 : a0 = a1 + (1 : Int)) (h1 : a2 + 1 ≤ a1) (h2 : 0 ≤ a2) : 0 ≤ a0 := by omega
theorem oz_b502284cf8 {a0 a1 a2 : Int} (h0 : a0 = a1 + (1 : Int)) (h1 : a1 ≤ a2+1) (h2 : a2 ≤ 2048) : a0 ≤ 100000 := by omega
theorem oz_54ae5af180 {a0 a1 a2 : Int} (h0 : a0 + 1 ≤ a2) (h1 : a1 = a2 + (1 : Int)) : a0 + 1 ≤ a1 := by omega
theorem oz_5e8b481c01 {a0 a1 a2 a3 : Int} (h0 : a0 = a2 + (1 : Int)) (h1 : ¬ a3 < (0 : Int)) (h2 : 0 ≤ a3 → a2 < a1) : a0 ≤ a1+1 := by omega
theorem oz_557cb2123a {a0 a1 a2 a3 a4 : Int} (h0 : a0 + 1 + a3 ≤ a4) (h1 : a2 = a4 + (1 : Int)) (h2 : a1 = a3 + 1) : a0 + 1 + a1 ≤ a2 := by omega
theorem oz_bd37f95e89 {a0 a1 a3 : Int} {n2 : Nat} (h0 : a0+2-a3 < ((n2 + 1 : Nat) : Int)) (h1 : a1 = a3 + (1 : Int)) : a0+2-a1 < (n2 : Int) := by omega
theorem oz_f878e4a551 {a0 a1 a2 : Int} (h0 : a0 = a1 + (1 : Int)) (h1 : a1 < a2) (h2 : a2 ≤ 2048) : a0 ≤ 100000 := by omega
theorem oz_b0df47dfe2 {a0 a1 a2 : Int} (h0 : a2 < a1) (h1 : a0 = a2 + (1 : Int)) : a0 ≤ a1+1 := by omega
theorem oz_1b9c7f1cbe {a0 a1 : Int} (h0 : a1 = a0 + (1 : Int)) : a0 + 1 + (0 : Int) ≤ a1 := by omega
theorem m11_163 : Cond.methodLink "HomeSystemModel$Program" 325 ⟨"HomeSystemModel$Program", "token", "(IIII)V"⟩ ∈ AL := AL_11 (List.mem_of_getElem? (i := 163) rfl) rfl
theorem m11_166 : Cond.code ⟨"HomeSystemModel$Program", "token", "(IIII)V"⟩ prog_16_method_8_code 5 (Option.none : Option Jvm.ClassFile.FieldType) ∈ AL := AL_11 (List.mem_of_getElem? (i := 166) rfl) rfl
theorem ms_8_3 : Cond.selects "HomeSystemModel$Program" ⟨"HomeSystemModel$Program", "token", "(IIII)V"⟩ ⟨"HomeSystemModel$Program", "token", "(IIII)V"⟩ ∈ AL := AL_p (q := (⟨"HomeSystemModel$Program", "token", "(IIII)V"⟩, 69)) (by unfold lw_privs; exact List.mem_append_right _ (List.mem_append_right _ (List.mem_append_right _ (List.mem_append_right _ (List.mem_append_right _ (List.mem_append_right _ (List.mem_append_right _ (List.mem_append_left _ (List.mem_of_getElem? (i := 3) rfl)))))))))
theorem m11_165 : Cond.instanceMethod ⟨"HomeSystemModel$Program", "token", "(IIII)V"⟩ ∈ AL := AL_11 (List.mem_of_getElem? (i := 165) rfl) rfl
theorem m11_176 : Cond.constantLong "HomeSystemModel$Program" 345 (4294967296 : Int64) ∈ AL := AL_11 (List.mem_of_getElem? (i := 176) rfl) rfl
theorem m11_175 : Cond.constantLong "HomeSystemModel$Program" 343 (10 : Int64) ∈ AL := AL_11 (List.mem_of_getElem? (i := 175) rfl) rfl
theorem m11_171 : Cond.methodLink "HomeSystemModel$Program" 338 ⟨"HomeSystemModel$Program", "figure", "(I)I"⟩ ∈ AL := AL_11 (List.mem_of_getElem? (i := 171) rfl) rfl
theorem m11_173 : Cond.code ⟨"HomeSystemModel$Program", "figure", "(I)I"⟩ prog_16_method_5_code 1 (Option.some FieldType.int) ∈ AL := AL_11 (List.mem_of_getElem? (i := 173) rfl) rfl
theorem m11_172 : Cond.static ⟨"HomeSystemModel$Program", "figure", "(I)I"⟩ ∈ AL := AL_11 (List.mem_of_getElem? (i := 172) rfl) rfl
theorem m11_174 : Cond.constantLong "HomeSystemModel$Program" 341 (16 : Int64) ∈ AL := AL_11 (List.mem_of_getElem? (i := 174) rfl) rfl
theorem m11_177 : Cond.methodLink "HomeSystemModel$Program" 332 ⟨"HomeSystemModel$Program", "character", "(II)I"⟩ ∈ AL := AL_11 (List.mem_of_getElem? (i := 177) rfl) rfl
theorem m11_180 : Cond.code ⟨"HomeSystemModel$Program", "character", "(II)I"⟩ prog_16_method_7_code 6 (Option.some FieldType.int) ∈ AL := AL_11 (List.mem_of_getElem? (i := 180) rfl) rfl
theorem ms_8_5 : Cond.selects "HomeSystemModel$Program" ⟨"HomeSystemModel$Program", "character", "(II)I"⟩ ⟨"HomeSystemModel$Program", "character", "(II)I"⟩ ∈ AL := AL_p (q := (⟨"HomeSystemModel$Program", "character", "(II)I"⟩, 69)) (by unfold lw_privs; exact List.mem_append_right _ (List.mem_append_right _ (List.mem_append_right _ (List.mem_append_right _ (List.mem_append_right _ (List.mem_append_right _ (List.mem_append_right _ (List.mem_append_left _ (List.mem_of_getElem? (i := 5) rfl)))))))))
theorem m11_179 : Cond.instanceMethod ⟨"HomeSystemModel$Program", "character", "(II)I"⟩ ∈ AL := AL_11 (List.mem_of_getElem? (i := 179) rfl) rfl
abbrev b_Mpg_readNumber : ByteArray := prog_16_method_12_code
def y_Mpg_readNumber : MethodName := ⟨"HomeSystemModel$Program", "readNumber", "(I)Z"⟩
theorem d_Mpg_readNumber_0 : decode b_Mpg_readNumber 0 = .ok (.aload_n 0, 1) := by decide +kernel
theorem d_Mpg_readNumber_1 : decode b_Mpg_readNumber 1 = .ok (.iload_n 1, 1) := by decide +kernel
theorem d_Mpg_readNumber_2 : decode b_Mpg_readNumber 2 = .ok (.invokevirtual 300, 3) := by decide +kernel
theorem d_Mpg_readNumber_5 : decode b_Mpg_readNumber 5 = .ok (.bipush 48, 2) := by decide +kernel
theorem d_Mpg_readNumber_7 : decode b_Mpg_readNumber 7 = .ok (.if_icmp .ne 19, 3) := by decide +kernel
theorem d_Mpg_readNumber_10 : decode b_Mpg_readNumber 10 = .ok (.aload_n 0, 1) := by decide +kernel
theorem d_Mpg_readNumber_11 : decode b_Mpg_readNumber 11 = .ok (.iload_n 1, 1) := by decide +kernel
theorem d_Mpg_readNumber_12 : decode b_Mpg_readNumber 12 = .ok (.iconst 1, 1) := by decide +kernel
theorem d_Mpg_readNumber_13 : decode b_Mpg_readNumber 13 = .ok (.iadd, 1) := by decide +kernel
theorem d_Mpg_readNumber_14 : decode b_Mpg_readNumber 14 = .ok (.invokevirtual 300, 3) := by decide +kernel
theorem d_Mpg_readNumber_17 : decode b_Mpg_readNumber 17 = .ok (.bipush 120, 2) := by decide +kernel
theorem d_Mpg_readNumber_19 : decode b_Mpg_readNumber 19 = .ok (.if_icmp .ne 7, 3) := by decide +kernel
theorem d_Mpg_readNumber_22 : decode b_Mpg_readNumber 22 = .ok (.iconst 1, 1) := by decide +kernel
theorem d_Mpg_readNumber_23 : decode b_Mpg_readNumber 23 = .ok (.goto 4, 3) := by decide +kernel
theorem d_Mpg_readNumber_26 : decode b_Mpg_readNumber 26 = .ok (.iconst 0, 1) := by decide +kernel
theorem d_Mpg_readNumber_27 : decode b_Mpg_readNumber 27 = .ok (.istore_n 2, 1) := by decide +kernel
theorem d_Mpg_readNumber_28 : decode b_Mpg_readNumber 28 = .ok (.iload_n 2, 1) := by decide +kernel
theorem d_Mpg_readNumber_29 : decode b_Mpg_readNumber 29 = .ok (.ifCond .eq 9, 3) := by decide +kernel
theorem d_Mpg_readNumber_32 : decode b_Mpg_readNumber 32 = .ok (.iload_n 1, 1) := by decide +kernel
theorem d_Mpg_readNumber_33 : decode b_Mpg_readNumber 33 = .ok (.iconst 2, 1) := by decide +kernel
theorem d_Mpg_readNumber_34 : decode b_Mpg_readNumber 34 = .ok (.iadd, 1) := by decide +kernel
theorem d_Mpg_readNumber_35 : decode b_Mpg_readNumber 35 = .ok (.goto 4, 3) := by decide +kernel
theorem d_Mpg_readNumber_38 : decode b_Mpg_readNumber 38 = .ok (.iload_n 1, 1) := by decide +kernel
theorem d_Mpg_readNumber_39 : decode b_Mpg_readNumber 39 = .ok (.istore_n 3, 1) := by decide +kernel
theorem d_Mpg_readNumber_40 : decode b_Mpg_readNumber 40 = .ok (.iconst 0, 1) := by decide +kernel
theorem d_Mpg_readNumber_41 : decode b_Mpg_readNumber 41 = .ok (.istore 4, 2) := by decide +kernel
theorem d_Mpg_readNumber_43 : decode b_Mpg_readNumber 43 = .ok (.lconst 0, 1) := by decide +kernel
theorem d_Mpg_readNumber_44 : decode b_Mpg_readNumber 44 = .ok (.lstore 5, 2) := by decide +kernel
theorem d_Mpg_readNumber_46 : decode b_Mpg_readNumber 46 = .ok (.iload_n 2, 1) := by decide +kernel
theorem d_Mpg_readNumber_47 : decode b_Mpg_readNumber 47 = .ok (.ifCond .eq 20, 3) := by decide +kernel
theorem d_Mpg_readNumber_50 : decode b_Mpg_readNumber 50 = .ok (.aload_n 0, 1) := by decide +kernel
theorem d_Mpg_readNumber_51 : decode b_Mpg_readNumber 51 = .ok (.iload_n 3, 1) := by decide +kernel
theorem d_Mpg_readNumber_52 : decode b_Mpg_readNumber 52 = .ok (.iload 4, 2) := by decide +kernel
theorem d_Mpg_readNumber_54 : decode b_Mpg_readNumber 54 = .ok (.iadd, 1) := by decide +kernel
theorem d_Mpg_readNumber_55 : decode b_Mpg_readNumber 55 = .ok (.invokevirtual 300, 3) := by decide +kernel
theorem d_Mpg_readNumber_58 : decode b_Mpg_readNumber 58 = .ok (.invokestatic 338, 3) := by decide +kernel
theorem d_Mpg_readNumber_61 : decode b_Mpg_readNumber 61 = .ok (.ifCond .lt 69, 3) := by decide +kernel
theorem d_Mpg_readNumber_64 : decode b_Mpg_readNumber 64 = .ok (.goto 17, 3) := by decide +kernel
theorem d_Mpg_readNumber_67 : decode b_Mpg_readNumber 67 = .ok (.aload_n 0, 1) := by decide +kernel
theorem d_Mpg_readNumber_68 : decode b_Mpg_readNumber 68 = .ok (.iload_n 3, 1) := by decide +kernel
theorem d_Mpg_readNumber_69 : decode b_Mpg_readNumber 69 = .ok (.iload 4, 2) := by decide +kernel
theorem d_Mpg_readNumber_71 : decode b_Mpg_readNumber 71 = .ok (.iadd, 1) := by decide +kernel
theorem d_Mpg_readNumber_72 : decode b_Mpg_readNumber 72 = .ok (.invokevirtual 300, 3) := by decide +kernel
theorem d_Mpg_readNumber_75 : decode b_Mpg_readNumber 75 = .ok (.invokestatic 296, 3) := by decide +kernel
theorem d_Mpg_readNumber_78 : decode b_Mpg_readNumber 78 = .ok (.ifCond .eq 52, 3) := by decide +kernel
theorem d_Mpg_readNumber_81 : decode b_Mpg_readNumber 81 = .ok (.iload 4, 2) := by decide +kernel
theorem d_Mpg_readNumber_83 : decode b_Mpg_readNumber 83 = .ok (.bipush 12, 2) := by decide +kernel
theorem d_Mpg_readNumber_85 : decode b_Mpg_readNumber 85 = .ok (.if_icmp .ge 35, 3) := by decide +kernel
theorem d_Mpg_readNumber_88 : decode b_Mpg_readNumber 88 = .ok (.lload 5, 2) := by decide +kernel
theorem d_Mpg_readNumber_90 : decode b_Mpg_readNumber 90 = .ok (.iload_n 2, 1) := by decide +kernel
theorem d_Mpg_readNumber_91 : decode b_Mpg_readNumber 91 = .ok (.ifCond .eq 9, 3) := by decide +kernel
theorem d_Mpg_readNumber_94 : decode b_Mpg_readNumber 94 = .ok (.ldc2_w 341, 3) := by decide +kernel
theorem d_Mpg_readNumber_97 : decode b_Mpg_readNumber 97 = .ok (.goto 6, 3) := by decide +kernel
theorem d_Mpg_readNumber_100 : decode b_Mpg_readNumber 100 = .ok (.ldc2_w 343, 3) := by decide +kernel
theorem d_Mpg_readNumber_103 : decode b_Mpg_readNumber 103 = .ok (.lmul, 1) := by decide +kernel
theorem d_Mpg_readNumber_104 : decode b_Mpg_readNumber 104 = .ok (.aload_n 0, 1) := by decide +kernel
theorem d_Mpg_readNumber_105 : decode b_Mpg_readNumber 105 = .ok (.iload_n 3, 1) := by decide +kernel
theorem d_Mpg_readNumber_106 : decode b_Mpg_readNumber 106 = .ok (.iload 4, 2) := by decide +kernel
theorem d_Mpg_readNumber_108 : decode b_Mpg_readNumber 108 = .ok (.iadd, 1) := by decide +kernel
theorem d_Mpg_readNumber_109 : decode b_Mpg_readNumber 109 = .ok (.invokevirtual 300, 3) := by decide +kernel
theorem d_Mpg_readNumber_112 : decode b_Mpg_readNumber 112 = .ok (.invokestatic 338, 3) := by decide +kernel
theorem d_Mpg_readNumber_115 : decode b_Mpg_readNumber 115 = .ok (.i2l, 1) := by decide +kernel
theorem d_Mpg_readNumber_116 : decode b_Mpg_readNumber 116 = .ok (.ladd, 1) := by decide +kernel
theorem d_Mpg_readNumber_117 : decode b_Mpg_readNumber 117 = .ok (.goto 5, 3) := by decide +kernel
theorem d_Mpg_readNumber_120 : decode b_Mpg_readNumber 120 = .ok (.lload 5, 2) := by decide +kernel
theorem d_Mpg_readNumber_122 : decode b_Mpg_readNumber 122 = .ok (.lstore 5, 2) := by decide +kernel
theorem d_Mpg_readNumber_124 : decode b_Mpg_readNumber 124 = .ok (.iinc 4 1, 3) := by decide +kernel
theorem d_Mpg_readNumber_127 : decode b_Mpg_readNumber 127 = .ok (.goto (-81), 3) := by decide +kernel
theorem d_Mpg_readNumber_130 : decode b_Mpg_readNumber 130 = .ok (.aload_n 0, 1) := by decide +kernel
theorem d_Mpg_readNumber_131 : decode b_Mpg_readNumber 131 = .ok (.iload_n 1, 1) := by decide +kernel
theorem d_Mpg_readNumber_132 : decode b_Mpg_readNumber 132 = .ok (.iload_n 3, 1) := by decide +kernel
theorem d_Mpg_readNumber_133 : decode b_Mpg_readNumber 133 = .ok (.iload_n 1, 1) := by decide +kernel
theorem d_Mpg_readNumber_134 : decode b_Mpg_readNumber 134 = .ok (.isub, 1) := by decide +kernel
theorem d_Mpg_readNumber_135 : decode b_Mpg_readNumber 135 = .ok (.iload 4, 2) := by decide +kernel
theorem d_Mpg_readNumber_137 : decode b_Mpg_readNumber 137 = .ok (.iadd, 1) := by decide +kernel
theorem d_Mpg_readNumber_138 : decode b_Mpg_readNumber 138 = .ok (.iconst 3, 1) := by decide +kernel
theorem d_Mpg_readNumber_139 : decode b_Mpg_readNumber 139 = .ok (.lload 5, 2) := by decide +kernel
theorem d_Mpg_readNumber_141 : decode b_Mpg_readNumber 141 = .ok (.l2i, 1) := by decide +kernel
theorem d_Mpg_readNumber_142 : decode b_Mpg_readNumber 142 = .ok (.invokevirtual 325, 3) := by decide +kernel
theorem d_Mpg_readNumber_145 : decode b_Mpg_readNumber 145 = .ok (.iload_n 2, 1) := by decide +kernel
theorem d_Mpg_readNumber_146 : decode b_Mpg_readNumber 146 = .ok (.ifCond .eq 24, 3) := by decide +kernel
theorem d_Mpg_readNumber_149 : decode b_Mpg_readNumber 149 = .ok (.iload 4, 2) := by decide +kernel
theorem d_Mpg_readNumber_151 : decode b_Mpg_readNumber 151 = .ok (.iconst 1, 1) := by decide +kernel
theorem d_Mpg_readNumber_152 : decode b_Mpg_readNumber 152 = .ok (.if_icmp .lt 14, 3) := by decide +kernel
theorem d_Mpg_readNumber_155 : decode b_Mpg_readNumber 155 = .ok (.iload 4, 2) := by decide +kernel
theorem d_Mpg_readNumber_157 : decode b_Mpg_readNumber 157 = .ok (.bipush 8, 2) := by decide +kernel
theorem d_Mpg_readNumber_159 : decode b_Mpg_readNumber 159 = .ok (.if_icmp .gt 7, 3) := by decide +kernel
theorem d_Mpg_readNumber_162 : decode b_Mpg_readNumber 162 = .ok (.iconst 1, 1) := by decide +kernel
theorem d_Mpg_readNumber_163 : decode b_Mpg_readNumber 163 = .ok (.goto 28, 3) := by decide +kernel
theorem d_Mpg_readNumber_166 : decode b_Mpg_readNumber 166 = .ok (.iconst 0, 1) := by decide +kernel
theorem d_Mpg_readNumber_167 : decode b_Mpg_readNumber 167 = .ok (.goto 24, 3) := by decide +kernel
theorem d_Mpg_readNumber_170 : decode b_Mpg_readNumber 170 = .ok (.iload 4, 2) := by decide +kernel
theorem d_Mpg_readNumber_172 : decode b_Mpg_readNumber 172 = .ok (.bipush 10, 2) := by decide +kernel
theorem d_Mpg_readNumber_174 : decode b_Mpg_readNumber 174 = .ok (.if_icmp .gt 16, 3) := by decide +kernel
theorem d_Mpg_readNumber_177 : decode b_Mpg_readNumber 177 = .ok (.lload 5, 2) := by decide +kernel
theorem d_Mpg_readNumber_179 : decode b_Mpg_readNumber 179 = .ok (.ldc2_w 345, 3) := by decide +kernel
theorem d_Mpg_readNumber_182 : decode b_Mpg_readNumber 182 = .ok (.lcmp, 1) := by decide +kernel
theorem d_Mpg_readNumber_183 : decode b_Mpg_readNumber 183 = .ok (.ifCond .ge 7, 3) := by decide +kernel
theorem d_Mpg_readNumber_186 : decode b_Mpg_readNumber 186 = .ok (.iconst 1, 1) := by decide +kernel
theorem d_Mpg_readNumber_187 : decode b_Mpg_readNumber 187 = .ok (.goto 4, 3) := by decide +kernel
theorem d_Mpg_readNumber_190 : decode b_Mpg_readNumber 190 = .ok (.iconst 0, 1) := by decide +kernel
theorem d_Mpg_readNumber_191 : decode b_Mpg_readNumber 191 = .ok (.ireturn, 1) := by decide +kernel
theorem q_Mpg_readNumber : px_y y_Mpg_readNumber 1 := by unfold px_y; decide +kernel
set_option maxHeartbeats 4000000 in
set_option maxRecDepth 100000 in
theorem c_mp_readNumber (l : Launch) (D : va_G) (cs : Nat → ClassId) (h : Nat) (r : Nat → Nat) (g : Nat → Nat → Option Nat) (pf : Nat → Int32) (na : Nat → Nat → Int32) (ma : Nat → Nat → Int32) (wa : Nat → Nat → Int32) (cf : Nat → Int32) (ca : Nat → Nat → Int32) (ef : Nat → Int32) (ea : Nat → Nat → Int32) (xf : Nat → Int32) (xa : Nat → Nat → Int32) (tf : Nat → Int32) (ta : Nat → Nat → Int32) (p0 : Int32)  (g0 : 0 ≤ (tf 5).toInt) (g1 : (tf 5).toInt ≤ 2048) (g2 : 0 ≤ p0.toInt) (g3 : p0.toInt < (tf 5).toInt) (g4 : 0 ≤ (tf 6).toInt) (g5 : (tf 6).toInt ≤ p0.toInt) (htp : TkP (tf 5).toInt ta (tf 6).toInt p0.toInt) (hdg : dgI (btR ta (tf 5).toInt p0.toInt) = 1) : MetI l y_Mpg_readNumber b_Mpg_readNumber 7 (.boolean) D cs 2 70 (0) (0) [.ref h, .int p0] [wdP cs h r g tf ta pf na ma wa cf ca ef ea xf xa] (fun _ => True) (fun v ps => ∃ (tf' : Nat → Int32) (ta' : Nat → Nat → Int32), (ps = [wdP cs h r g tf' ta' pf na ma wa cf ca ef ea xf xa]) ∧ (v = 0 ∨ v = 1) ∧ ((tf' 5).toInt = (tf 5).toInt) ∧ ((tf 6).toInt ≤ (tf' 6).toInt) ∧ ((tf' 6).toInt ≤ (tf 6).toInt + 1) ∧ (v.toInt = 1 → (tf' 6).toInt = (tf 6).toInt + 1) ∧ (RdK (tf 5).toInt ta' (tf 6) v p0) ∧ (R_mp_readNumber p0 tf ta tf' ta' v)) := by
  refine px_enter (by decide) (Nat.le_of_ble_eq_true rfl) ?_
  intro p e s m below meth c A ls hAe S hr hlk hnm hA hT hX hw hl
  have hl : lv_has ls 7 [(0, .ref h), (1, .int p0)] := hl
  have lp0 := Int32.le_toInt p0
  have up0 := Int32.toInt_lt p0
  have cst0 : (0 : Int32).toInt = 0 := rfl
  have cst1 : (1 : Int32).toInt = 1 := rfl
  have cst2 : (2 : Int32).toInt = 2 := rfl
  have cst3 : (3 : Int32).toInt = 3 := rfl
  have cst8 : (8 : Int32).toInt = 8 := rfl
  have cst10 : (10 : Int32).toInt = 10 := rfl
  have cst12 : (12 : Int32).toInt = 12 := rfl
  have cst48 : (48 : Int32).toInt = 48 := rfl
  have cst120 : (120 : Int32).toInt = 120 := rfl
  have J46 : ∀ (n_46 : Nat)  (x46_2 x46_3 x46_4 : Int32) (x46_5 : Int64) (H : Heap) (locs : List Loc) (ls : Array Slot), (0 ≤ x46_2.toInt) → (x46_2.toInt ≤ 1) → (x46_2.toInt = 1 → x46_3.toInt = p0.toInt + 2) → (x46_2.toInt = 0 → x46_3.toInt = p0.toInt) → (0 ≤ x46_4.toInt) → (x46_3.toInt + x46_4.toInt ≤ (tf 5).toInt ∨ x46_4.toInt = 0) → (x46_2.toInt = 1 → p0.toInt + 2 ≤ (tf 5).toInt) → (K_mp_readNumber_46 p0 tf ta tf ta x46_2 x46_3 x46_4 x46_5) → (tf 5).toInt + 3 - x46_3.toInt - x46_4.toInt < (n_46 : Int) → pw D A s.heap H locs [wdP cs h r g tf ta pf na ma wa cf ca ef ea xf xa] → lv_has ls 7 [(0, .ref h), (1, .int p0), (2, .int x46_2), (3, .int x46_3), (4, .int x46_4), (5, .long x46_5)] → W p l e { frames := 2, cells := 0, slots := 0, locals := 70 } s m [.ref h, .int p0].toArray below meth c H locs 0 0 (MQ below (va_Qi (fun v ps => ∃ (tf' : Nat → Int32) (ta' : Nat → Nat → Int32), (ps = [wdP cs h r g tf' ta' pf na ma wa cf ca ef ea xf xa]) ∧ (v = 0 ∨ v = 1) ∧ ((tf' 5).toInt = (tf 5).toInt) ∧ ((tf 6).toInt ≤ (tf' 6).toInt) ∧ ((tf' 6).toInt ≤ (tf 6).toInt + 1) ∧ (v.toInt = 1 → (tf' 6).toInt = (tf 6).toInt + 1) ∧ (RdK (tf 5).toInt ta' (tf 6) v p0) ∧ (R_mp_readNumber p0 tf ta tf' ta' v)) (pc_B D (va_A ([wdP cs h r g tf ta pf na ma wa cf ca ef ea xf xa] : List va_W).flatten s.heap.size)) (va_A ([wdP cs h r g tf ta pf na ma wa cf ca ef ea xf xa] : List va_W).flatten s.heap.size)) [.ref h, .int p0].toArray s 0 0 A) (F0 m 46 ls []) := by
    intro n_46
    induction n_46 with
    | zero =>
      intro x46_2 x46_3 x46_4 x46_5 H locs ls k46_0 k46_1 k46_2 k46_3 k46_4 k46_5 k46_6 k46_7 hm hw hl
      have lx46_2 := Int32.le_toInt x46_2
      have ux46_2 := Int32.toInt_lt x46_2
      have lx46_3 := Int32.le_toInt x46_3
      have ux46_3 := Int32.toInt_lt x46_3
      have lx46_4 := Int32.le_toInt x46_4
      have ux46_4 := Int32.toInt_lt x46_4
      exact absurd hm (by omega)
    | succ n_46 ih46 =>
      intro x46_2 x46_3 x46_4 x46_5 H locs ls k46_0 k46_1 k46_2 k46_3 k46_4 k46_5 k46_6 k46_7 hm hw hl
      have lx46_2 := Int32.le_toInt x46_2
      have ux46_2 := Int32.toInt_lt x46_2
      have lx46_3 := Int32.le_toInt x46_3
      have ux46_3 := Int32.toInt_lt x46_3
      have lx46_4 := Int32.le_toInt x46_4
      have ux46_4 := Int32.toInt_lt x46_4
      refine lv_iload_n S.x S.b d_Mpg_readNumber_46 rfl (lv_at hl 2 rfl) ?_
      refine lv_if_eq (tgt := 67) S.x S.b d_Mpg_readNumber_47 (by decide) (fun c1 => ?_) (fun c1 => ?_)
      · have nc1 : x46_2.toInt = (0 : Int) := (i_eq (x := x46_2) (y := 0)).mp c1
        refine lv_aload_n S.x S.b d_Mpg_readNumber_67 rfl (lv_at hl 0 rfl) ?_
        refine lv_iload_n S.x S.b d_Mpg_readNumber_68 rfl (lv_at hl 3 rfl) ?_
        refine lv_iload S.x S.b d_Mpg_readNumber_69 (lv_at hl 4 rfl) ?_
        refine lv_iadd S.x S.b d_Mpg_readNumber_71 ?_
        refine lv_topi (fun z3 ez3 => ?_)
        have tz3 : z3.toInt = (x46_3.toInt + x46_4.toInt + 2147483648) % 4294967296 - 2147483648 := by rw [ez3]; exact i_add x46_3 x46_4
        have lz3 := Int32.le_toInt z3
        have uz3 := Int32.toInt_lt z3
        try replace tz3 : z3.toInt = x46_3.toInt + x46_4.toInt := by omega
        first | refine px_calli (pr := []) (px_runV (As := [.int z3]) (rest := []) S (c_mp_byteAt l D cs h r g tf ta pf na ma wa cf ca ef ea xf xa z3  (show 0 ≤ (tf 5).toInt from g0) (show (tf 5).toInt ≤ 2048 from g1) (show 0 ≤ z3.toInt from (oz_0e60057f66 tz3 k46_4 nc1 k46_0 k46_3 g2)) _) hT (pr := []) (pcs := [wdP cs h r g tf ta pf na ma wa cf ca ef ea xf xa]) hw px_X.tt (px_recv hT hw 0 0 rfl rfl rfl) m11_142 m11_139 m11_141 ms_7_15 m1_21 q_Mpg_byteAt ⟨Nat.le_of_ble_eq_true rfl, Nat.le_of_ble_eq_true rfl⟩ hl.1 rfl (Nat.le_of_ble_eq_true rfl) d_Mpg_readNumber_72 ⟨Nat.le_of_ble_eq_true rfl, Nat.le_of_ble_eq_true rfl⟩) hw hA (fun v5 p4 H locs hp4 hw => ?_) | (refine px_calli (pr := []) (px_runV (As := [.int z3]) (rest := []) S (c_mp_byteAt l D cs h r g tf ta pf na ma wa cf ca ef ea xf xa z3  (show 0 ≤ (tf 5).toInt from by first | exact g0 | omega) (show (tf 5).toInt ≤ 2048 from by first | exact g1 | omega) (show 0 ≤ z3.toInt from by first | exact oz_0e60057f66 tz3 k46_4 nc1 k46_0 k46_3 g2 | omega) _) hT (pr := []) (pcs := [wdP cs h r g tf ta pf na ma wa cf ca ef ea xf xa]) hw px_X.tt (px_recv hT hw 0 0 rfl rfl rfl) m11_142 m11_139 m11_141 ms_7_15 m1_21 q_Mpg_byteAt ⟨Nat.le_of_ble_eq_true rfl, Nat.le_of_ble_eq_true rfl⟩ hl.1 rfl (Nat.le_of_ble_eq_true rfl) d_Mpg_readNumber_72 ⟨Nat.le_of_ble_eq_true rfl, Nat.le_of_ble_eq_true rfl⟩) hw hA (fun v5 p4 H locs hp4 hw => ?_))
        obtain ⟨rfl, e6, e7, e8⟩ := hp4
        have e6 : z3.toInt < (tf 5).toInt ∨ v5.toInt = -1 := e6
        have e7 : BtV ta (tf 5).toInt z3.toInt v5.toInt := e7
        have e8 : R_mp_byteAt tf ta z3 v5 := e8
        have lv5 := Int32.le_toInt v5
        have uv5 := Int32.toInt_lt v5
        refine px_calli (pr := [wdP cs h r g tf ta pf na ma wa cf ca ef ea xf xa]) (px_runS (As := [.int v5]) (rest := []) S (c_mp_isDigit l D cs  v5   _) hT (pr := [wdP cs h r g tf ta pf na ma wa cf ca ef ea xf xa]) (pcs := []) hw px_X.tt m11_152 m11_150 m11_151 m1_21 q_Mpg_isDigit ⟨Nat.le_of_ble_eq_true rfl, Nat.le_of_ble_eq_true rfl⟩ hl.1 rfl (Nat.le_of_ble_eq_true rfl) d_Mpg_readNumber_75 ⟨Nat.le_of_ble_eq_true rfl, Nat.le_of_ble_eq_true rfl⟩) hw hA (fun v10 p9 H locs hp9 hw => ?_)
        obtain ⟨rfl, e11, e12, e13, e14⟩ := hp9
        have e11 := z_rng e11
        have e12 : v10.toInt = 1 → 48 ≤ v5.toInt ∧ v5.toInt ≤ 57 := e12
        have e13 : DgV v5.toInt v10.toInt := e13
        have e14 : R_mp_isDigit v5 v10 := e14
        have lv10 := Int32.le_toInt v10
        have uv10 := Int32.toInt_lt v10
        have hpos75 : v10.toInt = 0 → z3.toInt = p0.toInt + x46_4.toInt → ¬ x46_4.toInt = 0 := fun q1 q2 => dg_pos hdg (show BtV ta (tf 5).toInt z3.toInt v5.toInt by assumption) (show DgV v5.toInt v10.toInt by assumption) q1 q2
        refine lv_if_eq (tgt := 130) S.x S.b d_Mpg_readNumber_78 (by decide) (fun c15 => ?_) (fun c15 => ?_)
        · have nc15 : v10.toInt = (0 : Int) := (i_eq (x := v10) (y := 0)).mp c15
          refine lv_aload_n S.x S.b d_Mpg_readNumber_130 rfl (lv_at hl 0 rfl) ?_
          refine lv_iload_n S.x S.b d_Mpg_readNumber_131 rfl (lv_at hl 1 rfl) ?_
          refine lv_iload_n S.x S.b d_Mpg_readNumber_132 rfl (lv_at hl 3 rfl) ?_
          refine lv_iload_n S.x S.b d_Mpg_readNumber_133 rfl (lv_at hl 1 rfl) ?_
          refine lv_isub S.x S.b d_Mpg_readNumber_134 ?_
          refine lv_topi (fun z17 ez17 => ?_)
          have tz17 : z17.toInt = (x46_3.toInt - p0.toInt + 2147483648) % 4294967296 - 2147483648 := by rw [ez17]; exact i_sub x46_3 p0
          have lz17 := Int32.le_toInt z17
          have uz17 := Int32.toInt_lt z17
          try replace tz17 : z17.toInt = x46_3.toInt - p0.toInt := by omega
          refine lv_iload S.x S.b d_Mpg_readNumber_135 (lv_at hl 4 rfl) ?_
          refine lv_iadd S.x S.b d_Mpg_readNumber_137 ?_
          refine lv_topi (fun z18 ez18 => ?_)
          have tz18 : z18.toInt = (z17.toInt + x46_4.toInt + 2147483648) % 4294967296 - 2147483648 := by rw [ez18]; exact i_add z17 x46_4
          have lz18 := Int32.le_toInt z18
          have uz18 := Int32.toInt_lt z18
          try replace tz18 : z18.toInt = z17.toInt + x46_4.toInt := by omega
          refine lv_iconst (v := 3) S.x S.b d_Mpg_readNumber_138 (by decide) ?_
          refine lv_lload S.x S.b d_Mpg_readNumber_139 (lv_at hl 5 rfl) ?_
          refine lv_l2i S.x S.b d_Mpg_readNumber_141 rfl ?_
          refine lv_topi (fun z19 ez19 => ?_)
          have lz19 := Int32.le_toInt z19
          have uz19 := Int32.toInt_lt z19
          first | refine px_callv (pr := []) (px_runV (As := [.int p0, .int z18, .int 3, .int z19]) (rest := []) S (c_mp_token l D cs h r g pf na ma wa cf ca ef ea xf xa tf ta p0 z18 3 z19  (show 0 ≤ (tf 6).toInt from g4) (show (tf 6).toInt ≤ 2059 from (oz_9dfb4af2f5 g5 g3 g1)) _) hT (pr := []) (pcs := [wdP cs h r g tf ta pf na ma wa cf ca ef ea xf xa]) hw px_X.tt (px_recv hT hw 0 0 rfl rfl rfl) m11_166 m11_163 m11_165 ms_8_3 m1_21 q_Mpg_token ⟨Nat.le_of_ble_eq_true rfl, Nat.le_of_ble_eq_true rfl⟩ hl.1 rfl (Nat.le_of_ble_eq_true rfl) d_Mpg_readNumber_142 ⟨Nat.le_of_ble_eq_true rfl, Nat.le_of_ble_eq_true rfl⟩) hw hA (fun p24 H locs hp24 hw => ?_) | (refine px_callv (pr := []) (px_runV (As := [.int p0, .int z18, .int 3, .int z19]) (rest := []) S (c_mp_token l D cs h r g pf na ma wa cf ca ef ea xf xa tf ta p0 z18 3 z19  (show 0 ≤ (tf 6).toInt from by first | exact g4 | omega) (show (tf 6).toInt ≤ 2059 from by first | exact oz_9dfb4af2f5 g5 g3 g1 | omega) _) hT (pr := []) (pcs := [wdP cs h r g tf ta pf na ma wa cf ca ef ea xf xa]) hw px_X.tt (px_recv hT hw 0 0 rfl rfl rfl) m11_166 m11_163 m11_165 ms_8_3 m1_21 q_Mpg_token ⟨Nat.le_of_ble_eq_true rfl, Nat.le_of_ble_eq_true rfl⟩ hl.1 rfl (Nat.le_of_ble_eq_true rfl) d_Mpg_readNumber_142 ⟨Nat.le_of_ble_eq_true rfl, Nat.le_of_ble_eq_true rfl⟩) hw hA (fun p24 H locs hp24 hw => ?_))
          obtain ⟨tf22, ta23, rfl, e26, e27, e28, e29⟩ := hp24
          have e26 : (tf22 6).toInt = (tf 6).toInt + 1 := e26
          have e27 : (tf22 5).toInt = (tf 5).toInt := e27
          have e28 : TkU ta ta23 (tf 6) p0 z18 (3 : Int32) z19 := e28
          have e29 : R_mp_token p0 z18 (3 : Int32) z19 tf ta tf22 ta23 := e29
          refine lv_iload_n S.x S.b d_Mpg_readNumber_145 rfl (lv_at hl 2 rfl) ?_
          refine lv_if_eq (tgt := 170) S.x S.b d_Mpg_readNumber_146 (by decide) (fun c30 => ?_) (fun c30 => ?_)
          · have nc30 : x46_2.toInt = (0 : Int) := (i_eq (x := x46_2) (y := 0)).mp c30
            refine lv_iload S.x S.b d_Mpg_readNumber_170 (lv_at hl 4 rfl) ?_
            refine lv_bipush (v := 10) S.x S.b d_Mpg_readNumber_172 (by decide) ?_
            refine lv_icmp_gt (tgt := 190) S.x S.b d_Mpg_readNumber_174 (by decide) (fun c32 => ?_) (fun c32 => ?_)
            · have nc32 : (10 : Int) < x46_4.toInt := (i_lt (x := 10) (y := x46_4)).mp c32
              refine lv_iconst (v := 0) S.x S.b d_Mpg_readNumber_190 (by decide) ?_
              first | exact px_iret (v := 0) S hr rfl hlk hAe hw (Nat.le_of_ble_eq_true rfl) (Nat.le_of_ble_eq_true rfl) (⟨tf22, ta23, rfl, (show (0 : Int32) = 0 ∨ (0 : Int32) = 1 from by first | exact Or.inl rfl | exact Or.inr rfl | exact z_or (by omega)), (show (tf22 5).toInt = (tf 5).toInt from e27), (show (tf 6).toInt ≤ (tf22 6).toInt from (oz_7db54039c4 e26)), (show (tf22 6).toInt ≤ (tf 6).toInt + 1 from (oz_6ad8cf7f07 e26)), (show (0 : Int) = 1 → (tf22 6).toInt = (tf 6).toInt + 1 from by omega), (show RdK (tf 5).toInt ta23 (tf 6) (0 : Int32) p0 from (by first | exact rdk_n htp (by assumption) (by omega) (by omega) | exact rdk_0 htp (by omega))), (show R_mp_readNumber p0 tf ta tf22 ta23 (0 : Int32) from (k46_7 _ _ _ 1 (Or.inr (Or.inl ⟨rfl, x46_2, x46_3, x46_4, x46_5, rfl, rfl, rfl, rfl, rfl, Or.inl ⟨nc1, z3, ez3, v5, e8, v10, e14, Or.inl ⟨nc15, z17, ez17, z18, ez18, z19, ez19, tf22, ta23, e29, Or.inl ⟨nc30, Or.inl ⟨nc32, rfl, rfl, rfl⟩⟩⟩⟩⟩))))⟩) d_Mpg_readNumber_191 | (exact px_iret (v := 0) S hr rfl hlk hAe hw (Nat.le_of_ble_eq_true rfl) (Nat.le_of_ble_eq_true rfl) (⟨tf22, ta23, rfl, (show (0 : Int32) = 0 ∨ (0 : Int32) = 1 from by first | exact Or.inl rfl | exact Or.inr rfl | exact z_or (by omega)), (show (tf22 5).toInt = (tf 5).toInt from by first | exact e27 | omega), (show (tf 6).toInt ≤ (tf22 6).toInt from by first | exact oz_7db54039c4 e26 | omega), (show (tf22 6).toInt ≤ (tf 6).toInt + 1 from by first | exact oz_6ad8cf7f07 e26 | omega), (show (0 : Int) = 1 → (tf22 6).toInt = (tf 6).toInt + 1 from by omega), (show RdK (tf 5).toInt ta23 (tf 6) (0 : Int32) p0 from (by first | exact rdk_n htp (by assumption) (by omega) (by omega) | exact rdk_0 htp (by omega))), (show R_mp_readNumber p0 tf ta tf22 ta23 (0 : Int32) from (k46_7 _ _ _ 1 (Or.inr (Or.inl ⟨rfl, x46_2, x46_3, x46_4, x46_5, rfl, rfl, rfl, rfl, rfl, Or.inl ⟨nc1, z3, ez3, v5, e8, v10, e14, Or.inl ⟨nc15, z17, ez17, z18, ez18, z19, ez19, tf22, ta23, e29, Or.inl ⟨nc30, Or.inl ⟨nc32, rfl, rfl, rfl⟩⟩⟩⟩⟩))))⟩) d_Mpg_readNumber_191)
            · have nc32 : ¬ (10 : Int) < x46_4.toInt := mt (i_lt (x := 10) (y := x46_4)).mpr c32
              refine lv_lload S.x S.b d_Mpg_readNumber_177 (lv_at hl 5 rfl) ?_
              refine lv_ldc2 (v := 4294967296) S.x S.b S.own (S.w m11_176) d_Mpg_readNumber_179 ?_
              refine W.lcmp S.x S.b d_Mpg_readNumber_182 ?_
              refine lv_topi (fun z34 ez34 => ?_)
              have lz34 := Int32.le_toInt z34
              have uz34 := Int32.toInt_lt z34
              refine lv_if_ge (tgt := 190) S.x S.b d_Mpg_readNumber_183 (by decide) (fun c35 => ?_) (fun c35 => ?_)
              · have nc35 : (0 : Int) ≤ z34.toInt := (i_le (x := 0) (y := z34)).mp c35
                refine lv_iconst (v := 0) S.x S.b d_Mpg_readNumber_190 (by decide) ?_
                first | exact px_iret (v := 0) S hr rfl hlk hAe hw (Nat.le_of_ble_eq_true rfl) (Nat.le_of_ble_eq_true rfl) (⟨tf22, ta23, rfl, (show (0 : Int32) = 0 ∨ (0 : Int32) = 1 from by first | exact Or.inl rfl | exact Or.inr rfl | exact z_or (by omega)), (show (tf22 5).toInt = (tf 5).toInt from e27), (show (tf 6).toInt ≤ (tf22 6).toInt from (oz_7db54039c4 e26)), (show (tf22 6).toInt ≤ (tf 6).toInt + 1 from (oz_6ad8cf7f07 e26)), (show (0 : Int) = 1 → (tf22 6).toInt = (tf 6).toInt + 1 from by omega), (show RdK (tf 5).toInt ta23 (tf 6) (0 : Int32) p0 from (by first | exact rdk_n htp (by assumption) (by omega) (by omega) | exact rdk_0 htp (by omega))), (show R_mp_readNumber p0 tf ta tf22 ta23 (0 : Int32) from (k46_7 _ _ _ 1 (Or.inr (Or.inl ⟨rfl, x46_2, x46_3, x46_4, x46_5, rfl, rfl, rfl, rfl, rfl, Or.inl ⟨nc1, z3, ez3, v5, e8, v10, e14, Or.inl ⟨nc15, z17, ez17, z18, ez18, z19, ez19, tf22, ta23, e29, Or.inl ⟨nc30, Or.inr ⟨nc32, z34, ez34, Or.inl ⟨nc35, rfl, rfl, rfl⟩⟩⟩⟩⟩⟩))))⟩) d_Mpg_readNumber_191 | (exact px_iret (v := 0) S hr rfl hlk hAe hw (Nat.le_of_ble_eq_true rfl) (Nat.le_of_ble_eq_true rfl) (⟨tf22, ta23, rfl, (show (0 : Int32) = 0 ∨ (0 : Int32) = 1 from by first | exact Or.inl rfl | exact Or.inr rfl | exact z_or (by omega)), (show (tf22 5).toInt = (tf 5).toInt from by first | exact e27 | omega), (show (tf 6).toInt ≤ (tf22 6).toInt from by first | exact oz_7db54039c4 e26 | omega), (show (tf22 6).toInt ≤ (tf 6).toInt + 1 from by first | exact oz_6ad8cf7f07 e26 | omega), (show (0 : Int) = 1 → (tf22 6).toInt = (tf 6).toInt + 1 from by omega), (show RdK (tf 5).toInt ta23 (tf 6) (0 : Int32) p0 from (by first | exact rdk_n htp (by assumption) (by omega) (by omega) | exact rdk_0 htp (by omega))), (show R_mp_readNumber p0 tf ta tf22 ta23 (0 : Int32) from (k46_7 _ _ _ 1 (Or.inr (Or.inl ⟨rfl, x46_2, x46_3, x46_4, x46_5, rfl, rfl, rfl, rfl, rfl, Or.inl ⟨nc1, z3, ez3, v5, e8, v10, e14, Or.inl ⟨nc15, z17, ez17, z18, ez18, z19, ez19, tf22, ta23, e29, Or.inl ⟨nc30, Or.inr ⟨nc32, z34, ez34, Or.inl ⟨nc35, rfl, rfl, rfl⟩⟩⟩⟩⟩⟩))))⟩) d_Mpg_readNumber_191)
              · have nc35 : ¬ (0 : Int) ≤ z34.toInt := mt (i_le (x := 0) (y := z34)).mpr c35
                refine lv_iconst (v := 1) S.x S.b d_Mpg_readNumber_186 (by decide) ?_
                refine lv_goto (tgt := 191) S.x S.b d_Mpg_readNumber_187 (by decide) ?_
                first | exact px_iret (v := 1) S hr rfl hlk hAe hw (Nat.le_of_ble_eq_true rfl) (Nat.le_of_ble_eq_true rfl) (⟨tf22, ta23, rfl, (show (1 : Int32) = 0 ∨ (1 : Int32) = 1 from by first | exact Or.inl rfl | exact Or.inr rfl | exact z_or (by omega)), (show (tf22 5).toInt = (tf 5).toInt from e27), (show (tf 6).toInt ≤ (tf22 6).toInt from (oz_7db54039c4 e26)), (show (tf22 6).toInt ≤ (tf 6).toInt + 1 from (oz_6ad8cf7f07 e26)), (show (1 : Int) = 1 → (tf22 6).toInt = (tf 6).toInt + 1 from by omega), (show RdK (tf 5).toInt ta23 (tf 6) (1 : Int32) p0 from (rdk_y htp (by assumption) (by omega) ⟨⟨by omega, by omega⟩, ⟨by omega, by omega, by omega⟩, fun h => ⟨by omega, by omega, by omega⟩, fun h => ⟨by omega, by omega, by omega⟩, fun h => ⟨by omega, by omega, by omega⟩⟩)), (show R_mp_readNumber p0 tf ta tf22 ta23 (1 : Int32) from (k46_7 _ _ _ 1 (Or.inr (Or.inl ⟨rfl, x46_2, x46_3, x46_4, x46_5, rfl, rfl, rfl, rfl, rfl, Or.inl ⟨nc1, z3, ez3, v5, e8, v10, e14, Or.inl ⟨nc15, z17, ez17, z18, ez18, z19, ez19, tf22, ta23, e29, Or.inl ⟨nc30, Or.inr ⟨nc32, z34, ez34, Or.inr ⟨nc35, rfl, rfl, rfl⟩⟩⟩⟩⟩⟩))))⟩) d_Mpg_readNumber_191 | (exact px_iret (v := 1) S hr rfl hlk hAe hw (Nat.le_of_ble_eq_true rfl) (Nat.le_of_ble_eq_true rfl) (⟨tf22, ta23, rfl, (show (1 : Int32) = 0 ∨ (1 : Int32) = 1 from by first | exact Or.inl rfl | exact Or.inr rfl | exact z_or (by omega)), (show (tf22 5).toInt = (tf 5).toInt from by first | exact e27 | omega), (show (tf 6).toInt ≤ (tf22 6).toInt from by first | exact oz_7db54039c4 e26 | omega), (show (tf22 6).toInt ≤ (tf 6).toInt + 1 from by first | exact oz_6ad8cf7f07 e26 | omega), (show (1 : Int) = 1 → (tf22 6).toInt = (tf 6).toInt + 1 from by omega), (show RdK (tf 5).toInt ta23 (tf 6) (1 : Int32) p0 from (rdk_y htp (by assumption) (by omega) ⟨⟨by omega, by omega⟩, ⟨by omega, by omega, by omega⟩, fun h => ⟨by omega, by omega, by omega⟩, fun h => ⟨by omega, by omega, by omega⟩, fun h => ⟨by omega, by omega, by omega⟩⟩)), (show R_mp_readNumber p0 tf ta tf22 ta23 (1 : Int32) from (k46_7 _ _ _ 1 (Or.inr (Or.inl ⟨rfl, x46_2, x46_3, x46_4, x46_5, rfl, rfl, rfl, rfl, rfl, Or.inl ⟨nc1, z3, ez3, v5, e8, v10, e14, Or.inl ⟨nc15, z17, ez17, z18, ez18, z19, ez19, tf22, ta23, e29, Or.inl ⟨nc30, Or.inr ⟨nc32, z34, ez34, Or.inr ⟨nc35, rfl, rfl, rfl⟩⟩⟩⟩⟩⟩))))⟩) d_Mpg_readNumber_191)
          · have nc30 : ¬ x46_2.toInt = (0 : Int) := mt (i_eq (x := x46_2) (y := 0)).mpr c30
            refine lv_iload S.x S.b d_Mpg_readNumber_149 (lv_at hl 4 rfl) ?_
            refine lv_iconst (v := 1) S.x S.b d_Mpg_readNumber_151 (by decide) ?_
            refine lv_icmp_lt (tgt := 166) S.x S.b d_Mpg_readNumber_152 (by decide) (fun c37 => ?_) (fun c37 => ?_)
            · have nc37 : x46_4.toInt < (1 : Int) := (i_lt (x := x46_4) (y := 1)).mp c37
              refine lv_iconst (v := 0) S.x S.b d_Mpg_readNumber_166 (by decide) ?_
              refine lv_goto (tgt := 191) S.x S.b d_Mpg_readNumber_167 (by decide) ?_
              first | exact px_iret (v := 0) S hr rfl hlk hAe hw (Nat.le_of_ble_eq_true rfl) (Nat.le_of_ble_eq_true rfl) (⟨tf22, ta23, rfl, (show (0 : Int32) = 0 ∨ (0 : Int32) = 1 from by first | exact Or.inl rfl | exact Or.inr rfl | exact z_or (by omega)), (show (tf22 5).toInt = (tf 5).toInt from e27), (show (tf 6).toInt ≤ (tf22 6).toInt from (oz_7db54039c4 e26)), (show (tf22 6).toInt ≤ (tf 6).toInt + 1 from (oz_6ad8cf7f07 e26)), (show (0 : Int) = 1 → (tf22 6).toInt = (tf 6).toInt + 1 from by omega), (show RdK (tf 5).toInt ta23 (tf 6) (0 : Int32) p0 from (by first | exact rdk_n htp (by assumption) (by omega) (by omega) | exact rdk_0 htp (by omega))), (show R_mp_readNumber p0 tf ta tf22 ta23 (0 : Int32) from (k46_7 _ _ _ 1 (Or.inr (Or.inl ⟨rfl, x46_2, x46_3, x46_4, x46_5, rfl, rfl, rfl, rfl, rfl, Or.inl ⟨nc1, z3, ez3, v5, e8, v10, e14, Or.inl ⟨nc15, z17, ez17, z18, ez18, z19, ez19, tf22, ta23, e29, Or.inr ⟨nc30, Or.inl ⟨nc37, rfl, rfl, rfl⟩⟩⟩⟩⟩))))⟩) d_Mpg_readNumber_191 | (exact px_iret (v := 0) S hr rfl hlk hAe hw (Nat.le_of_ble_eq_true rfl) (Nat.le_of_ble_eq_true rfl) (⟨tf22, ta23, rfl, (show (0 : Int32) = 0 ∨ (0 : Int32) = 1 from by first | exact Or.inl rfl | exact Or.inr rfl | exact z_or (by omega)), (show (tf22 5).toInt = (tf 5).toInt from by first | exact e27 | omega), (show (tf 6).toInt ≤ (tf22 6).toInt from by first | exact oz_7db54039c4 e26 | omega), (show (tf22 6).toInt ≤ (tf 6).toInt + 1 from by first | exact oz_6ad8cf7f07 e26 | omega), (show (0 : Int) = 1 → (tf22 6).toInt = (tf 6).toInt + 1 from by omega), (show RdK (tf 5).toInt ta23 (tf 6) (0 : Int32) p0 from (by first | exact rdk_n htp (by assumption) (by omega) (by omega) | exact rdk_0 htp (by omega))), (show R_mp_readNumber p0 tf ta tf22 ta23 (0 : Int32) from (k46_7 _ _ _ 1 (Or.inr (Or.inl ⟨rfl, x46_2, x46_3, x46_4, x46_5, rfl, rfl, rfl, rfl, rfl, Or.inl ⟨nc1, z3, ez3, v5, e8, v10, e14, Or.inl ⟨nc15, z17, ez17, z18, ez18, z19, ez19, tf22, ta23, e29, Or.inr ⟨nc30, Or.inl ⟨nc37, rfl, rfl, rfl⟩⟩⟩⟩⟩))))⟩) d_Mpg_readNumber_191)
            · have nc37 : ¬ x46_4.toInt < (1 : Int) := mt (i_lt (x := x46_4) (y := 1)).mpr c37
              refine lv_iload S.x S.b d_Mpg_readNumber_155 (lv_at hl 4 rfl) ?_
              refine lv_bipush (v := 8) S.x S.b d_Mpg_readNumber_157 (by decide) ?_
              refine lv_icmp_gt (tgt := 166) S.x S.b d_Mpg_readNumber_159 (by decide) (fun c39 => ?_) (fun c39 => ?_)
              · have nc39 : (8 : Int) < x46_4.toInt := (i_lt (x := 8) (y := x46_4)).mp c39
                refine lv_iconst (v := 0) S.x S.b d_Mpg_readNumber_166 (by decide) ?_
                refine lv_goto (tgt := 191) S.x S.b d_Mpg_readNumber_167 (by decide) ?_
                first | exact px_iret (v := 0) S hr rfl hlk hAe hw (Nat.le_of_ble_eq_true rfl) (Nat.le_of_ble_eq_true rfl) (⟨tf22, ta23, rfl, (show (0 : Int32) = 0 ∨ (0 : Int32) = 1 from by first | exact Or.inl rfl | exact Or.inr rfl | exact z_or (by omega)), (show (tf22 5).toInt = (tf 5).toInt from e27), (show (tf 6).toInt ≤ (tf22 6).toInt from (oz_7db54039c4 e26)), (show (tf22 6).toInt ≤ (tf 6).toInt + 1 from (oz_6ad8cf7f07 e26)), (show (0 : Int) = 1 → (tf22 6).toInt = (tf 6).toInt + 1 from by omega), (show RdK (tf 5).toInt ta23 (tf 6) (0 : Int32) p0 from (by first | exact rdk_n htp (by assumption) (by omega) (by omega) | exact rdk_0 htp (by omega))), (show R_mp_readNumber p0 tf ta tf22 ta23 (0 : Int32) from (k46_7 _ _ _ 1 (Or.inr (Or.inl ⟨rfl, x46_2, x46_3, x46_4, x46_5, rfl, rfl, rfl, rfl, rfl, Or.inl ⟨nc1, z3, ez3, v5, e8, v10, e14, Or.inl ⟨nc15, z17, ez17, z18, ez18, z19, ez19, tf22, ta23, e29, Or.inr ⟨nc30, Or.inr ⟨nc37, Or.inl ⟨nc39, rfl, rfl, rfl⟩⟩⟩⟩⟩⟩))))⟩) d_Mpg_readNumber_191 | (exact px_iret (v := 0) S hr rfl hlk hAe hw (Nat.le_of_ble_eq_true rfl) (Nat.le_of_ble_eq_true rfl) (⟨tf22, ta23, rfl, (show (0 : Int32) = 0 ∨ (0 : Int32) = 1 from by first | exact Or.inl rfl | exact Or.inr rfl | exact z_or (by omega)), (show (tf22 5).toInt = (tf 5).toInt from by first | exact e27 | omega), (show (tf 6).toInt ≤ (tf22 6).toInt from by first | exact oz_7db54039c4 e26 | omega), (show (tf22 6).toInt ≤ (tf 6).toInt + 1 from by first | exact oz_6ad8cf7f07 e26 | omega), (show (0 : Int) = 1 → (tf22 6).toInt = (tf 6).toInt + 1 from by omega), (show RdK (tf 5).toInt ta23 (tf 6) (0 : Int32) p0 from (by first | exact rdk_n htp (by assumption) (by omega) (by omega) | exact rdk_0 htp (by omega))), (show R_mp_readNumber p0 tf ta tf22 ta23 (0 : Int32) from (k46_7 _ _ _ 1 (Or.inr (Or.inl ⟨rfl, x46_2, x46_3, x46_4, x46_5, rfl, rfl, rfl, rfl, rfl, Or.inl ⟨nc1, z3, ez3, v5, e8, v10, e14, Or.inl ⟨nc15, z17, ez17, z18, ez18, z19, ez19, tf22, ta23, e29, Or.inr ⟨nc30, Or.inr ⟨nc37, Or.inl ⟨nc39, rfl, rfl, rfl⟩⟩⟩⟩⟩⟩))))⟩) d_Mpg_readNumber_191)
              · have nc39 : ¬ (8 : Int) < x46_4.toInt := mt (i_lt (x := 8) (y := x46_4)).mpr c39
                refine lv_iconst (v := 1) S.x S.b d_Mpg_readNumber_162 (by decide) ?_
                refine lv_goto (tgt := 191) S.x S.b d_Mpg_readNumber_163 (by decide) ?_
                first | exact px_iret (v := 1) S hr rfl hlk hAe hw (Nat.le_of_ble_eq_true rfl) (Nat.le_of_ble_eq_true rfl) (⟨tf22, ta23, rfl, (show (1 : Int32) = 0 ∨ (1 : Int32) = 1 from by first | exact Or.inl rfl | exact Or.inr rfl | exact z_or (by omega)), (show (tf22 5).toInt = (tf 5).toInt from e27), (show (tf 6).toInt ≤ (tf22 6).toInt from (oz_7db54039c4 e26)), (show (tf22 6).toInt ≤ (tf 6).toInt + 1 from (oz_6ad8cf7f07 e26)), (show (1 : Int) = 1 → (tf22 6).toInt = (tf 6).toInt + 1 from by omega), (show RdK (tf 5).toInt ta23 (tf 6) (1 : Int32) p0 from (rdk_y htp (by assumption) (by omega) ⟨⟨by omega, by omega⟩, ⟨by omega, by omega, by omega⟩, fun h => ⟨by omega, by omega, by omega⟩, fun h => ⟨by omega, by omega, by omega⟩, fun h => ⟨by omega, by omega, by omega⟩⟩)), (show R_mp_readNumber p0 tf ta tf22 ta23 (1 : Int32) from (k46_7 _ _ _ 1 (Or.inr (Or.inl ⟨rfl, x46_2, x46_3, x46_4, x46_5, rfl, rfl, rfl, rfl, rfl, Or.inl ⟨nc1, z3, ez3, v5, e8, v10, e14, Or.inl ⟨nc15, z17, ez17, z18, ez18, z19, ez19, tf22, ta23, e29, Or.inr ⟨nc30, Or.inr ⟨nc37, Or.inr ⟨nc39, rfl, rfl, rfl⟩⟩⟩⟩⟩⟩))))⟩) d_Mpg_readNumber_191 | (exact px_iret (v := 1) S hr rfl hlk hAe hw (Nat.le_of_ble_eq_true rfl) (Nat.le_of_ble_eq_true rfl) (⟨tf22, ta23, rfl, (show (1 : Int32) = 0 ∨ (1 : Int32) = 1 from by first | exact Or.inl rfl | exact Or.inr rfl | exact z_or (by omega)), (show (tf22 5).toInt = (tf 5).toInt from by first | exact e27 | omega), (show (tf 6).toInt ≤ (tf22 6).toInt from by first | exact oz_7db54039c4 e26 | omega), (show (tf22 6).toInt ≤ (tf 6).toInt + 1 from by first | exact oz_6ad8cf7f07 e26 | omega), (show (1 : Int) = 1 → (tf22 6).toInt = (tf 6).toInt + 1 from by omega), (show RdK (tf 5).toInt ta23 (tf 6) (1 : Int32) p0 from (rdk_y htp (by assumption) (by omega) ⟨⟨by omega, by omega⟩, ⟨by omega, by omega, by omega⟩, fun h => ⟨by omega, by omega, by omega⟩, fun h => ⟨by omega, by omega, by omega⟩, fun h => ⟨by omega, by omega, by omega⟩⟩)), (show R_mp_readNumber p0 tf ta tf22 ta23 (1 : Int32) from (k46_7 _ _ _ 1 (Or.inr (Or.inl ⟨rfl, x46_2, x46_3, x46_4, x46_5, rfl, rfl, rfl, rfl, rfl, Or.inl ⟨nc1, z3, ez3, v5, e8, v10, e14, Or.inl ⟨nc15, z17, ez17, z18, ez18, z19, ez19, tf22, ta23, e29, Or.inr ⟨nc30, Or.inr ⟨nc37, Or.inr ⟨nc39, rfl, rfl, rfl⟩⟩⟩⟩⟩⟩))))⟩) d_Mpg_readNumber_191)
        · have nc15 : ¬ v10.toInt = (0 : Int) := mt (i_eq (x := v10) (y := 0)).mpr c15
          refine lv_iload S.x S.b d_Mpg_readNumber_81 (lv_at hl 4 rfl) ?_
          refine lv_bipush (v := 12) S.x S.b d_Mpg_readNumber_83 (by decide) ?_
          refine lv_icmp_ge (tgt := 120) S.x S.b d_Mpg_readNumber_85 (by decide) (fun c41 => ?_) (fun c41 => ?_)
          · have nc41 : (12 : Int) ≤ x46_4.toInt := (i_le (x := 12) (y := x46_4)).mp c41
            refine lv_lload S.x S.b d_Mpg_readNumber_120 (lv_at hl 5 rfl) ?_
            refine lv_lstore (lv' := [(5, .long x46_5), (0, .ref h), (1, .int p0), (2, .int x46_2), (3, .int x46_3), (4, .int x46_4)]) S.x S.b d_Mpg_readNumber_122 hl (by decide) rfl (fun ls hl => ?_)
            obtain ⟨z43, ez43⟩ : ∃ y : Int32, y = x46_4 + 1 := ⟨_, rfl⟩
            have tz43 : z43.toInt = (x46_4.toInt + 1 + 2147483648) % 4294967296 - 2147483648 := by rw [ez43]; exact i_add x46_4 1
            have lz43 := Int32.le_toInt z43
            have uz43 := Int32.toInt_lt z43
            try replace tz43 : z43.toInt = x46_4.toInt + 1 := by omega
            refine lv_iinc (v := z43) (lv' := [(4, .int z43), (5, .long x46_5), (0, .ref h), (1, .int p0), (2, .int x46_2), (3, .int x46_3)]) S.x S.b d_Mpg_readNumber_124 hl (k := 5) rfl (by rw [ez43]; rfl) (by decide) rfl (fun ls hl => ?_)
            refine lv_goto (tgt := 46) S.x S.b d_Mpg_readNumber_127 (by decide) ?_
            first | exact ih46 x46_2 x46_3 z43 x46_5 _ _ ls (show 0 ≤ x46_2.toInt from k46_0) (show x46_2.toInt ≤ 1 from k46_1) (show x46_2.toInt = 1 → x46_3.toInt = p0.toInt + 2 from k46_2) (show x46_2.toInt = 0 → x46_3.toInt = p0.toInt from k46_3) (show 0 ≤ z43.toInt from (oz_f5be280463 tz43 nc41)) (show x46_3.toInt + z43.toInt ≤ (tf 5).toInt ∨ z43.toInt = 0 from by omega) (show x46_2.toInt = 1 → p0.toInt + 2 ≤ (tf 5).toInt from k46_6) (show K_mp_readNumber_46 p0 tf ta tf ta x46_2 x46_3 z43 x46_5 from (fun y_f0 y_f1 y_v k hE => k46_7 y_f0 y_f1 y_v (k + 1) (Or.inr (Or.inl ⟨rfl, x46_2, x46_3, x46_4, x46_5, rfl, rfl, rfl, rfl, rfl, Or.inl ⟨nc1, z3, ez3, v5, e8, v10, e14, Or.inr ⟨nc15, Or.inl ⟨nc41, z43, ez43, hE⟩⟩⟩⟩)))) (show (tf 5).toInt + 3 - x46_3.toInt - z43.toInt < (n_46 : Int) from (oz_46d5be2f80 hm tz43)) hw (lv_sub hl [2, 3, 4, 5, 0, 1] rfl) | (exact ih46 x46_2 x46_3 z43 x46_5 _ _ ls (show 0 ≤ x46_2.toInt from by first | exact k46_0 | omega) (show x46_2.toInt ≤ 1 from by first | exact k46_1 | omega) (show x46_2.toInt = 1 → x46_3.toInt = p0.toInt + 2 from by first | exact k46_2 | omega) (show x46_2.toInt = 0 → x46_3.toInt = p0.toInt from by first | exact k46_3 | omega) (show 0 ≤ z43.toInt from by first | exact oz_f5be280463 tz43 nc41 | omega) (show x46_3.toInt + z43.toInt ≤ (tf 5).toInt ∨ z43.toInt = 0 from by omega) (show x46_2.toInt = 1 → p0.toInt + 2 ≤ (tf 5).toInt from by first | exact k46_6 | omega) (show K_mp_readNumber_46 p0 tf ta tf ta x46_2 x46_3 z43 x46_5 from (fun y_f0 y_f1 y_v k hE => k46_7 y_f0 y_f1 y_v (k + 1) (Or.inr (Or.inl ⟨rfl, x46_2, x46_3, x46_4, x46_5, rfl, rfl, rfl, rfl, rfl, Or.inl ⟨nc1, z3, ez3, v5, e8, v10, e14, Or.inr ⟨nc15, Or.inl ⟨nc41, z43, ez43, hE⟩⟩⟩⟩)))) (show (tf 5).toInt + 3 - x46_3.toInt - z43.toInt < (n_46 : Int) from by first | exact oz_46d5be2f80 hm tz43 | omega) hw (lv_sub hl [2, 3, 4, 5, 0, 1] rfl))
          · have nc41 : ¬ (12 : Int) ≤ x46_4.toInt := mt (i_le (x := 12) (y := x46_4)).mpr c41
            refine lv_lload S.x S.b d_Mpg_readNumber_88 (lv_at hl 5 rfl) ?_
            refine lv_iload_n S.x S.b d_Mpg_readNumber_90 rfl (lv_at hl 2 rfl) ?_
            refine lv_if_eq (tgt := 100) S.x S.b d_Mpg_readNumber_91 (by decide) (fun c44 => ?_) (fun c44 => ?_)
            · have nc44 : x46_2.toInt = (0 : Int) := (i_eq (x := x46_2) (y := 0)).mp c44
              refine lv_ldc2 (v := 10) S.x S.b S.own (S.w m11_175) d_Mpg_readNumber_100 ?_
              refine lv_lmul S.x S.b d_Mpg_readNumber_103 ?_
              refine lv_topl (fun z46 ez46 => ?_)
              refine lv_aload_n S.x S.b d_Mpg_readNumber_104 rfl (lv_at hl 0 rfl) ?_
              refine lv_iload_n S.x S.b d_Mpg_readNumber_105 rfl (lv_at hl 3 rfl) ?_
              refine lv_iload S.x S.b d_Mpg_readNumber_106 (lv_at hl 4 rfl) ?_
              refine lv_iadd S.x S.b d_Mpg_readNumber_108 ?_
              refine lv_topi (fun z47 ez47 => ?_)
              have tz47 : z47.toInt = (x46_3.toInt + x46_4.toInt + 2147483648) % 4294967296 - 2147483648 := by rw [ez47]; exact i_add x46_3 x46_4
              have lz47 := Int32.le_toInt z47
              have uz47 := Int32.toInt_lt z47
              try replace tz47 : z47.toInt = x46_3.toInt + x46_4.toInt := by omega
              first | refine px_calli (pr := []) (px_runV (As := [.int z47]) (rest := [.long z46]) S (c_mp_byteAt l D cs h r g tf ta pf na ma wa cf ca ef ea xf xa z47  (show 0 ≤ (tf 5).toInt from g0) (show (tf 5).toInt ≤ 2048 from g1) (show 0 ≤ z47.toInt from (oz_0e60057f66 tz47 k46_4 nc1 k46_0 k46_3 g2)) _) hT (pr := []) (pcs := [wdP cs h r g tf ta pf na ma wa cf ca ef ea xf xa]) hw px_X.tt (px_recv hT hw 0 0 rfl rfl rfl) m11_142 m11_139 m11_141 ms_7_15 m1_21 q_Mpg_byteAt ⟨Nat.le_of_ble_eq_true rfl, Nat.le_of_ble_eq_true rfl⟩ hl.1 rfl (Nat.le_of_ble_eq_true rfl) d_Mpg_readNumber_109 ⟨Nat.le_of_ble_eq_true rfl, Nat.le_of_ble_eq_true rfl⟩) hw hA (fun v49 p48 H locs hp48 hw => ?_) | (refine px_calli (pr := []) (px_runV (As := [.int z47]) (rest := [.long z46]) S (c_mp_byteAt l D cs h r g tf ta pf na ma wa cf ca ef ea xf xa z47  (show 0 ≤ (tf 5).toInt from by first | exact g0 | omega) (show (tf 5).toInt ≤ 2048 from by first | exact g1 | omega) (show 0 ≤ z47.toInt from by first | exact oz_0e60057f66 tz47 k46_4 nc1 k46_0 k46_3 g2 | omega) _) hT (pr := []) (pcs := [wdP cs h r g tf ta pf na ma wa cf ca ef ea xf xa]) hw px_X.tt (px_recv hT hw 0 0 rfl rfl rfl) m11_142 m11_139 m11_141 ms_7_15 m1_21 q_Mpg_byteAt ⟨Nat.le_of_ble_eq_true rfl, Nat.le_of_ble_eq_true rfl⟩ hl.1 rfl (Nat.le_of_ble_eq_true rfl) d_Mpg_readNumber_109 ⟨Nat.le_of_ble_eq_true rfl, Nat.le_of_ble_eq_true rfl⟩) hw hA (fun v49 p48 H locs hp48 hw => ?_))
              obtain ⟨rfl, e50, e51, e52⟩ := hp48
              have e50 : z47.toInt < (tf 5).toInt ∨ v49.toInt = -1 := e50
              have e51 : BtV ta (tf 5).toInt z47.toInt v49.toInt := e51
              have e52 : R_mp_byteAt tf ta z47 v49 := e52
              have lv49 := Int32.le_toInt v49
              have uv49 := Int32.toInt_lt v49
              refine px_calli (pr := [wdP cs h r g tf ta pf na ma wa cf ca ef ea xf xa]) (px_runS (As := [.int v49]) (rest := [.long z46]) S (c_mp_figure l D cs  v49   _) hT (pr := [wdP cs h r g tf ta pf na ma wa cf ca ef ea xf xa]) (pcs := []) hw px_X.tt m11_173 m11_171 m11_172 m1_21 q_Mpg_figure ⟨Nat.le_of_ble_eq_true rfl, Nat.le_of_ble_eq_true rfl⟩ hl.1 rfl (Nat.le_of_ble_eq_true rfl) d_Mpg_readNumber_112 ⟨Nat.le_of_ble_eq_true rfl, Nat.le_of_ble_eq_true rfl⟩) hw hA (fun v54 p53 H locs hp53 hw => ?_)
              obtain ⟨rfl, e55, e56, e57, e58⟩ := hp53
              have e55 : -1 ≤ v54.toInt := e55
              have e56 : v54.toInt ≤ 15 := e56
              have e57 : 0 ≤ v54.toInt → 48 ≤ v49.toInt := e57
              have e58 : R_mp_figure v49 v54 := e58
              have lv54 := Int32.le_toInt v54
              have uv54 := Int32.toInt_lt v54
              refine lv_i2l S.x S.b d_Mpg_readNumber_115 rfl ?_
              refine lv_ladd S.x S.b d_Mpg_readNumber_116 ?_
              refine lv_topl (fun z59 ez59 => ?_)
              refine lv_goto (tgt := 122) S.x S.b d_Mpg_readNumber_117 (by decide) ?_
              refine lv_lstore (lv' := [(5, .long z59), (0, .ref h), (1, .int p0), (2, .int x46_2), (3, .int x46_3), (4, .int x46_4)]) S.x S.b d_Mpg_readNumber_122 hl (by decide) rfl (fun ls hl => ?_)
              obtain ⟨z60, ez60⟩ : ∃ y : Int32, y = x46_4 + 1 := ⟨_, rfl⟩
              have tz60 : z60.toInt = (x46_4.toInt + 1 + 2147483648) % 4294967296 - 2147483648 := by rw [ez60]; exact i_add x46_4 1
              have lz60 := Int32.le_toInt z60
              have uz60 := Int32.toInt_lt z60
              try replace tz60 : z60.toInt = x46_4.toInt + 1 := by omega
              refine lv_iinc (v := z60) (lv' := [(4, .int z60), (5, .long z59), (0, .ref h), (1, .int p0), (2, .int x46_2), (3, .int x46_3)]) S.x S.b d_Mpg_readNumber_124 hl (k := 5) rfl (by rw [ez60]; rfl) (by decide) rfl (fun ls hl => ?_)
              refine lv_goto (tgt := 46) S.x S.b d_Mpg_readNumber_127 (by decide) ?_
              first | exact ih46 x46_2 x46_3 z60 z59 _ _ ls (show 0 ≤ x46_2.toInt from k46_0) (show x46_2.toInt ≤ 1 from k46_1) (show x46_2.toInt = 1 → x46_3.toInt = p0.toInt + 2 from k46_2) (show x46_2.toInt = 0 → x46_3.toInt = p0.toInt from k46_3) (show 0 ≤ z60.toInt from (oz_ae613611c0 tz60 k46_4)) (show x46_3.toInt + z60.toInt ≤ (tf 5).toInt ∨ z60.toInt = 0 from by omega) (show x46_2.toInt = 1 → p0.toInt + 2 ≤ (tf 5).toInt from k46_6) (show K_mp_readNumber_46 p0 tf ta tf ta x46_2 x46_3 z60 z59 from (fun y_f0 y_f1 y_v k hE => k46_7 y_f0 y_f1 y_v (k + 1) (Or.inr (Or.inl ⟨rfl, x46_2, x46_3, x46_4, x46_5, rfl, rfl, rfl, rfl, rfl, Or.inl ⟨nc1, z3, ez3, v5, e8, v10, e14, Or.inr ⟨nc15, Or.inr ⟨nc41, Or.inl ⟨nc44, z46, ez46, z47, ez47, v49, e52, v54, e58, z59, ez59, z60, ez60, hE⟩⟩⟩⟩⟩)))) (show (tf 5).toInt + 3 - x46_3.toInt - z60.toInt < (n_46 : Int) from (oz_46d5be2f80 hm tz60)) hw (lv_sub hl [2, 3, 4, 5, 0, 1] rfl) | (exact ih46 x46_2 x46_3 z60 z59 _ _ ls (show 0 ≤ x46_2.toInt from by first | exact k46_0 | omega) (show x46_2.toInt ≤ 1 from by first | exact k46_1 | omega) (show x46_2.toInt = 1 → x46_3.toInt = p0.toInt + 2 from by first | exact k46_2 | omega) (show x46_2.toInt = 0 → x46_3.toInt = p0.toInt from by first | exact k46_3 | omega) (show 0 ≤ z60.toInt from by first | exact oz_ae613611c0 tz60 k46_4 | omega) (show x46_3.toInt + z60.toInt ≤ (tf 5).toInt ∨ z60.toInt = 0 from by omega) (show x46_2.toInt = 1 → p0.toInt + 2 ≤ (tf 5).toInt from by first | exact k46_6 | omega) (show K_mp_readNumber_46 p0 tf ta tf ta x46_2 x46_3 z60 z59 from (fun y_f0 y_f1 y_v k hE => k46_7 y_f0 y_f1 y_v (k + 1) (Or.inr (Or.inl ⟨rfl, x46_2, x46_3, x46_4, x46_5, rfl, rfl, rfl, rfl, rfl, Or.inl ⟨nc1, z3, ez3, v5, e8, v10, e14, Or.inr ⟨nc15, Or.inr ⟨nc41, Or.inl ⟨nc44, z46, ez46, z47, ez47, v49, e52, v54, e58, z59, ez59, z60, ez60, hE⟩⟩⟩⟩⟩)))) (show (tf 5).toInt + 3 - x46_3.toInt - z60.toInt < (n_46 : Int) from by first | exact oz_46d5be2f80 hm tz60 | omega) hw (lv_sub hl [2, 3, 4, 5, 0, 1] rfl))
            · have nc44 : ¬ x46_2.toInt = (0 : Int) := mt (i_eq (x := x46_2) (y := 0)).mpr c44
              refine lv_ldc2 (v := 16) S.x S.b S.own (S.w m11_174) d_Mpg_readNumber_94 ?_
              refine lv_goto (tgt := 103) S.x S.b d_Mpg_readNumber_97 (by decide) ?_
              refine lv_lmul S.x S.b d_Mpg_readNumber_103 ?_
              refine lv_topl (fun z61 ez61 => ?_)
              refine lv_aload_n S.x S.b d_Mpg_readNumber_104 rfl (lv_at hl 0 rfl) ?_
              refine lv_iload_n S.x S.b d_Mpg_readNumber_105 rfl (lv_at hl 3 rfl) ?_
              refine lv_iload S.x S.b d_Mpg_readNumber_106 (lv_at hl 4 rfl) ?_
              refine lv_iadd S.x S.b d_Mpg_readNumber_108 ?_
              refine lv_topi (fun z62 ez62 => ?_)
              have tz62 : z62.toInt = (x46_3.toInt + x46_4.toInt + 2147483648) % 4294967296 - 2147483648 := by rw [ez62]; exact i_add x46_3 x46_4
              have lz62 := Int32.le_toInt z62
              have uz62 := Int32.toInt_lt z62
              try replace tz62 : z62.toInt = x46_3.toInt + x46_4.toInt := by omega
              first | refine px_calli (pr := []) (px_runV (As := [.int z62]) (rest := [.long z61]) S (c_mp_byteAt l D cs h r g tf ta pf na ma wa cf ca ef ea xf xa z62  (show 0 ≤ (tf 5).toInt from g0) (show (tf 5).toInt ≤ 2048 from g1) (show 0 ≤ z62.toInt from (oz_0e60057f66 tz62 k46_4 nc1 k46_0 k46_3 g2)) _) hT (pr := []) (pcs := [wdP cs h r g tf ta pf na ma wa cf ca ef ea xf xa]) hw px_X.tt (px_recv hT hw 0 0 rfl rfl rfl) m11_142 m11_139 m11_141 ms_7_15 m1_21 q_Mpg_byteAt ⟨Nat.le_of_ble_eq_true rfl, Nat.le_of_ble_eq_true rfl⟩ hl.1 rfl (Nat.le_of_ble_eq_true rfl) d_Mpg_readNumber_109 ⟨Nat.le_of_ble_eq_true rfl, Nat.le_of_ble_eq_true rfl⟩) hw hA (fun v64 p63 H locs hp63 hw => ?_) | (refine px_calli (pr := []) (px_runV (As := [.int z62]) (rest := [.long z61]) S (c_mp_byteAt l D cs h r g tf ta pf na ma wa cf ca ef ea xf xa z62  (show 0 ≤ (tf 5).toInt from by first | exact g0 | omega) (show (tf 5).toInt ≤ 2048 from by first | exact g1 | omega) (show 0 ≤ z62.toInt from by first | exact oz_0e60057f66 tz62 k46_4 nc1 k46_0 k46_3 g2 | omega) _) hT (pr := []) (pcs := [wdP cs h r g tf ta pf na ma wa cf ca ef ea xf xa]) hw px_X.tt (px_recv hT hw 0 0 rfl rfl rfl) m11_142 m11_139 m11_141 ms_7_15 m1_21 q_Mpg_byteAt ⟨Nat.le_of_ble_eq_true rfl, Nat.le_of_ble_eq_true rfl⟩ hl.1 rfl (Nat.le_of_ble_eq_true rfl) d_Mpg_readNumber_109 ⟨Nat.le_of_ble_eq_true rfl, Nat.le_of_ble_eq_true rfl⟩) hw hA (fun v64 p63 H locs hp63 hw => ?_))
              obtain ⟨rfl, e65, e66, e67⟩ := hp63
              have e65 : z62.toInt < (tf 5).toInt ∨ v64.toInt = -1 := e65
              have e66 : BtV ta (tf 5).toInt z62.toInt v64.toInt := e66
              have e67 : R_mp_byteAt tf ta z62 v64 := e67
              have lv64 := Int32.le_toInt v64
              have uv64 := Int32.toInt_lt v64
              refine px_calli (pr := [wdP cs h r g tf ta pf na ma wa cf ca ef ea xf xa]) (px_runS (As := [.int v64]) (rest := [.long z61]) S (c_mp_figure l D cs  v64   _) hT (pr := [wdP cs h r g tf ta pf na ma wa cf ca ef ea xf xa]) (pcs := []) hw px_X.tt m11_173 m11_171 m11_172 m1_21 q_Mpg_figure ⟨Nat.le_of_ble_eq_true rfl, Nat.le_of_ble_eq_true rfl⟩ hl.1 rfl (Nat.le_of_ble_eq_true rfl) d_Mpg_readNumber_112 ⟨Nat.le_of_ble_eq_true rfl, Nat.le_of_ble_eq_true rfl⟩) hw hA (fun v69 p68 H locs hp68 hw => ?_)
              obtain ⟨rfl, e70, e71, e72, e73⟩ := hp68
              have e70 : -1 ≤ v69.toInt := e70
              have e71 : v69.toInt ≤ 15 := e71
              have e72 : 0 ≤ v69.toInt → 48 ≤ v64.toInt := e72
              have e73 : R_mp_figure v64 v69 := e73
              have lv69 := Int32.le_toInt v69
              have uv69 := Int32.toInt_lt v69
              refine lv_i2l S.x S.b d_Mpg_readNumber_115 rfl ?_
              refine lv_ladd S.x S.b d_Mpg_readNumber_116 ?_
              refine lv_topl (fun z74 ez74 => ?_)
              refine lv_goto (tgt := 122) S.x S.b d_Mpg_readNumber_117 (by decide) ?_
              refine lv_lstore (lv' := [(5, .long z74), (0, .ref h), (1, .int p0), (2, .int x46_2), (3, .int x46_3), (4, .int x46_4)]) S.x S.b d_Mpg_readNumber_122 hl (by decide) rfl (fun ls hl => ?_)
              obtain ⟨z75, ez75⟩ : ∃ y : Int32, y = x46_4 + 1 := ⟨_, rfl⟩
              have tz75 : z75.toInt = (x46_4.toInt + 1 + 2147483648) % 4294967296 - 2147483648 := by rw [ez75]; exact i_add x46_4 1
              have lz75 := Int32.le_toInt z75
              have uz75 := Int32.toInt_lt z75
              try replace tz75 : z75.toInt = x46_4.toInt + 1 := by omega
              refine lv_iinc (v := z75) (lv' := [(4, .int z75), (5, .long z74), (0, .ref h), (1, .int p0), (2, .int x46_2), (3, .int x46_3)]) S.x S.b d_Mpg_readNumber_124 hl (k := 5) rfl (by rw [ez75]; rfl) (by decide) rfl (fun ls hl => ?_)
              refine lv_goto (tgt := 46) S.x S.b d_Mpg_readNumber_127 (by decide) ?_
              first | exact ih46 x46_2 x46_3 z75 z74 _ _ ls (show 0 ≤ x46_2.toInt from k46_0) (show x46_2.toInt ≤ 1 from k46_1) (show x46_2.toInt = 1 → x46_3.toInt = p0.toInt + 2 from k46_2) (show x46_2.toInt = 0 → x46_3.toInt = p0.toInt from k46_3) (show 0 ≤ z75.toInt from (oz_ae613611c0 tz75 k46_4)) (show x46_3.toInt + z75.toInt ≤ (tf 5).toInt ∨ z75.toInt = 0 from by omega) (show x46_2.toInt = 1 → p0.toInt + 2 ≤ (tf 5).toInt from k46_6) (show K_mp_readNumber_46 p0 tf ta tf ta x46_2 x46_3 z75 z74 from (fun y_f0 y_f1 y_v k hE => k46_7 y_f0 y_f1 y_v (k + 1) (Or.inr (Or.inl ⟨rfl, x46_2, x46_3, x46_4, x46_5, rfl, rfl, rfl, rfl, rfl, Or.inl ⟨nc1, z3, ez3, v5, e8, v10, e14, Or.inr ⟨nc15, Or.inr ⟨nc41, Or.inr ⟨nc44, z61, ez61, z62, ez62, v64, e67, v69, e73, z74, ez74, z75, ez75, hE⟩⟩⟩⟩⟩)))) (show (tf 5).toInt + 3 - x46_3.toInt - z75.toInt < (n_46 : Int) from (oz_46d5be2f80 hm tz75)) hw (lv_sub hl [2, 3, 4, 5, 0, 1] rfl) | (exact ih46 x46_2 x46_3 z75 z74 _ _ ls (show 0 ≤ x46_2.toInt from by first | exact k46_0 | omega) (show x46_2.toInt ≤ 1 from by first | exact k46_1 | omega) (show x46_2.toInt = 1 → x46_3.toInt = p0.toInt + 2 from by first | exact k46_2 | omega) (show x46_2.toInt = 0 → x46_3.toInt = p0.toInt from by first | exact k46_3 | omega) (show 0 ≤ z75.toInt from by first | exact oz_ae613611c0 tz75 k46_4 | omega) (show x46_3.toInt + z75.toInt ≤ (tf 5).toInt ∨ z75.toInt = 0 from by omega) (show x46_2.toInt = 1 → p0.toInt + 2 ≤ (tf 5).toInt from by first | exact k46_6 | omega) (show K_mp_readNumber_46 p0 tf ta tf ta x46_2 x46_3 z75 z74 from (fun y_f0 y_f1 y_v k hE => k46_7 y_f0 y_f1 y_v (k + 1) (Or.inr (Or.inl ⟨rfl, x46_2, x46_3, x46_4, x46_5, rfl, rfl, rfl, rfl, rfl, Or.inl ⟨nc1, z3, ez3, v5, e8, v10, e14, Or.inr ⟨nc15, Or.inr ⟨nc41, Or.inr ⟨nc44, z61, ez61, z62, ez62, v64, e67, v69, e73, z74, ez74, z75, ez75, hE⟩⟩⟩⟩⟩)))) (show (tf 5).toInt + 3 - x46_3.toInt - z75.toInt < (n_46 : Int) from by first | exact oz_46d5be2f80 hm tz75 | omega) hw (lv_sub hl [2, 3, 4, 5, 0, 1] rfl))
      · have nc1 : ¬ x46_2.toInt = (0 : Int) := mt (i_eq (x := x46_2) (y := 0)).mpr c1
        refine lv_aload_n S.x S.b d_Mpg_readNumber_50 rfl (lv_at hl 0 rfl) ?_
        refine lv_iload_n S.x S.b d_Mpg_readNumber_51 rfl (lv_at hl 3 rfl) ?_
        refine lv_iload S.x S.b d_Mpg_readNumber_52 (lv_at hl 4 rfl) ?_
        refine lv_iadd S.x S.b d_Mpg_readNumber_54 ?_
        refine lv_topi (fun z76 ez76 => ?_)
        have tz76 : z76.toInt = (x46_3.toInt + x46_4.toInt + 2147483648) % 4294967296 - 2147483648 := by rw [ez76]; exact i_add x46_3 x46_4
        have lz76 := Int32.le_toInt z76
        have uz76 := Int32.toInt_lt z76
        try replace tz76 : z76.toInt = x46_3.toInt + x46_4.toInt := by omega
        first | refine px_calli (pr := []) (px_runV (As := [.int z76]) (rest := []) S (c_mp_byteAt l D cs h r g tf ta pf na ma wa cf ca ef ea xf xa z76  (show 0 ≤ (tf 5).toInt from g0) (show (tf 5).toInt ≤ 2048 from g1) (show 0 ≤ z76.toInt from by omega) _) hT (pr := []) (pcs := [wdP cs h r g tf ta pf na ma wa cf ca ef ea xf xa]) hw px_X.tt (px_recv hT hw 0 0 rfl rfl rfl) m11_142 m11_139 m11_141 ms_7_15 m1_21 q_Mpg_byteAt ⟨Nat.le_of_ble_eq_true rfl, Nat.le_of_ble_eq_true rfl⟩ hl.1 rfl (Nat.le_of_ble_eq_true rfl) d_Mpg_readNumber_55 ⟨Nat.le_of_ble_eq_true rfl, Nat.le_of_ble_eq_true rfl⟩) hw hA (fun v78 p77 H locs hp77 hw => ?_) | (refine px_calli (pr := []) (px_runV (As := [.int z76]) (rest := []) S (c_mp_byteAt l D cs h r g tf ta pf na ma wa cf ca ef ea xf xa z76  (show 0 ≤ (tf 5).toInt from by first | exact g0 | omega) (show (tf 5).toInt ≤ 2048 from by first | exact g1 | omega) (show 0 ≤ z76.toInt from by omega) _) hT (pr := []) (pcs := [wdP cs h r g tf ta pf na ma wa cf ca ef ea xf xa]) hw px_X.tt (px_recv hT hw 0 0 rfl rfl rfl) m11_142 m11_139 m11_141 ms_7_15 m1_21 q_Mpg_byteAt ⟨Nat.le_of_ble_eq_true rfl, Nat.le_of_ble_eq_true rfl⟩ hl.1 rfl (Nat.le_of_ble_eq_true rfl) d_Mpg_readNumber_55 ⟨Nat.le_of_ble_eq_true rfl, Nat.le_of_ble_eq_true rfl⟩) hw hA (fun v78 p77 H locs hp77 hw => ?_))
        obtain ⟨rfl, e79, e80, e81⟩ := hp77
        have e79 : z76.toInt < (tf 5).toInt ∨ v78.toInt = -1 := e79
        have e80 : BtV ta (tf 5).toInt z76.toInt v78.toInt := e80
        have e81 : R_mp_byteAt tf ta z76 v78 := e81
        have lv78 := Int32.le_toInt v78
        have uv78 := Int32.toInt_lt v78
        refine px_calli (pr := [wdP cs h r g tf ta pf na ma wa cf ca ef ea xf xa]) (px_runS (As := [.int v78]) (rest := []) S (c_mp_figure l D cs  v78   _) hT (pr := [wdP cs h r g tf ta pf na ma wa cf ca ef ea xf xa]) (pcs := []) hw px_X.tt m11_173 m11_171 m11_172 m1_21 q_Mpg_figure ⟨Nat.le_of_ble_eq_true rfl, Nat.le_of_ble_eq_true rfl⟩ hl.1 rfl (Nat.le_of_ble_eq_true rfl) d_Mpg_readNumber_58 ⟨Nat.le_of_ble_eq_true rfl, Nat.le_of_ble_eq_true rfl⟩) hw hA (fun v83 p82 H locs hp82 hw => ?_)
        obtain ⟨rfl, e84, e85, e86, e87⟩ := hp82
        have e84 : -1 ≤ v83.toInt := e84
        have e85 : v83.toInt ≤ 15 := e85
        have e86 : 0 ≤ v83.toInt → 48 ≤ v78.toInt := e86
        have e87 : R_mp_figure v78 v83 := e87
        have lv83 := Int32.le_toInt v83
        have uv83 := Int32.toInt_lt v83
        refine lv_if_lt (tgt := 130) S.x S.b d_Mpg_readNumber_61 (by decide) (fun c88 => ?_) (fun c88 => ?_)
        · have nc88 : v83.toInt < (0 : Int) := (i_lt (x := v83) (y := 0)).mp c88
          refine lv_aload_n S.x S.b d_Mpg_readNumber_130 rfl (lv_at hl 0 rfl) ?_
          refine lv_iload_n S.x S.b d_Mpg_readNumber_131 rfl (lv_at hl 1 rfl) ?_
          refine lv_iload_n S.x S.b d_Mpg_readNumber_132 rfl (lv_at hl 3 rfl) ?_
          refine lv_iload_n S.x S.b d_Mpg_readNumber_133 rfl (lv_at hl 1 rfl) ?_
          refine lv_isub S.x S.b d_Mpg_readNumber_134 ?_
          refine lv_topi (fun z90 ez90 => ?_)
          have tz90 : z90.toInt = (x46_3.toInt - p0.toInt + 2147483648) % 4294967296 - 2147483648 := by rw [ez90]; exact i_sub x46_3 p0
          have lz90 := Int32.le_toInt z90
          have uz90 := Int32.toInt_lt z90
          try replace tz90 : z90.toInt = x46_3.toInt - p0.toInt := by omega
          refine lv_iload S.x S.b d_Mpg_readNumber_135 (lv_at hl 4 rfl) ?_
          refine lv_iadd S.x S.b d_Mpg_readNumber_137 ?_
          refine lv_topi (fun z91 ez91 => ?_)
          have tz91 : z91.toInt = (z90.toInt + x46_4.toInt + 2147483648) % 4294967296 - 2147483648 := by rw [ez91]; exact i_add z90 x46_4
          have lz91 := Int32.le_toInt z91
          have uz91 := Int32.toInt_lt z91
          try replace tz91 : z91.toInt = z90.toInt + x46_4.toInt := by omega
          refine lv_iconst (v := 3) S.x S.b d_Mpg_readNumber_138 (by decide) ?_
          refine lv_lload S.x S.b d_Mpg_readNumber_139 (lv_at hl 5 rfl) ?_
          refine lv_l2i S.x S.b d_Mpg_readNumber_141 rfl ?_
          refine lv_topi (fun z92 ez92 => ?_)
          have lz92 := Int32.le_toInt z92
          have uz92 := Int32.toInt_lt z92
          first | refine px_callv (pr := []) (px_runV (As := [.int p0, .int z91, .int 3, .int z92]) (rest := []) S (c_mp_token l D cs h r g pf na ma wa cf ca ef ea xf xa tf ta p0 z91 3 z92  (show 0 ≤ (tf 6).toInt from g4) (show (tf 6).toInt ≤ 2059 from (oz_9dfb4af2f5 g5 g3 g1)) _) hT (pr := []) (pcs := [wdP cs h r g tf ta pf na ma wa cf ca ef ea xf xa]) hw px_X.tt (px_recv hT hw 0 0 rfl rfl rfl) m11_166 m11_163 m11_165 ms_8_3 m1_21 q_Mpg_token ⟨Nat.le_of_ble_eq_true rfl, Nat.le_of_ble_eq_true rfl⟩ hl.1 rfl (Nat.le_of_ble_eq_true rfl) d_Mpg_readNumber_142 ⟨Nat.le_of_ble_eq_true rfl, Nat.le_of_ble_eq_true rfl⟩) hw hA (fun p97 H locs hp97 hw => ?_) | (refine px_callv (pr := []) (px_runV (As := [.int p0, .int z91, .int 3, .int z92]) (rest := []) S (c_mp_token l D cs h r g pf na ma wa cf ca ef ea xf xa tf ta p0 z91 3 z92  (show 0 ≤ (tf 6).toInt from by first | exact g4 | omega) (show (tf 6).toInt ≤ 2059 from by first | exact oz_9dfb4af2f5 g5 g3 g1 | omega) _) hT (pr := []) (pcs := [wdP cs h r g tf ta pf na ma wa cf ca ef ea xf xa]) hw px_X.tt (px_recv hT hw 0 0 rfl rfl rfl) m11_166 m11_163 m11_165 ms_8_3 m1_21 q_Mpg_token ⟨Nat.le_of_ble_eq_true rfl, Nat.le_of_ble_eq_true rfl⟩ hl.1 rfl (Nat.le_of_ble_eq_true rfl) d_Mpg_readNumber_142 ⟨Nat.le_of_ble_eq_true rfl, Nat.le_of_ble_eq_true rfl⟩) hw hA (fun p97 H locs hp97 hw => ?_))
          obtain ⟨tf95, ta96, rfl, e99, e100, e101, e102⟩ := hp97
          have e99 : (tf95 6).toInt = (tf 6).toInt + 1 := e99
          have e100 : (tf95 5).toInt = (tf 5).toInt := e100
          have e101 : TkU ta ta96 (tf 6) p0 z91 (3 : Int32) z92 := e101
          have e102 : R_mp_token p0 z91 (3 : Int32) z92 tf ta tf95 ta96 := e102
          refine lv_iload_n S.x S.b d_Mpg_readNumber_145 rfl (lv_at hl 2 rfl) ?_
          refine lv_if_eq (tgt := 170) S.x S.b d_Mpg_readNumber_146 (by decide) (fun c103 => ?_) (fun c103 => ?_)
          · have nc103 : x46_2.toInt = (0 : Int) := (i_eq (x := x46_2) (y := 0)).mp c103
            refine lv_iload S.x S.b d_Mpg_readNumber_170 (lv_at hl 4 rfl) ?_
            refine lv_bipush (v := 10) S.x S.b d_Mpg_readNumber_172 (by decide) ?_
            refine lv_icmp_gt (tgt := 190) S.x S.b d_Mpg_readNumber_174 (by decide) (fun c105 => ?_) (fun c105 => ?_)
            · have nc105 : (10 : Int) < x46_4.toInt := (i_lt (x := 10) (y := x46_4)).mp c105
              refine lv_iconst (v := 0) S.x S.b d_Mpg_readNumber_190 (by decide) ?_
              first | exact px_iret (v := 0) S hr rfl hlk hAe hw (Nat.le_of_ble_eq_true rfl) (Nat.le_of_ble_eq_true rfl) (⟨tf95, ta96, rfl, (show (0 : Int32) = 0 ∨ (0 : Int32) = 1 from by first | exact Or.inl rfl | exact Or.inr rfl | exact z_or (by omega)), (show (tf95 5).toInt = (tf 5).toInt from e100), (show (tf 6).toInt ≤ (tf95 6).toInt from (oz_7db54039c4 e99)), (show (tf95 6).toInt ≤ (tf 6).toInt + 1 from (oz_6ad8cf7f07 e99)), (show (0 : Int) = 1 → (tf95 6).toInt = (tf 6).toInt + 1 from by omega), (show RdK (tf 5).toInt ta96 (tf 6) (0 : Int32) p0 from (by first | exact rdk_n htp (by assumption) (by omega) (by omega) | exact rdk_0 htp (by omega))), (show R_mp_readNumber p0 tf ta tf95 ta96 (0 : Int32) from (k46_7 _ _ _ 1 (Or.inr (Or.inl ⟨rfl, x46_2, x46_3, x46_4, x46_5, rfl, rfl, rfl, rfl, rfl, Or.inr ⟨nc1, z76, ez76, v78, e81, v83, e87, Or.inl ⟨nc88, z90, ez90, z91, ez91, z92, ez92, tf95, ta96, e102, Or.inl ⟨nc103, Or.inl ⟨nc105, rfl, rfl, rfl⟩⟩⟩⟩⟩))))⟩) d_Mpg_readNumber_191 | (exact px_iret (v := 0) S hr rfl hlk hAe hw (Nat.le_of_ble_eq_true rfl) (Nat.le_of_ble_eq_true rfl) (⟨tf95, ta96, rfl, (show (0 : Int32) = 0 ∨ (0 : Int32) = 1 from by first | exact Or.inl rfl | exact Or.inr rfl | exact z_or (by omega)), (show (tf95 5).toInt = (tf 5).toInt from by first | exact e100 | omega), (show (tf 6).toInt ≤ (tf95 6).toInt from by first | exact oz_7db54039c4 e99 | omega), (show (tf95 6).toInt ≤ (tf 6).toInt + 1 from by first | exact oz_6ad8cf7f07 e99 | omega), (show (0 : Int) = 1 → (tf95 6).toInt = (tf 6).toInt + 1 from by omega), (show RdK (tf 5).toInt ta96 (tf 6) (0 : Int32) p0 from (by first | exact rdk_n htp (by assumption) (by omega) (by omega) | exact rdk_0 htp (by omega))), (show R_mp_readNumber p0 tf ta tf95 ta96 (0 : Int32) from (k46_7 _ _ _ 1 (Or.inr (Or.inl ⟨rfl, x46_2, x46_3, x46_4, x46_5, rfl, rfl, rfl, rfl, rfl, Or.inr ⟨nc1, z76, ez76, v78, e81, v83, e87, Or.inl ⟨nc88, z90, ez90, z91, ez91, z92, ez92, tf95, ta96, e102, Or.inl ⟨nc103, Or.inl ⟨nc105, rfl, rfl, rfl⟩⟩⟩⟩⟩))))⟩) d_Mpg_readNumber_191)
            · have nc105 : ¬ (10 : Int) < x46_4.toInt := mt (i_lt (x := 10) (y := x46_4)).mpr c105
              refine lv_lload S.x S.b d_Mpg_readNumber_177 (lv_at hl 5 rfl) ?_
              refine lv_ldc2 (v := 4294967296) S.x S.b S.own (S.w m11_176) d_Mpg_readNumber_179 ?_
              refine W.lcmp S.x S.b d_Mpg_readNumber_182 ?_
              refine lv_topi (fun z107 ez107 => ?_)
              have lz107 := Int32.le_toInt z107
              have uz107 := Int32.toInt_lt z107
              refine lv_if_ge (tgt := 190) S.x S.b d_Mpg_readNumber_183 (by decide) (fun c108 => ?_) (fun c108 => ?_)
              · have nc108 : (0 : Int) ≤ z107.toInt := (i_le (x := 0) (y := z107)).mp c108
                refine lv_iconst (v := 0) S.x S.b d_Mpg_readNumber_190 (by decide) ?_
                first | exact px_iret (v := 0) S hr rfl hlk hAe hw (Nat.le_of_ble_eq_true rfl) (Nat.le_of_ble_eq_true rfl) (⟨tf95, ta96, rfl, (show (0 : Int32) = 0 ∨ (0 : Int32) = 1 from by first | exact Or.inl rfl | exact Or.inr rfl | exact z_or (by omega)), (show (tf95 5).toInt = (tf 5).toInt from e100), (show (tf 6).toInt ≤ (tf95 6).toInt from (oz_7db54039c4 e99)), (show (tf95 6).toInt ≤ (tf 6).toInt + 1 from (oz_6ad8cf7f07 e99)), (show (0 : Int) = 1 → (tf95 6).toInt = (tf 6).toInt + 1 from by omega), (show RdK (tf 5).toInt ta96 (tf 6) (0 : Int32) p0 from (by first | exact rdk_n htp (by assumption) (by omega) (by omega) | exact rdk_0 htp (by omega))), (show R_mp_readNumber p0 tf ta tf95 ta96 (0 : Int32) from (k46_7 _ _ _ 1 (Or.inr (Or.inl ⟨rfl, x46_2, x46_3, x46_4, x46_5, rfl, rfl, rfl, rfl, rfl, Or.inr ⟨nc1, z76, ez76, v78, e81, v83, e87, Or.inl ⟨nc88, z90, ez90, z91, ez91, z92, ez92, tf95, ta96, e102, Or.inl ⟨nc103, Or.inr ⟨nc105, z107, ez107, Or.inl ⟨nc108, rfl, rfl, rfl⟩⟩⟩⟩⟩⟩))))⟩) d_Mpg_readNumber_191 | (exact px_iret (v := 0) S hr rfl hlk hAe hw (Nat.le_of_ble_eq_true rfl) (Nat.le_of_ble_eq_true rfl) (⟨tf95, ta96, rfl, (show (0 : Int32) = 0 ∨ (0 : Int32) = 1 from by first | exact Or.inl rfl | exact Or.inr rfl | exact z_or (by omega)), (show (tf95 5).toInt = (tf 5).toInt from by first | exact e100 | omega), (show (tf 6).toInt ≤ (tf95 6).toInt from by first | exact oz_7db54039c4 e99 | omega), (show (tf95 6).toInt ≤ (tf 6).toInt + 1 from by first | exact oz_6ad8cf7f07 e99 | omega), (show (0 : Int) = 1 → (tf95 6).toInt = (tf 6).toInt + 1 from by omega), (show RdK (tf 5).toInt ta96 (tf 6) (0 : Int32) p0 from (by first | exact rdk_n htp (by assumption) (by omega) (by omega) | exact rdk_0 htp (by omega))), (show R_mp_readNumber p0 tf ta tf95 ta96 (0 : Int32) from (k46_7 _ _ _ 1 (Or.inr (Or.inl ⟨rfl, x46_2, x46_3, x46_4, x46_5, rfl, rfl, rfl, rfl, rfl, Or.inr ⟨nc1, z76, ez76, v78, e81, v83, e87, Or.inl ⟨nc88, z90, ez90, z91, ez91, z92, ez92, tf95, ta96, e102, Or.inl ⟨nc103, Or.inr ⟨nc105, z107, ez107, Or.inl ⟨nc108, rfl, rfl, rfl⟩⟩⟩⟩⟩⟩))))⟩) d_Mpg_readNumber_191)
              · have nc108 : ¬ (0 : Int) ≤ z107.toInt := mt (i_le (x := 0) (y := z107)).mpr c108
                refine lv_iconst (v := 1) S.x S.b d_Mpg_readNumber_186 (by decide) ?_
                refine lv_goto (tgt := 191) S.x S.b d_Mpg_readNumber_187 (by decide) ?_
                first | exact px_iret (v := 1) S hr rfl hlk hAe hw (Nat.le_of_ble_eq_true rfl) (Nat.le_of_ble_eq_true rfl) (⟨tf95, ta96, rfl, (show (1 : Int32) = 0 ∨ (1 : Int32) = 1 from by first | exact Or.inl rfl | exact Or.inr rfl | exact z_or (by omega)), (show (tf95 5).toInt = (tf 5).toInt from e100), (show (tf 6).toInt ≤ (tf95 6).toInt from (oz_7db54039c4 e99)), (show (tf95 6).toInt ≤ (tf 6).toInt + 1 from (oz_6ad8cf7f07 e99)), (show (1 : Int) = 1 → (tf95 6).toInt = (tf 6).toInt + 1 from by omega), (show RdK (tf 5).toInt ta96 (tf 6) (1 : Int32) p0 from (rdk_y htp (by assumption) (by omega) ⟨⟨by omega, by omega⟩, ⟨by omega, by omega, by omega⟩, fun h => ⟨by omega, by omega, by omega⟩, fun h => ⟨by omega, by omega, by omega⟩, fun h => ⟨by omega, by omega, by omega⟩⟩)), (show R_mp_readNumber p0 tf ta tf95 ta96 (1 : Int32) from (k46_7 _ _ _ 1 (Or.inr (Or.inl ⟨rfl, x46_2, x46_3, x46_4, x46_5, rfl, rfl, rfl, rfl, rfl, Or.inr ⟨nc1, z76, ez76, v78, e81, v83, e87, Or.inl ⟨nc88, z90, ez90, z91, ez91, z92, ez92, tf95, ta96, e102, Or.inl ⟨nc103, Or.inr ⟨nc105, z107, ez107, Or.inr ⟨nc108, rfl, rfl, rfl⟩⟩⟩⟩⟩⟩))))⟩) d_Mpg_readNumber_191 | (exact px_iret (v := 1) S hr rfl hlk hAe hw (Nat.le_of_ble_eq_true rfl) (Nat.le_of_ble_eq_true rfl) (⟨tf95, ta96, rfl, (show (1 : Int32) = 0 ∨ (1 : Int32) = 1 from by first | exact Or.inl rfl | exact Or.inr rfl | exact z_or (by omega)), (show (tf95 5).toInt = (tf 5).toInt from by first | exact e100 | omega), (show (tf 6).toInt ≤ (tf95 6).toInt from by first | exact oz_7db54039c4 e99 | omega), (show (tf95 6).toInt ≤ (tf 6).toInt + 1 from by first | exact oz_6ad8cf7f07 e99 | omega), (show (1 : Int) = 1 → (tf95 6).toInt = (tf 6).toInt + 1 from by omega), (show RdK (tf 5).toInt ta96 (tf 6) (1 : Int32) p0 from (rdk_y htp (by assumption) (by omega) ⟨⟨by omega, by omega⟩, ⟨by omega, by omega, by omega⟩, fun h => ⟨by omega, by omega, by omega⟩, fun h => ⟨by omega, by omega, by omega⟩, fun h => ⟨by omega, by omega, by omega⟩⟩)), (show R_mp_readNumber p0 tf ta tf95 ta96 (1 : Int32) from (k46_7 _ _ _ 1 (Or.inr (Or.inl ⟨rfl, x46_2, x46_3, x46_4, x46_5, rfl, rfl, rfl, rfl, rfl, Or.inr ⟨nc1, z76, ez76, v78, e81, v83, e87, Or.inl ⟨nc88, z90, ez90, z91, ez91, z92, ez92, tf95, ta96, e102, Or.inl ⟨nc103, Or.inr ⟨nc105, z107, ez107, Or.inr ⟨nc108, rfl, rfl, rfl⟩⟩⟩⟩⟩⟩))))⟩) d_Mpg_readNumber_191)
          · have nc103 : ¬ x46_2.toInt = (0 : Int) := mt (i_eq (x := x46_2) (y := 0)).mpr c103
            refine lv_iload S.x S.b d_Mpg_readNumber_149 (lv_at hl 4 rfl) ?_
            refine lv_iconst (v := 1) S.x S.b d_Mpg_readNumber_151 (by decide) ?_
            refine lv_icmp_lt (tgt := 166) S.x S.b d_Mpg_readNumber_152 (by decide) (fun c110 => ?_) (fun c110 => ?_)
            · have nc110 : x46_4.toInt < (1 : Int) := (i_lt (x := x46_4) (y := 1)).mp c110
              refine lv_iconst (v := 0) S.x S.b d_Mpg_readNumber_166 (by decide) ?_
              refine lv_goto (tgt := 191) S.x S.b d_Mpg_readNumber_167 (by decide) ?_
              first | exact px_iret (v := 0) S hr rfl hlk hAe hw (Nat.le_of_ble_eq_true rfl) (Nat.le_of_ble_eq_true rfl) (⟨tf95, ta96, rfl, (show (0 : Int32) = 0 ∨ (0 : Int32) = 1 from by first | exact Or.inl rfl | exact Or.inr rfl | exact z_or (by omega)), (show (tf95 5).toInt = (tf 5).toInt from e100), (show (tf 6).toInt ≤ (tf95 6).toInt from (oz_7db54039c4 e99)), (show (tf95 6).toInt ≤ (tf 6).toInt + 1 from (oz_6ad8cf7f07 e99)), (show (0 : Int) = 1 → (tf95 6).toInt = (tf 6).toInt + 1 from by omega), (show RdK (tf 5).toInt ta96 (tf 6) (0 : Int32) p0 from (by first | exact rdk_n htp (by assumption) (by omega) (by omega) | exact rdk_0 htp (by omega))), (show R_mp_readNumber p0 tf ta tf95 ta96 (0 : Int32) from (k46_7 _ _ _ 1 (Or.inr (Or.inl ⟨rfl, x46_2, x46_3, x46_4, x46_5, rfl, rfl, rfl, rfl, rfl, Or.inr ⟨nc1, z76, ez76, v78, e81, v83, e87, Or.inl ⟨nc88, z90, ez90, z91, ez91, z92, ez92, tf95, ta96, e102, Or.inr ⟨nc103, Or.inl ⟨nc110, rfl, rfl, rfl⟩⟩⟩⟩⟩))))⟩) d_Mpg_readNumber_191 | (exact px_iret (v := 0) S hr rfl hlk hAe hw (Nat.le_of_ble_eq_true rfl) (Nat.le_of_ble_eq_true rfl) (⟨tf95, ta96, rfl, (show (0 : Int32) = 0 ∨ (0 : Int32) = 1 from by first | exact Or.inl rfl | exact Or.inr rfl | exact z_or (by omega)), (show (tf95 5).toInt = (tf 5).toInt from by first | exact e100 | omega), (show (tf 6).toInt ≤ (tf95 6).toInt from by first | exact oz_7db54039c4 e99 | omega), (show (tf95 6).toInt ≤ (tf 6).toInt + 1 from by first | exact oz_6ad8cf7f07 e99 | omega), (show (0 : Int) = 1 → (tf95 6).toInt = (tf 6).toInt + 1 from by omega), (show RdK (tf 5).toInt ta96 (tf 6) (0 : Int32) p0 from (by first | exact rdk_n htp (by assumption) (by omega) (by omega) | exact rdk_0 htp (by omega))), (show R_mp_readNumber p0 tf ta tf95 ta96 (0 : Int32) from (k46_7 _ _ _ 1 (Or.inr (Or.inl ⟨rfl, x46_2, x46_3, x46_4, x46_5, rfl, rfl, rfl, rfl, rfl, Or.inr ⟨nc1, z76, ez76, v78, e81, v83, e87, Or.inl ⟨nc88, z90, ez90, z91, ez91, z92, ez92, tf95, ta96, e102, Or.inr ⟨nc103, Or.inl ⟨nc110, rfl, rfl, rfl⟩⟩⟩⟩⟩))))⟩) d_Mpg_readNumber_191)
            · have nc110 : ¬ x46_4.toInt < (1 : Int) := mt (i_lt (x := x46_4) (y := 1)).mpr c110
              refine lv_iload S.x S.b d_Mpg_readNumber_155 (lv_at hl 4 rfl) ?_
              refine lv_bipush (v := 8) S.x S.b d_Mpg_readNumber_157 (by decide) ?_
              refine lv_icmp_gt (tgt := 166) S.x S.b d_Mpg_readNumber_159 (by decide) (fun c112 => ?_) (fun c112 => ?_)
              · have nc112 : (8 : Int) < x46_4.toInt := (i_lt (x := 8) (y := x46_4)).mp c112
                refine lv_iconst (v := 0) S.x S.b d_Mpg_readNumber_166 (by decide) ?_
                refine lv_goto (tgt := 191) S.x S.b d_Mpg_readNumber_167 (by decide) ?_
                first | exact px_iret (v := 0) S hr rfl hlk hAe hw (Nat.le_of_ble_eq_true rfl) (Nat.le_of_ble_eq_true rfl) (⟨tf95, ta96, rfl, (show (0 : Int32) = 0 ∨ (0 : Int32) = 1 from by first | exact Or.inl rfl | exact Or.inr rfl | exact z_or (by omega)), (show (tf95 5).toInt = (tf 5).toInt from e100), (show (tf 6).toInt ≤ (tf95 6).toInt from (oz_7db54039c4 e99)), (show (tf95 6).toInt ≤ (tf 6).toInt + 1 from (oz_6ad8cf7f07 e99)), (show (0 : Int) = 1 → (tf95 6).toInt = (tf 6).toInt + 1 from by omega), (show RdK (tf 5).toInt ta96 (tf 6) (0 : Int32) p0 from (by first | exact rdk_n htp (by assumption) (by omega) (by omega) | exact rdk_0 htp (by omega))), (show R_mp_readNumber p0 tf ta tf95 ta96 (0 : Int32) from (k46_7 _ _ _ 1 (Or.inr (Or.inl ⟨rfl, x46_2, x46_3, x46_4, x46_5, rfl, rfl, rfl, rfl, rfl, Or.inr ⟨nc1, z76, ez76, v78, e81, v83, e87, Or.inl ⟨nc88, z90, ez90, z91, ez91, z92, ez92, tf95, ta96, e102, Or.inr ⟨nc103, Or.inr ⟨nc110, Or.inl ⟨nc112, rfl, rfl, rfl⟩⟩⟩⟩⟩⟩))))⟩) d_Mpg_readNumber_191 | (exact px_iret (v := 0) S hr rfl hlk hAe hw (Nat.le_of_ble_eq_true rfl) (Nat.le_of_ble_eq_true rfl) (⟨tf95, ta96, rfl, (show (0 : Int32) = 0 ∨ (0 : Int32) = 1 from by first | exact Or.inl rfl | exact Or.inr rfl | exact z_or (by omega)), (show (tf95 5).toInt = (tf 5).toInt from by first | exact e100 | omega), (show (tf 6).toInt ≤ (tf95 6).toInt from by first | exact oz_7db54039c4 e99 | omega), (show (tf95 6).toInt ≤ (tf 6).toInt + 1 from by first | exact oz_6ad8cf7f07 e99 | omega), (show (0 : Int) = 1 → (tf95 6).toInt = (tf 6).toInt + 1 from by omega), (show RdK (tf 5).toInt ta96 (tf 6) (0 : Int32) p0 from (by first | exact rdk_n htp (by assumption) (by omega) (by omega) | exact rdk_0 htp (by omega))), (show R_mp_readNumber p0 tf ta tf95 ta96 (0 : Int32) from (k46_7 _ _ _ 1 (Or.inr (Or.inl ⟨rfl, x46_2, x46_3, x46_4, x46_5, rfl, rfl, rfl, rfl, rfl, Or.inr ⟨nc1, z76, ez76, v78, e81, v83, e87, Or.inl ⟨nc88, z90, ez90, z91, ez91, z92, ez92, tf95, ta96, e102, Or.inr ⟨nc103, Or.inr ⟨nc110, Or.inl ⟨nc112, rfl, rfl, rfl⟩⟩⟩⟩⟩⟩))))⟩) d_Mpg_readNumber_191)
              · have nc112 : ¬ (8 : Int) < x46_4.toInt := mt (i_lt (x := 8) (y := x46_4)).mpr c112
                refine lv_iconst (v := 1) S.x S.b d_Mpg_readNumber_162 (by decide) ?_
                refine lv_goto (tgt := 191) S.x S.b d_Mpg_readNumber_163 (by decide) ?_
                first | exact px_iret (v := 1) S hr rfl hlk hAe hw (Nat.le_of_ble_eq_true rfl) (Nat.le_of_ble_eq_true rfl) (⟨tf95, ta96, rfl, (show (1 : Int32) = 0 ∨ (1 : Int32) = 1 from by first | exact Or.inl rfl | exact Or.inr rfl | exact z_or (by omega)), (show (tf95 5).toInt = (tf 5).toInt from e100), (show (tf 6).toInt ≤ (tf95 6).toInt from (oz_7db54039c4 e99)), (show (tf95 6).toInt ≤ (tf 6).toInt + 1 from (oz_6ad8cf7f07 e99)), (show (1 : Int) = 1 → (tf95 6).toInt = (tf 6).toInt + 1 from by omega), (show RdK (tf 5).toInt ta96 (tf 6) (1 : Int32) p0 from (rdk_y htp (by assumption) (by omega) ⟨⟨by omega, by omega⟩, ⟨by omega, by omega, by omega⟩, fun h => ⟨by omega, by omega, by omega⟩, fun h => ⟨by omega, by omega, by omega⟩, fun h => ⟨by omega, by omega, by omega⟩⟩)), (show R_mp_readNumber p0 tf ta tf95 ta96 (1 : Int32) from (k46_7 _ _ _ 1 (Or.inr (Or.inl ⟨rfl, x46_2, x46_3, x46_4, x46_5, rfl, rfl, rfl, rfl, rfl, Or.inr ⟨nc1, z76, ez76, v78, e81, v83, e87, Or.inl ⟨nc88, z90, ez90, z91, ez91, z92, ez92, tf95, ta96, e102, Or.inr ⟨nc103, Or.inr ⟨nc110, Or.inr ⟨nc112, rfl, rfl, rfl⟩⟩⟩⟩⟩⟩))))⟩) d_Mpg_readNumber_191 | (exact px_iret (v := 1) S hr rfl hlk hAe hw (Nat.le_of_ble_eq_true rfl) (Nat.le_of_ble_eq_true rfl) (⟨tf95, ta96, rfl, (show (1 : Int32) = 0 ∨ (1 : Int32) = 1 from by first | exact Or.inl rfl | exact Or.inr rfl | exact z_or (by omega)), (show (tf95 5).toInt = (tf 5).toInt from by first | exact e100 | omega), (show (tf 6).toInt ≤ (tf95 6).toInt from by first | exact oz_7db54039c4 e99 | omega), (show (tf95 6).toInt ≤ (tf 6).toInt + 1 from by first | exact oz_6ad8cf7f07 e99 | omega), (show (1 : Int) = 1 → (tf95 6).toInt = (tf 6).toInt + 1 from by omega), (show RdK (tf 5).toInt ta96 (tf 6) (1 : Int32) p0 from (rdk_y htp (by assumption) (by omega) ⟨⟨by omega, by omega⟩, ⟨by omega, by omega, by omega⟩, fun h => ⟨by omega, by omega, by omega⟩, fun h => ⟨by omega, by omega, by omega⟩, fun h => ⟨by omega, by omega, by omega⟩⟩)), (show R_mp_readNumber p0 tf ta tf95 ta96 (1 : Int32) from (k46_7 _ _ _ 1 (Or.inr (Or.inl ⟨rfl, x46_2, x46_3, x46_4, x46_5, rfl, rfl, rfl, rfl, rfl, Or.inr ⟨nc1, z76, ez76, v78, e81, v83, e87, Or.inl ⟨nc88, z90, ez90, z91, ez91, z92, ez92, tf95, ta96, e102, Or.inr ⟨nc103, Or.inr ⟨nc110, Or.inr ⟨nc112, rfl, rfl, rfl⟩⟩⟩⟩⟩⟩))))⟩) d_Mpg_readNumber_191)
        · have nc88 : ¬ v83.toInt < (0 : Int) := mt (i_lt (x := v83) (y := 0)).mpr c88
          refine lv_goto (tgt := 81) S.x S.b d_Mpg_readNumber_64 (by decide) ?_
          refine lv_iload S.x S.b d_Mpg_readNumber_81 (lv_at hl 4 rfl) ?_
          refine lv_bipush (v := 12) S.x S.b d_Mpg_readNumber_83 (by decide) ?_
          refine lv_icmp_ge (tgt := 120) S.x S.b d_Mpg_readNumber_85 (by decide) (fun c114 => ?_) (fun c114 => ?_)
          · have nc114 : (12 : Int) ≤ x46_4.toInt := (i_le (x := 12) (y := x46_4)).mp c114
            refine lv_lload S.x S.b d_Mpg_readNumber_120 (lv_at hl 5 rfl) ?_
            refine lv_lstore (lv' := [(5, .long x46_5), (0, .ref h), (1, .int p0), (2, .int x46_2), (3, .int x46_3), (4, .int x46_4)]) S.x S.b d_Mpg_readNumber_122 hl (by decide) rfl (fun ls hl => ?_)
            obtain ⟨z116, ez116⟩ : ∃ y : Int32, y = x46_4 + 1 := ⟨_, rfl⟩
            have tz116 : z116.toInt = (x46_4.toInt + 1 + 2147483648) % 4294967296 - 2147483648 := by rw [ez116]; exact i_add x46_4 1
            have lz116 := Int32.le_toInt z116
            have uz116 := Int32.toInt_lt z116
            try replace tz116 : z116.toInt = x46_4.toInt + 1 := by omega
            refine lv_iinc (v := z116) (lv' := [(4, .int z116), (5, .long x46_5), (0, .ref h), (1, .int p0), (2, .int x46_2), (3, .int x46_3)]) S.x S.b d_Mpg_readNumber_124 hl (k := 5) rfl (by rw [ez116]; rfl) (by decide) rfl (fun ls hl => ?_)
            refine lv_goto (tgt := 46) S.x S.b d_Mpg_readNumber_127 (by decide) ?_
            first | exact ih46 x46_2 x46_3 z116 x46_5 _ _ ls (show 0 ≤ x46_2.toInt from k46_0) (show x46_2.toInt ≤ 1 from k46_1) (show x46_2.toInt = 1 → x46_3.toInt = p0.toInt + 2 from k46_2) (show x46_2.toInt = 0 → x46_3.toInt = p0.toInt from k46_3) (show 0 ≤ z116.toInt from (oz_f5be280463 tz116 nc114)) (show x46_3.toInt + z116.toInt ≤ (tf 5).toInt ∨ z116.toInt = 0 from by omega) (show x46_2.toInt = 1 → p0.toInt + 2 ≤ (tf 5).toInt from k46_6) (show K_mp_readNumber_46 p0 tf ta tf ta x46_2 x46_3 z116 x46_5 from (fun y_f0 y_f1 y_v k hE => k46_7 y_f0 y_f1 y_v (k + 1) (Or.inr (Or.inl ⟨rfl, x46_2, x46_3, x46_4, x46_5, rfl, rfl, rfl, rfl, rfl, Or.inr ⟨nc1, z76, ez76, v78, e81, v83, e87, Or.inr ⟨nc88, Or.inl ⟨nc114, z116, ez116, hE⟩⟩⟩⟩)))) (show (tf 5).toInt + 3 - x46_3.toInt - z116.toInt < (n_46 : Int) from (oz_46d5be2f80 hm tz116)) hw (lv_sub hl [2, 3, 4, 5, 0, 1] rfl) | (exact ih46 x46_2 x46_3 z116 x46_5 _ _ ls (show 0 ≤ x46_2.toInt from by first | exact k46_0 | omega) (show x46_2.toInt ≤ 1 from by first | exact k46_1 | omega) (show x46_2.toInt = 1 → x46_3.toInt = p0.toInt + 2 from by first | exact k46_2 | omega) (show x46_2.toInt = 0 → x46_3.toInt = p0.toInt from by first | exact k46_3 | omega) (show 0 ≤ z116.toInt from by first | exact oz_f5be280463 tz116 nc114 | omega) (show x46_3.toInt + z116.toInt ≤ (tf 5).toInt ∨ z116.toInt = 0 from by omega) (show x46_2.toInt = 1 → p0.toInt + 2 ≤ (tf 5).toInt from by first | exact k46_6 | omega) (show K_mp_readNumber_46 p0 tf ta tf ta x46_2 x46_3 z116 x46_5 from (fun y_f0 y_f1 y_v k hE => k46_7 y_f0 y_f1 y_v (k + 1) (Or.inr (Or.inl ⟨rfl, x46_2, x46_3, x46_4, x46_5, rfl, rfl, rfl, rfl, rfl, Or.inr ⟨nc1, z76, ez76, v78, e81, v83, e87, Or.inr ⟨nc88, Or.inl ⟨nc114, z116, ez116, hE⟩⟩⟩⟩)))) (show (tf 5).toInt + 3 - x46_3.toInt - z116.toInt < (n_46 : Int) from by first | exact oz_46d5be2f80 hm tz116 | omega) hw (lv_sub hl [2, 3, 4, 5, 0, 1] rfl))
          · have nc114 : ¬ (12 : Int) ≤ x46_4.toInt := mt (i_le (x := 12) (y := x46_4)).mpr c114
            refine lv_lload S.x S.b d_Mpg_readNumber_88 (lv_at hl 5 rfl) ?_
            refine lv_iload_n S.x S.b d_Mpg_readNumber_90 rfl (lv_at hl 2 rfl) ?_
            refine lv_if_eq (tgt := 100) S.x S.b d_Mpg_readNumber_91 (by decide) (fun c117 => ?_) (fun c117 => ?_)
            · have nc117 : x46_2.toInt = (0 : Int) := (i_eq (x := x46_2) (y := 0)).mp c117
              refine lv_ldc2 (v := 10) S.x S.b S.own (S.w m11_175) d_Mpg_readNumber_100 ?_
              refine lv_lmul S.x S.b d_Mpg_readNumber_103 ?_
              refine lv_topl (fun z119 ez119 => ?_)
              refine lv_aload_n S.x S.b d_Mpg_readNumber_104 rfl (lv_at hl 0 rfl) ?_
              refine lv_iload_n S.x S.b d_Mpg_readNumber_105 rfl (lv_at hl 3 rfl) ?_
              refine lv_iload S.x S.b d_Mpg_readNumber_106 (lv_at hl 4 rfl) ?_
              refine lv_iadd S.x S.b d_Mpg_readNumber_108 ?_
              refine lv_topi (fun z120 ez120 => ?_)
              have tz120 : z120.toInt = (x46_3.toInt + x46_4.toInt + 2147483648) % 4294967296 - 2147483648 := by rw [ez120]; exact i_add x46_3 x46_4
              have lz120 := Int32.le_toInt z120
              have uz120 := Int32.toInt_lt z120
              try replace tz120 : z120.toInt = x46_3.toInt + x46_4.toInt := by omega
              first | refine px_calli (pr := []) (px_runV (As := [.int z120]) (rest := [.long z119]) S (c_mp_byteAt l D cs h r g tf ta pf na ma wa cf ca ef ea xf xa z120  (show 0 ≤ (tf 5).toInt from g0) (show (tf 5).toInt ≤ 2048 from g1) (show 0 ≤ z120.toInt from (oz_0e60057f66 tz120 k46_4 nc117 k46_0 k46_3 g2)) _) hT (pr := []) (pcs := [wdP cs h r g tf ta pf na ma wa cf ca ef ea xf xa]) hw px_X.tt (px_recv hT hw 0 0 rfl rfl rfl) m11_142 m11_139 m11_141 ms_7_15 m1_21 q_Mpg_byteAt ⟨Nat.le_of_ble_eq_true rfl, Nat.le_of_ble_eq_true rfl⟩ hl.1 rfl (Nat.le_of_ble_eq_true rfl) d_Mpg_readNumber_109 ⟨Nat.le_of_ble_eq_true rfl, Nat.le_of_ble_eq_true rfl⟩) hw hA (fun v122 p121 H locs hp121 hw => ?_) | (refine px_calli (pr := []) (px_runV (As := [.int z120]) (rest := [.long z119]) S (c_mp_byteAt l D cs h r g tf ta pf na ma wa cf ca ef ea xf xa z120  (show 0 ≤ (tf 5).toInt from by first | exact g0 | omega) (show (tf 5).toInt ≤ 2048 from by first | exact g1 | omega) (show 0 ≤ z120.toInt from by first | exact oz_0e60057f66 tz120 k46_4 nc117 k46_0 k46_3 g2 | omega) _) hT (pr := []) (pcs := [wdP cs h r g tf ta pf na ma wa cf ca ef ea xf xa]) hw px_X.tt (px_recv hT hw 0 0 rfl rfl rfl) m11_142 m11_139 m11_141 ms_7_15 m1_21 q_Mpg_byteAt ⟨Nat.le_of_ble_eq_true rfl, Nat.le_of_ble_eq_true rfl⟩ hl.1 rfl (Nat.le_of_ble_eq_true rfl) d_Mpg_readNumber_109 ⟨Nat.le_of_ble_eq_true rfl, Nat.le_of_ble_eq_true rfl⟩) hw hA (fun v122 p121 H locs hp121 hw => ?_))
              obtain ⟨rfl, e123, e124, e125⟩ := hp121
              have e123 : z120.toInt < (tf 5).toInt ∨ v122.toInt = -1 := e123
              have e124 : BtV ta (tf 5).toInt z120.toInt v122.toInt := e124
              have e125 : R_mp_byteAt tf ta z120 v122 := e125
              have lv122 := Int32.le_toInt v122
              have uv122 := Int32.toInt_lt v122
              refine px_calli (pr := [wdP cs h r g tf ta pf na ma wa cf ca ef ea xf xa]) (px_runS (As := [.int v122]) (rest := [.long z119]) S (c_mp_figure l D cs  v122   _) hT (pr := [wdP cs h r g tf ta pf na ma wa cf ca ef ea xf xa]) (pcs := []) hw px_X.tt m11_173 m11_171 m11_172 m1_21 q_Mpg_figure ⟨Nat.le_of_ble_eq_true rfl, Nat.le_of_ble_eq_true rfl⟩ hl.1 rfl (Nat.le_of_ble_eq_true rfl) d_Mpg_readNumber_112 ⟨Nat.le_of_ble_eq_true rfl, Nat.le_of_ble_eq_true rfl⟩) hw hA (fun v127 p126 H locs hp126 hw => ?_)
              obtain ⟨rfl, e128, e129, e130, e131⟩ := hp126
              have e128 : -1 ≤ v127.toInt := e128
              have e129 : v127.toInt ≤ 15 := e129
              have e130 : 0 ≤ v127.toInt → 48 ≤ v122.toInt := e130
              have e131 : R_mp_figure v122 v127 := e131
              have lv127 := Int32.le_toInt v127
              have uv127 := Int32.toInt_lt v127
              refine lv_i2l S.x S.b d_Mpg_readNumber_115 rfl ?_
              refine lv_ladd S.x S.b d_Mpg_readNumber_116 ?_
              refine lv_topl (fun z132 ez132 => ?_)
              refine lv_goto (tgt := 122) S.x S.b d_Mpg_readNumber_117 (by decide) ?_
              refine lv_lstore (lv' := [(5, .long z132), (0, .ref h), (1, .int p0), (2, .int x46_2), (3, .int x46_3), (4, .int x46_4)]) S.x S.b d_Mpg_readNumber_122 hl (by decide) rfl (fun ls hl => ?_)
              obtain ⟨z133, ez133⟩ : ∃ y : Int32, y = x46_4 + 1 := ⟨_, rfl⟩
              have tz133 : z133.toInt = (x46_4.toInt + 1 + 2147483648) % 4294967296 - 2147483648 := by rw [ez133]; exact i_add x46_4 1
              have lz133 := Int32.le_toInt z133
              have uz133 := Int32.toInt_lt z133
              try replace tz133 : z133.toInt = x46_4.toInt + 1 := by omega
              refine lv_iinc (v := z133) (lv' := [(4, .int z133), (5, .long z132), (0, .ref h), (1, .int p0), (2, .int x46_2), (3, .int x46_3)]) S.x S.b d_Mpg_readNumber_124 hl (k := 5) rfl (by rw [ez133]; rfl) (by decide) rfl (fun ls hl => ?_)
              refine lv_goto (tgt := 46) S.x S.b d_Mpg_readNumber_127 (by decide) ?_
              first | exact ih46 x46_2 x46_3 z133 z132 _ _ ls (show 0 ≤ x46_2.toInt from k46_0) (show x46_2.toInt ≤ 1 from k46_1) (show x46_2.toInt = 1 → x46_3.toInt = p0.toInt + 2 from k46_2) (show x46_2.toInt = 0 → x46_3.toInt = p0.toInt from k46_3) (show 0 ≤ z133.toInt from (oz_ae613611c0 tz133 k46_4)) (show x46_3.toInt + z133.toInt ≤ (tf 5).toInt ∨ z133.toInt = 0 from by omega) (show x46_2.toInt = 1 → p0.toInt + 2 ≤ (tf 5).toInt from k46_6) (show K_mp_readNumber_46 p0 tf ta tf ta x46_2 x46_3 z133 z132 from (fun y_f0 y_f1 y_v k hE => k46_7 y_f0 y_f1 y_v (k + 1) (Or.inr (Or.inl ⟨rfl, x46_2, x46_3, x46_4, x46_5, rfl, rfl, rfl, rfl, rfl, Or.inr ⟨nc1, z76, ez76, v78, e81, v83, e87, Or.inr ⟨nc88, Or.inr ⟨nc114, Or.inl ⟨nc117, z119, ez119, z120, ez120, v122, e125, v127, e131, z132, ez132, z133, ez133, hE⟩⟩⟩⟩⟩)))) (show (tf 5).toInt + 3 - x46_3.toInt - z133.toInt < (n_46 : Int) from (oz_46d5be2f80 hm tz133)) hw (lv_sub hl [2, 3, 4, 5, 0, 1] rfl) | (exact ih46 x46_2 x46_3 z133 z132 _ _ ls (show 0 ≤ x46_2.toInt from by first | exact k46_0 | omega) (show x46_2.toInt ≤ 1 from by first | exact k46_1 | omega) (show x46_2.toInt = 1 → x46_3.toInt = p0.toInt + 2 from by first | exact k46_2 | omega) (show x46_2.toInt = 0 → x46_3.toInt = p0.toInt from by first | exact k46_3 | omega) (show 0 ≤ z133.toInt from by first | exact oz_ae613611c0 tz133 k46_4 | omega) (show x46_3.toInt + z133.toInt ≤ (tf 5).toInt ∨ z133.toInt = 0 from by omega) (show x46_2.toInt = 1 → p0.toInt + 2 ≤ (tf 5).toInt from by first | exact k46_6 | omega) (show K_mp_readNumber_46 p0 tf ta tf ta x46_2 x46_3 z133 z132 from (fun y_f0 y_f1 y_v k hE => k46_7 y_f0 y_f1 y_v (k + 1) (Or.inr (Or.inl ⟨rfl, x46_2, x46_3, x46_4, x46_5, rfl, rfl, rfl, rfl, rfl, Or.inr ⟨nc1, z76, ez76, v78, e81, v83, e87, Or.inr ⟨nc88, Or.inr ⟨nc114, Or.inl ⟨nc117, z119, ez119, z120, ez120, v122, e125, v127, e131, z132, ez132, z133, ez133, hE⟩⟩⟩⟩⟩)))) (show (tf 5).toInt + 3 - x46_3.toInt - z133.toInt < (n_46 : Int) from by first | exact oz_46d5be2f80 hm tz133 | omega) hw (lv_sub hl [2, 3, 4, 5, 0, 1] rfl))
            · have nc117 : ¬ x46_2.toInt = (0 : Int) := mt (i_eq (x := x46_2) (y := 0)).mpr c117
              refine lv_ldc2 (v := 16) S.x S.b S.own (S.w m11_174) d_Mpg_readNumber_94 ?_
              refine lv_goto (tgt := 103) S.x S.b d_Mpg_readNumber_97 (by decide) ?_
              refine lv_lmul S.x S.b d_Mpg_readNumber_103 ?_
              refine lv_topl (fun z134 ez134 => ?_)
              refine lv_aload_n S.x S.b d_Mpg_readNumber_104 rfl (lv_at hl 0 rfl) ?_
              refine lv_iload_n S.x S.b d_Mpg_readNumber_105 rfl (lv_at hl 3 rfl) ?_
              refine lv_iload S.x S.b d_Mpg_readNumber_106 (lv_at hl 4 rfl) ?_
              refine lv_iadd S.x S.b d_Mpg_readNumber_108 ?_
              refine lv_topi (fun z135 ez135 => ?_)
              have tz135 : z135.toInt = (x46_3.toInt + x46_4.toInt + 2147483648) % 4294967296 - 2147483648 := by rw [ez135]; exact i_add x46_3 x46_4
              have lz135 := Int32.le_toInt z135
              have uz135 := Int32.toInt_lt z135
              try replace tz135 : z135.toInt = x46_3.toInt + x46_4.toInt := by omega
              first | refine px_calli (pr := []) (px_runV (As := [.int z135]) (rest := [.long z134]) S (c_mp_byteAt l D cs h r g tf ta pf na ma wa cf ca ef ea xf xa z135  (show 0 ≤ (tf 5).toInt from g0) (show (tf 5).toInt ≤ 2048 from g1) (show 0 ≤ z135.toInt from by omega) _) hT (pr := []) (pcs := [wdP cs h r g tf ta pf na ma wa cf ca ef ea xf xa]) hw px_X.tt (px_recv hT hw 0 0 rfl rfl rfl) m11_142 m11_139 m11_141 ms_7_15 m1_21 q_Mpg_byteAt ⟨Nat.le_of_ble_eq_true rfl, Nat.le_of_ble_eq_true rfl⟩ hl.1 rfl (Nat.le_of_ble_eq_true rfl) d_Mpg_readNumber_109 ⟨Nat.le_of_ble_eq_true rfl, Nat.le_of_ble_eq_true rfl⟩) hw hA (fun v137 p136 H locs hp136 hw => ?_) | (refine px_calli (pr := []) (px_runV (As := [.int z135]) (rest := [.long z134]) S (c_mp_byteAt l D cs h r g tf ta pf na ma wa cf ca ef ea xf xa z135  (show 0 ≤ (tf 5).toInt from by first | exact g0 | omega) (show (tf 5).toInt ≤ 2048 from by first | exact g1 | omega) (show 0 ≤ z135.toInt from by omega) _) hT (pr := []) (pcs := [wdP cs h r g tf ta pf na ma wa cf ca ef ea xf xa]) hw px_X.tt (px_recv hT hw 0 0 rfl rfl rfl) m11_142 m11_139 m11_141 ms_7_15 m1_21 q_Mpg_byteAt ⟨Nat.le_of_ble_eq_true rfl, Nat.le_of_ble_eq_true rfl⟩ hl.1 rfl (Nat.le_of_ble_eq_true rfl) d_Mpg_readNumber_109 ⟨Nat.le_of_ble_eq_true rfl, Nat.le_of_ble_eq_true rfl⟩) hw hA (fun v137 p136 H locs hp136 hw => ?_))
              obtain ⟨rfl, e138, e139, e140⟩ := hp136
              have e138 : z135.toInt < (tf 5).toInt ∨ v137.toInt = -1 := e138
              have e139 : BtV ta (tf 5).toInt z135.toInt v137.toInt := e139
              have e140 : R_mp_byteAt tf ta z135 v137 := e140
              have lv137 := Int32.le_toInt v137
              have uv137 := Int32.toInt_lt v137
              refine px_calli (pr := [wdP cs h r g tf ta pf na ma wa cf ca ef ea xf xa]) (px_runS (As := [.int v137]) (rest := [.long z134]) S (c_mp_figure l D cs  v137   _) hT (pr := [wdP cs h r g tf ta pf na ma wa cf ca ef ea xf xa]) (pcs := []) hw px_X.tt m11_173 m11_171 m11_172 m1_21 q_Mpg_figure ⟨Nat.le_of_ble_eq_true rfl, Nat.le_of_ble_eq_true rfl⟩ hl.1 rfl (Nat.le_of_ble_eq_true rfl) d_Mpg_readNumber_112 ⟨Nat.le_of_ble_eq_true rfl, Nat.le_of_ble_eq_true rfl⟩) hw hA (fun v142 p141 H locs hp141 hw => ?_)
              obtain ⟨rfl, e143, e144, e145, e146⟩ := hp141
              have e143 : -1 ≤ v142.toInt := e143
              have e144 : v142.toInt ≤ 15 := e144
              have e145 : 0 ≤ v142.toInt → 48 ≤ v137.toInt := e145
              have e146 : R_mp_figure v137 v142 := e146
              have lv142 := Int32.le_toInt v142
              have uv142 := Int32.toInt_lt v142
              refine lv_i2l S.x S.b d_Mpg_readNumber_115 rfl ?_
              refine lv_ladd S.x S.b d_Mpg_readNumber_116 ?_
              refine lv_topl (fun z147 ez147 => ?_)
              refine lv_goto (tgt := 122) S.x S.b d_Mpg_readNumber_117 (by decide) ?_
              refine lv_lstore (lv' := [(5, .long z147), (0, .ref h), (1, .int p0), (2, .int x46_2), (3, .int x46_3), (4, .int x46_4)]) S.x S.b d_Mpg_readNumber_122 hl (by decide) rfl (fun ls hl => ?_)
              obtain ⟨z148, ez148⟩ : ∃ y : Int32, y = x46_4 + 1 := ⟨_, rfl⟩
              have tz148 : z148.toInt = (x46_4.toInt + 1 + 2147483648) % 4294967296 - 2147483648 := by rw [ez148]; exact i_add x46_4 1
              have lz148 := Int32.le_toInt z148
              have uz148 := Int32.toInt_lt z148
              try replace tz148 : z148.toInt = x46_4.toInt + 1 := by omega
              refine lv_iinc (v := z148) (lv' := [(4, .int z148), (5, .long z147), (0, .ref h), (1, .int p0), (2, .int x46_2), (3, .int x46_3)]) S.x S.b d_Mpg_readNumber_124 hl (k := 5) rfl (by rw [ez148]; rfl) (by decide) rfl (fun ls hl => ?_)
              refine lv_goto (tgt := 46) S.x S.b d_Mpg_readNumber_127 (by decide) ?_
              first | exact ih46 x46_2 x46_3 z148 z147 _ _ ls (show 0 ≤ x46_2.toInt from k46_0) (show x46_2.toInt ≤ 1 from k46_1) (show x46_2.toInt = 1 → x46_3.toInt = p0.toInt + 2 from k46_2) (show x46_2.toInt = 0 → x46_3.toInt = p0.toInt from k46_3) (show 0 ≤ z148.toInt from (oz_ae613611c0 tz148 k46_4)) (show x46_3.toInt + z148.toInt ≤ (tf 5).toInt ∨ z148.toInt = 0 from by omega) (show x46_2.toInt = 1 → p0.toInt + 2 ≤ (tf 5).toInt from k46_6) (show K_mp_readNumber_46 p0 tf ta tf ta x46_2 x46_3 z148 z147 from (fun y_f0 y_f1 y_v k hE => k46_7 y_f0 y_f1 y_v (k + 1) (Or.inr (Or.inl ⟨rfl, x46_2, x46_3, x46_4, x46_5, rfl, rfl, rfl, rfl, rfl, Or.inr ⟨nc1, z76, ez76, v78, e81, v83, e87, Or.inr ⟨nc88, Or.inr ⟨nc114, Or.inr ⟨nc117, z134, ez134, z135, ez135, v137, e140, v142, e146, z147, ez147, z148, ez148, hE⟩⟩⟩⟩⟩)))) (show (tf 5).toInt + 3 - x46_3.toInt - z148.toInt < (n_46 : Int) from (oz_46d5be2f80 hm tz148)) hw (lv_sub hl [2, 3, 4, 5, 0, 1] rfl) | (exact ih46 x46_2 x46_3 z148 z147 _ _ ls (show 0 ≤ x46_2.toInt from by first | exact k46_0 | omega) (show x46_2.toInt ≤ 1 from by first | exact k46_1 | omega) (show x46_2.toInt = 1 → x46_3.toInt = p0.toInt + 2 from by first | exact k46_2 | omega) (show x46_2.toInt = 0 → x46_3.toInt = p0.toInt from by first | exact k46_3 | omega) (show 0 ≤ z148.toInt from by first | exact oz_ae613611c0 tz148 k46_4 | omega) (show x46_3.toInt + z148.toInt ≤ (tf 5).toInt ∨ z148.toInt = 0 from by omega) (show x46_2.toInt = 1 → p0.toInt + 2 ≤ (tf 5).toInt from by first | exact k46_6 | omega) (show K_mp_readNumber_46 p0 tf ta tf ta x46_2 x46_3 z148 z147 from (fun y_f0 y_f1 y_v k hE => k46_7 y_f0 y_f1 y_v (k + 1) (Or.inr (Or.inl ⟨rfl, x46_2, x46_3, x46_4, x46_5, rfl, rfl, rfl, rfl, rfl, Or.inr ⟨nc1, z76, ez76, v78, e81, v83, e87, Or.inr ⟨nc88, Or.inr ⟨nc114, Or.inr ⟨nc117, z134, ez134, z135, ez135, v137, e140, v142, e146, z147, ez147, z148, ez148, hE⟩⟩⟩⟩⟩)))) (show (tf 5).toInt + 3 - x46_3.toInt - z148.toInt < (n_46 : Int) from by first | exact oz_46d5be2f80 hm tz148 | omega) hw (lv_sub hl [2, 3, 4, 5, 0, 1] rfl))
  refine lv_aload_n S.x S.b d_Mpg_readNumber_0 rfl (lv_at hl 0 rfl) ?_
  refine lv_iload_n S.x S.b d_Mpg_readNumber_1 rfl (lv_at hl 1 rfl) ?_
  first | refine px_calli (pr := []) (px_runV (As := [.int p0]) (rest := []) S (c_mp_byteAt l D cs h r g tf ta pf na ma wa cf ca ef ea xf xa p0  (show 0 ≤ (tf 5).toInt from g0) (show (tf 5).toInt ≤ 2048 from g1) (show 0 ≤ p0.toInt from g2) _) hT (pr := []) (pcs := [wdP cs h r g tf ta pf na ma wa cf ca ef ea xf xa]) hw px_X.tt (px_recv hT hw 0 0 rfl rfl rfl) m11_142 m11_139 m11_141 ms_7_15 m1_21 q_Mpg_byteAt ⟨Nat.le_of_ble_eq_true rfl, Nat.le_of_ble_eq_true rfl⟩ hl.1 rfl (Nat.le_of_ble_eq_true rfl) d_Mpg_readNumber_2 ⟨Nat.le_of_ble_eq_true rfl, Nat.le_of_ble_eq_true rfl⟩) hw hA (fun v150 p149 H locs hp149 hw => ?_) | (refine px_calli (pr := []) (px_runV (As := [.int p0]) (rest := []) S (c_mp_byteAt l D cs h r g tf ta pf na ma wa cf ca ef ea xf xa p0  (show 0 ≤ (tf 5).toInt from by first | exact g0 | omega) (show (tf 5).toInt ≤ 2048 from by first | exact g1 | omega) (show 0 ≤ p0.toInt from by first | exact g2 | omega) _) hT (pr := []) (pcs := [wdP cs h r g tf ta pf na ma wa cf ca ef ea xf xa]) hw px_X.tt (px_recv hT hw 0 0 rfl rfl rfl) m11_142 m11_139 m11_141 ms_7_15 m1_21 q_Mpg_byteAt ⟨Nat.le_of_ble_eq_true rfl, Nat.le_of_ble_eq_true rfl⟩ hl.1 rfl (Nat.le_of_ble_eq_true rfl) d_Mpg_readNumber_2 ⟨Nat.le_of_ble_eq_true rfl, Nat.le_of_ble_eq_true rfl⟩) hw hA (fun v150 p149 H locs hp149 hw => ?_))
  obtain ⟨rfl, e151, e152, e153⟩ := hp149
  have e151 : p0.toInt < (tf 5).toInt ∨ v150.toInt = -1 := e151
  have e152 : BtV ta (tf 5).toInt p0.toInt v150.toInt := e152
  have e153 : R_mp_byteAt tf ta p0 v150 := e153
  have lv150 := Int32.le_toInt v150
  have uv150 := Int32.toInt_lt v150
  refine lv_bipush (v := 48) S.x S.b d_Mpg_readNumber_5 (by decide) ?_
  refine lv_icmp_ne (tgt := 26) S.x S.b d_Mpg_readNumber_7 (by decide) (fun c154 => ?_) (fun c154 => ?_)
  · have nc154 : ¬ v150.toInt = (48 : Int) := mt (i_eq (x := v150) (y := 48)).mpr c154
    refine lv_iconst (v := 0) S.x S.b d_Mpg_readNumber_26 (by decide) ?_
    refine lv_istore_n (lv' := [(2, .int 0), (0, .ref h), (1, .int p0)]) S.x S.b d_Mpg_readNumber_27 rfl hl (by decide) rfl (fun ls hl => ?_)
    refine lv_iload_n S.x S.b d_Mpg_readNumber_28 rfl (lv_at hl 0 rfl) ?_
    refine lv_if_eq (tgt := 38) S.x S.b d_Mpg_readNumber_29 (by decide) (fun c156 => ?_) (fun c156 => ?_)
    ·
      refine lv_iload_n S.x S.b d_Mpg_readNumber_38 rfl (lv_at hl 2 rfl) ?_
      refine lv_istore_n (lv' := [(3, .int p0), (2, .int 0), (0, .ref h), (1, .int p0)]) S.x S.b d_Mpg_readNumber_39 rfl hl (by decide) rfl (fun ls hl => ?_)
      refine lv_iconst (v := 0) S.x S.b d_Mpg_readNumber_40 (by decide) ?_
      refine lv_istore (lv' := [(4, .int 0), (3, .int p0), (2, .int 0), (0, .ref h), (1, .int p0)]) S.x S.b d_Mpg_readNumber_41 hl (by decide) rfl (fun ls hl => ?_)
      refine lv_lconst (v := 0) S.x S.b d_Mpg_readNumber_43 (by decide) ?_
      refine lv_lstore (lv' := [(5, .long 0), (4, .int 0), (3, .int p0), (2, .int 0), (0, .ref h), (1, .int p0)]) S.x S.b d_Mpg_readNumber_44 hl (by decide) rfl (fun ls hl => ?_)
      first | exact J46 (((tf 5).toInt + 3 - p0.toInt - (0 : Int)).toNat + 1) (0 : Int32) p0 (0 : Int32) 0 _ _ ls (show 0 ≤ (0 : Int) from oz_5a341f00aa) (show (0 : Int) ≤ 1 from oz_6e68cd0f48) (show (0 : Int) = 1 → p0.toInt = p0.toInt + 2 from by omega) (show (0 : Int) = 0 → p0.toInt = p0.toInt from by omega) (show 0 ≤ (0 : Int) from oz_5a341f00aa) (show p0.toInt + (0 : Int) ≤ (tf 5).toInt ∨ (0 : Int) = 0 from by omega) (show (0 : Int) = 1 → p0.toInt + 2 ≤ (tf 5).toInt from by omega) (show K_mp_readNumber_46 p0 tf ta tf ta 0 p0 0 0 from (fun y_f0 y_f1 y_v k hE => Exists.intro (k + 1) (Or.inl ⟨rfl, v150, e153, Or.inl ⟨nc154, hE⟩⟩))) (show (tf 5).toInt + 3 - p0.toInt - (0 : Int) < (((((tf 5).toInt + 3 - p0.toInt - (0 : Int)).toNat + 1 : Nat) : Int) : Int) from oz_natlt) hw (lv_sub hl [4, 5, 3, 2, 1, 0] rfl) | (exact J46 (((tf 5).toInt + 3 - p0.toInt - (0 : Int)).toNat + 1) (0 : Int32) p0 (0 : Int32) 0 _ _ ls (show 0 ≤ (0 : Int) from by first | exact oz_5a341f00aa | omega) (show (0 : Int) ≤ 1 from by first | exact oz_6e68cd0f48 | omega) (show (0 : Int) = 1 → p0.toInt = p0.toInt + 2 from by omega) (show (0 : Int) = 0 → p0.toInt = p0.toInt from by omega) (show 0 ≤ (0 : Int) from by first | exact oz_5a341f00aa | omega) (show p0.toInt + (0 : Int) ≤ (tf 5).toInt ∨ (0 : Int) = 0 from by omega) (show (0 : Int) = 1 → p0.toInt + 2 ≤ (tf 5).toInt from by omega) (show K_mp_readNumber_46 p0 tf ta tf ta 0 p0 0 0 from (fun y_f0 y_f1 y_v k hE => Exists.intro (k + 1) (Or.inl ⟨rfl, v150, e153, Or.inl ⟨nc154, hE⟩⟩))) (show (tf 5).toInt + 3 - p0.toInt - (0 : Int) < (((((tf 5).toInt + 3 - p0.toInt - (0 : Int)).toNat + 1 : Nat) : Int) : Int) from by first | exact oz_natlt | omega) hw (lv_sub hl [4, 5, 3, 2, 1, 0] rfl))
    · exact absurd c156 (by decide)
  · have nc154 : v150.toInt = (48 : Int) := (i_eq (x := v150) (y := 48)).mp c154
    refine lv_aload_n S.x S.b d_Mpg_readNumber_10 rfl (lv_at hl 0 rfl) ?_
    refine lv_iload_n S.x S.b d_Mpg_readNumber_11 rfl (lv_at hl 1 rfl) ?_
    refine lv_iconst (v := 1) S.x S.b d_Mpg_readNumber_12 (by decide) ?_
    refine lv_iadd S.x S.b d_Mpg_readNumber_13 ?_
    refine lv_topi (fun z157 ez157 => ?_)
    have tz157 : z157.toInt = (p0.toInt + (1 : Int) + 2147483648) % 4294967296 - 2147483648 := by rw [ez157]; exact i_add p0 1
    have lz157 := Int32.le_toInt z157
    have uz157 := Int32.toInt_lt z157
    try replace tz157 : z157.toInt = p0.toInt + (1 : Int) := by omega
    first | refine px_calli (pr := []) (px_runV (As := [.int z157]) (rest := []) S (c_mp_byteAt l D cs h r g tf ta pf na ma wa cf ca ef ea xf xa z157  (show 0 ≤ (tf 5).toInt from g0) (show (tf 5).toInt ≤ 2048 from g1) (show 0 ≤ z157.toInt from (oz_b3b25f0e49 tz157 g2)) _) hT (pr := []) (pcs := [wdP cs h r g tf ta pf na ma wa cf ca ef ea xf xa]) hw px_X.tt (px_recv hT hw 0 0 rfl rfl rfl) m11_142 m11_139 m11_141 ms_7_15 m1_21 q_Mpg_byteAt ⟨Nat.le_of_ble_eq_true rfl, Nat.le_of_ble_eq_true rfl⟩ hl.1 rfl (Nat.le_of_ble_eq_true rfl) d_Mpg_readNumber_14 ⟨Nat.le_of_ble_eq_true rfl, Nat.le_of_ble_eq_true rfl⟩) hw hA (fun v159 p158 H locs hp158 hw => ?_) | (refine px_calli (pr := []) (px_runV (As := [.int z157]) (rest := []) S (c_mp_byteAt l D cs h r g tf ta pf na ma wa cf ca ef ea xf xa z157  (show 0 ≤ (tf 5).toInt from by first | exact g0 | omega) (show (tf 5).toInt ≤ 2048 from by first | exact g1 | omega) (show 0 ≤ z157.toInt from by first | exact oz_b3b25f0e49 tz157 g2 | omega) _) hT (pr := []) (pcs := [wdP cs h r g tf ta pf na ma wa cf ca ef ea xf xa]) hw px_X.tt (px_recv hT hw 0 0 rfl rfl rfl) m11_142 m11_139 m11_141 ms_7_15 m1_21 q_Mpg_byteAt ⟨Nat.le_of_ble_eq_true rfl, Nat.le_of_ble_eq_true rfl⟩ hl.1 rfl (Nat.le_of_ble_eq_true rfl) d_Mpg_readNumber_14 ⟨Nat.le_of_ble_eq_true rfl, Nat.le_of_ble_eq_true rfl⟩) hw hA (fun v159 p158 H locs hp158 hw => ?_))
    obtain ⟨rfl, e160, e161, e162⟩ := hp158
    have e160 : z157.toInt < (tf 5).toInt ∨ v159.toInt = -1 := e160
    have e161 : BtV ta (tf 5).toInt z157.toInt v159.toInt := e161
    have e162 : R_mp_byteAt tf ta z157 v159 := e162
    have lv159 := Int32.le_toInt v159
    have uv159 := Int32.toInt_lt v159
    refine lv_bipush (v := 120) S.x S.b d_Mpg_readNumber_17 (by decide) ?_
    refine lv_icmp_ne (tgt := 26) S.x S.b d_Mpg_readNumber_19 (by decide) (fun c163 => ?_) (fun c163 => ?_)
    · have nc163 : ¬ v159.toInt = (120 : Int) := mt (i_eq (x := v159) (y := 120)).mpr c163
      refine lv_iconst (v := 0) S.x S.b d_Mpg_readNumber_26 (by decide) ?_
      refine lv_istore_n (lv' := [(2, .int 0), (0, .ref h), (1, .int p0)]) S.x S.b d_Mpg_readNumber_27 rfl hl (by decide) rfl (fun ls hl => ?_)
      refine lv_iload_n S.x S.b d_Mpg_readNumber_28 rfl (lv_at hl 0 rfl) ?_
      refine lv_if_eq (tgt := 38) S.x S.b d_Mpg_readNumber_29 (by decide) (fun c165 => ?_) (fun c165 => ?_)
      ·
        refine lv_iload_n S.x S.b d_Mpg_readNumber_38 rfl (lv_at hl 2 rfl) ?_
        refine lv_istore_n (lv' := [(3, .int p0), (2, .int 0), (0, .ref h), (1, .int p0)]) S.x S.b d_Mpg_readNumber_39 rfl hl (by decide) rfl (fun ls hl => ?_)
        refine lv_iconst (v := 0) S.x S.b d_Mpg_readNumber_40 (by decide) ?_
        refine lv_istore (lv' := [(4, .int 0), (3, .int p0), (2, .int 0), (0, .ref h), (1, .int p0)]) S.x S.b d_Mpg_readNumber_41 hl (by decide) rfl (fun ls hl => ?_)
        refine lv_lconst (v := 0) S.x S.b d_Mpg_readNumber_43 (by decide) ?_
        refine lv_lstore (lv' := [(5, .long 0), (4, .int 0), (3, .int p0), (2, .int 0), (0, .ref h), (1, .int p0)]) S.x S.b d_Mpg_readNumber_44 hl (by decide) rfl (fun ls hl => ?_)
        first | exact J46 (((tf 5).toInt + 3 - p0.toInt - (0 : Int)).toNat + 1) (0 : Int32) p0 (0 : Int32) 0 _ _ ls (show 0 ≤ (0 : Int) from oz_5a341f00aa) (show (0 : Int) ≤ 1 from oz_6e68cd0f48) (show (0 : Int) = 1 → p0.toInt = p0.toInt + 2 from by omega) (show (0 : Int) = 0 → p0.toInt = p0.toInt from by omega) (show 0 ≤ (0 : Int) from oz_5a341f00aa) (show p0.toInt + (0 : Int) ≤ (tf 5).toInt ∨ (0 : Int) = 0 from by omega) (show (0 : Int) = 1 → p0.toInt + 2 ≤ (tf 5).toInt from by omega) (show K_mp_readNumber_46 p0 tf ta tf ta 0 p0 0 0 from (fun y_f0 y_f1 y_v k hE => Exists.intro (k + 1) (Or.inl ⟨rfl, v150, e153, Or.inr ⟨nc154, z157, ez157, v159, e162, Or.inl ⟨nc163, hE⟩⟩⟩))) (show (tf 5).toInt + 3 - p0.toInt - (0 : Int) < (((((tf 5).toInt + 3 - p0.toInt - (0 : Int)).toNat + 1 : Nat) : Int) : Int) from oz_natlt) hw (lv_sub hl [4, 5, 3, 2, 1, 0] rfl) | (exact J46 (((tf 5).toInt + 3 - p0.toInt - (0 : Int)).toNat + 1) (0 : Int32) p0 (0 : Int32) 0 _ _ ls (show 0 ≤ (0 : Int) from by first | exact oz_5a341f00aa | omega) (show (0 : Int) ≤ 1 from by first | exact oz_6e68cd0f48 | omega) (show (0 : Int) = 1 → p0.toInt = p0.toInt + 2 from by omega) (show (0 : Int) = 0 → p0.toInt = p0.toInt from by omega) (show 0 ≤ (0 : Int) from by first | exact oz_5a341f00aa | omega) (show p0.toInt + (0 : Int) ≤ (tf 5).toInt ∨ (0 : Int) = 0 from by omega) (show (0 : Int) = 1 → p0.toInt + 2 ≤ (tf 5).toInt from by omega) (show K_mp_readNumber_46 p0 tf ta tf ta 0 p0 0 0 from (fun y_f0 y_f1 y_v k hE => Exists.intro (k + 1) (Or.inl ⟨rfl, v150, e153, Or.inr ⟨nc154, z157, ez157, v159, e162, Or.inl ⟨nc163, hE⟩⟩⟩))) (show (tf 5).toInt + 3 - p0.toInt - (0 : Int) < (((((tf 5).toInt + 3 - p0.toInt - (0 : Int)).toNat + 1 : Nat) : Int) : Int) from by first | exact oz_natlt | omega) hw (lv_sub hl [4, 5, 3, 2, 1, 0] rfl))
      · exact absurd c165 (by decide)
    · have nc163 : v159.toInt = (120 : Int) := (i_eq (x := v159) (y := 120)).mp c163
      refine lv_iconst (v := 1) S.x S.b d_Mpg_readNumber_22 (by decide) ?_
      refine lv_goto (tgt := 27) S.x S.b d_Mpg_readNumber_23 (by decide) ?_
      refine lv_istore_n (lv' := [(2, .int 1), (0, .ref h), (1, .int p0)]) S.x S.b d_Mpg_readNumber_27 rfl hl (by decide) rfl (fun ls hl => ?_)
      refine lv_iload_n S.x S.b d_Mpg_readNumber_28 rfl (lv_at hl 0 rfl) ?_
      refine lv_if_eq (tgt := 38) S.x S.b d_Mpg_readNumber_29 (by decide) (fun c166 => ?_) (fun c166 => ?_)
      · exact absurd c166 (by decide)
      ·
        refine lv_iload_n S.x S.b d_Mpg_readNumber_32 rfl (lv_at hl 2 rfl) ?_
        refine lv_iconst (v := 2) S.x S.b d_Mpg_readNumber_33 (by decide) ?_
        refine lv_iadd S.x S.b d_Mpg_readNumber_34 ?_
        refine lv_topi (fun z167 ez167 => ?_)
        have tz167 : z167.toInt = (p0.toInt + (2 : Int) + 2147483648) % 4294967296 - 2147483648 := by rw [ez167]; exact i_add p0 2
        have lz167 := Int32.le_toInt z167
        have uz167 := Int32.toInt_lt z167
        try replace tz167 : z167.toInt = p0.toInt + (2 : Int) := by omega
        refine lv_goto (tgt := 39) S.x S.b d_Mpg_readNumber_35 (by decide) ?_
        refine lv_istore_n (lv' := [(3, .int z167), (2, .int 1), (0, .ref h), (1, .int p0)]) S.x S.b d_Mpg_readNumber_39 rfl hl (by decide) rfl (fun ls hl => ?_)
        refine lv_iconst (v := 0) S.x S.b d_Mpg_readNumber_40 (by decide) ?_
        refine lv_istore (lv' := [(4, .int 0), (3, .int z167), (2, .int 1), (0, .ref h), (1, .int p0)]) S.x S.b d_Mpg_readNumber_41 hl (by decide) rfl (fun ls hl => ?_)
        refine lv_lconst (v := 0) S.x S.b d_Mpg_readNumber_43 (by decide) ?_
        refine lv_lstore (lv' := [(5, .long 0), (4, .int 0), (3, .int z167), (2, .int 1), (0, .ref h), (1, .int p0)]) S.x S.b d_Mpg_readNumber_44 hl (by decide) rfl (fun ls hl => ?_)
        first | exact J46 (((tf 5).toInt + 3 - z167.toInt - (0 : Int)).toNat + 1) (1 : Int32) z167 (0 : Int32) 0 _ _ ls (show 0 ≤ (1 : Int) from oz_19c3a41681) (show (1 : Int) ≤ 1 from oz_f9181dc4bb) (show (1 : Int) = 1 → z167.toInt = p0.toInt + 2 from by omega) (show (1 : Int) = 0 → z167.toInt = p0.toInt from by omega) (show 0 ≤ (0 : Int) from oz_5a341f00aa) (show z167.toInt + (0 : Int) ≤ (tf 5).toInt ∨ (0 : Int) = 0 from by omega) (show (1 : Int) = 1 → p0.toInt + 2 ≤ (tf 5).toInt from by omega) (show K_mp_readNumber_46 p0 tf ta tf ta 1 z167 0 0 from (fun y_f0 y_f1 y_v k hE => Exists.intro (k + 1) (Or.inl ⟨rfl, v150, e153, Or.inr ⟨nc154, z157, ez157, v159, e162, Or.inr ⟨nc163, z167, ez167, hE⟩⟩⟩))) (show (tf 5).toInt + 3 - z167.toInt - (0 : Int) < (((((tf 5).toInt + 3 - z167.toInt - (0 : Int)).toNat + 1 : Nat) : Int) : Int) from oz_natlt) hw (lv_sub hl [4, 5, 3, 2, 1, 0] rfl) | (exact J46 (((tf 5).toInt + 3 - z167.toInt - (0 : Int)).toNat + 1) (1 : Int32) z167 (0 : Int32) 0 _ _ ls (show 0 ≤ (1 : Int) from by first | exact oz_19c3a41681 | omega) (show (1 : Int) ≤ 1 from by first | exact oz_f9181dc4bb | omega) (show (1 : Int) = 1 → z167.toInt = p0.toInt + 2 from by omega) (show (1 : Int) = 0 → z167.toInt = p0.toInt from by omega) (show 0 ≤ (0 : Int) from by first | exact oz_5a341f00aa | omega) (show z167.toInt + (0 : Int) ≤ (tf 5).toInt ∨ (0 : Int) = 0 from by omega) (show (1 : Int) = 1 → p0.toInt + 2 ≤ (tf 5).toInt from by omega) (show K_mp_readNumber_46 p0 tf ta tf ta 1 z167 0 0 from (fun y_f0 y_f1 y_v k hE => Exists.intro (k + 1) (Or.inl ⟨rfl, v150, e153, Or.inr ⟨nc154, z157, ez157, v159, e162, Or.inr ⟨nc163, z167, ez167, hE⟩⟩⟩))) (show (tf 5).toInt + 3 - z167.toInt - (0 : Int) < (((((tf 5).toInt + 3 - z167.toInt - (0 : Int)).toNat + 1 : Nat) : Int) : Int) from by first | exact oz_natlt | omega) hw (lv_sub hl [4, 5, 3, 2, 1, 0] rfl))
abbrev b_Mpg_readString : ByteArray := prog_16_method_13_code
def y_Mpg_readString : MethodName := ⟨"HomeSystemModel$Program", "readString", "(I)Z"⟩
theorem d_Mpg_readString_0 : decode b_Mpg_readString 0 = .ok (.iload_n 1, 1) := by decide +kernel
theorem d_Mpg_readString_1 : decode b_Mpg_readString 1 = .ok (.iconst 1, 1) := by decide +kernel
theorem d_Mpg_readString_2 : decode b_Mpg_readString 2 = .ok (.iadd, 1) := by decide +kernel
theorem d_Mpg_readString_3 : decode b_Mpg_readString 3 = .ok (.istore_n 2, 1) := by decide +kernel
theorem d_Mpg_readString_4 : decode b_Mpg_readString 4 = .ok (.iconst 0, 1) := by decide +kernel
theorem d_Mpg_readString_5 : decode b_Mpg_readString 5 = .ok (.istore_n 3, 1) := by decide +kernel
theorem d_Mpg_readString_6 : decode b_Mpg_readString 6 = .ok (.aload_n 0, 1) := by decide +kernel
theorem d_Mpg_readString_7 : decode b_Mpg_readString 7 = .ok (.iload_n 2, 1) := by decide +kernel
theorem d_Mpg_readString_8 : decode b_Mpg_readString 8 = .ok (.bipush 34, 2) := by decide +kernel
theorem d_Mpg_readString_10 : decode b_Mpg_readString 10 = .ok (.invokevirtual 332, 3) := by decide +kernel
theorem d_Mpg_readString_13 : decode b_Mpg_readString 13 = .ok (.istore 4, 2) := by decide +kernel
theorem d_Mpg_readString_15 : decode b_Mpg_readString 15 = .ok (.iload 4, 2) := by decide +kernel
theorem d_Mpg_readString_17 : decode b_Mpg_readString 17 = .ok (.ifCond .lt 34, 3) := by decide +kernel
theorem d_Mpg_readString_20 : decode b_Mpg_readString 20 = .ok (.iload_n 2, 1) := by decide +kernel
theorem d_Mpg_readString_21 : decode b_Mpg_readString 21 = .ok (.iload 4, 2) := by decide +kernel
theorem d_Mpg_readString_23 : decode b_Mpg_readString 23 = .ok (.sipush 1000, 3) := by decide +kernel
theorem d_Mpg_readString_26 : decode b_Mpg_readString 26 = .ok (.if_icmp .ge 7, 3) := by decide +kernel
theorem d_Mpg_readString_29 : decode b_Mpg_readString 29 = .ok (.iconst 1, 1) := by decide +kernel
theorem d_Mpg_readString_30 : decode b_Mpg_readString 30 = .ok (.goto 4, 3) := by decide +kernel
theorem d_Mpg_readString_33 : decode b_Mpg_readString 33 = .ok (.iconst 2, 1) := by decide +kernel
theorem d_Mpg_readString_34 : decode b_Mpg_readString 34 = .ok (.iadd, 1) := by decide +kernel
theorem d_Mpg_readString_35 : decode b_Mpg_readString 35 = .ok (.istore_n 2, 1) := by decide +kernel
theorem d_Mpg_readString_36 : decode b_Mpg_readString 36 = .ok (.iinc 3 1, 3) := by decide +kernel
theorem d_Mpg_readString_39 : decode b_Mpg_readString 39 = .ok (.aload_n 0, 1) := by decide +kernel
theorem d_Mpg_readString_40 : decode b_Mpg_readString 40 = .ok (.iload_n 2, 1) := by decide +kernel
theorem d_Mpg_readString_41 : decode b_Mpg_readString 41 = .ok (.bipush 34, 2) := by decide +kernel
theorem d_Mpg_readString_43 : decode b_Mpg_readString 43 = .ok (.invokevirtual 332, 3) := by decide +kernel
theorem d_Mpg_readString_46 : decode b_Mpg_readString 46 = .ok (.istore 4, 2) := by decide +kernel
theorem d_Mpg_readString_48 : decode b_Mpg_readString 48 = .ok (.goto (-33), 3) := by decide +kernel
theorem d_Mpg_readString_51 : decode b_Mpg_readString 51 = .ok (.aload_n 0, 1) := by decide +kernel
theorem d_Mpg_readString_52 : decode b_Mpg_readString 52 = .ok (.iload_n 1, 1) := by decide +kernel
theorem d_Mpg_readString_53 : decode b_Mpg_readString 53 = .ok (.iload_n 2, 1) := by decide +kernel
theorem d_Mpg_readString_54 : decode b_Mpg_readString 54 = .ok (.iconst 1, 1) := by decide +kernel
theorem d_Mpg_readString_55 : decode b_Mpg_readString 55 = .ok (.iadd, 1) := by decide +kernel
theorem d_Mpg_readString_56 : decode b_Mpg_readString 56 = .ok (.iload_n 1, 1) := by decide +kernel
theorem d_Mpg_readString_57 : decode b_Mpg_readString 57 = .ok (.isub, 1) := by decide +kernel
theorem d_Mpg_readString_58 : decode b_Mpg_readString 58 = .ok (.iconst 4, 1) := by decide +kernel
theorem d_Mpg_readString_59 : decode b_Mpg_readString 59 = .ok (.iload_n 3, 1) := by decide +kernel
theorem d_Mpg_readString_60 : decode b_Mpg_readString 60 = .ok (.invokevirtual 325, 3) := by decide +kernel
theorem d_Mpg_readString_63 : decode b_Mpg_readString 63 = .ok (.aload_n 0, 1) := by decide +kernel
theorem d_Mpg_readString_64 : decode b_Mpg_readString 64 = .ok (.iload_n 2, 1) := by decide +kernel
theorem d_Mpg_readString_65 : decode b_Mpg_readString 65 = .ok (.invokevirtual 300, 3) := by decide +kernel
theorem d_Mpg_readString_68 : decode b_Mpg_readString 68 = .ok (.bipush 34, 2) := by decide +kernel
theorem d_Mpg_readString_70 : decode b_Mpg_readString 70 = .ok (.if_icmp .ne 14, 3) := by decide +kernel
theorem d_Mpg_readString_73 : decode b_Mpg_readString 73 = .ok (.iload_n 3, 1) := by decide +kernel
theorem d_Mpg_readString_74 : decode b_Mpg_readString 74 = .ok (.sipush 200, 3) := by decide +kernel
theorem d_Mpg_readString_77 : decode b_Mpg_readString 77 = .ok (.if_icmp .gt 7, 3) := by decide +kernel
theorem d_Mpg_readString_80 : decode b_Mpg_readString 80 = .ok (.iconst 1, 1) := by decide +kernel
theorem d_Mpg_readString_81 : decode b_Mpg_readString 81 = .ok (.goto 4, 3) := by decide +kernel
theorem d_Mpg_readString_84 : decode b_Mpg_readString 84 = .ok (.iconst 0, 1) := by decide +kernel
theorem d_Mpg_readString_85 : decode b_Mpg_readString 85 = .ok (.ireturn, 1) := by decide +kernel
theorem q_Mpg_readString : px_y y_Mpg_readString 1 := by unfold px_y; decide +kernel
set_option maxHeartbeats 4000000 in
set_option maxRecDepth 100000 in
theorem c_mp_readString (l : Launch) (D : va_G) (cs : Nat → ClassId) (h : Nat) (r : Nat → Nat) (g : Nat → Nat → Option Nat) (pf : Nat → Int32) (na : Nat → Nat → Int32) (ma : Nat → Nat → Int32) (wa : Nat → Nat → Int32) (cf : Nat → Int32) (ca : Nat → Nat → Int32) (ef : Nat → Int32) (ea : Nat → Nat → Int32) (xf : Nat → Int32) (xa : Nat → Nat → Int32) (tf : Nat → Int32) (ta : Nat → Nat → Int32) (p0 : Int32)  (g0 : 0 ≤ (tf 5).toInt) (g1 : (tf 5).toInt ≤ 2048) (g2 : 0 ≤ p0.toInt) (g3 : p0.toInt < (tf 5).toInt) (g4 : 0 ≤ (tf 6).toInt) (g5 : (tf 6).toInt ≤ p0.toInt) (htp : TkP (tf 5).toInt ta (tf 6).toInt p0.toInt) : MetI l y_Mpg_readString b_Mpg_readString 5 (.boolean) D cs 2 70 (0) (0) [.ref h, .int p0] [wdP cs h r g tf ta pf na ma wa cf ca ef ea xf xa] (fun _ => True) (fun v ps => ∃ (tf' : Nat → Int32) (ta' : Nat → Nat → Int32), (ps = [wdP cs h r g tf' ta' pf na ma wa cf ca ef ea xf xa]) ∧ (v = 0 ∨ v = 1) ∧ ((tf' 5).toInt = (tf 5).toInt) ∧ ((tf 6).toInt ≤ (tf' 6).toInt) ∧ ((tf' 6).toInt ≤ (tf 6).toInt + 1) ∧ (v.toInt = 1 → (tf' 6).toInt = (tf 6).toInt + 1) ∧ (RdK (tf 5).toInt ta' (tf 6) v p0) ∧ (R_mp_readString p0 tf ta tf' ta' v)) := by
  refine px_enter (by decide) (Nat.le_of_ble_eq_true rfl) ?_
  intro p e s m below meth c A ls hAe S hr hlk hnm hA hT hX hw hl
  have hl : lv_has ls 5 [(0, .ref h), (1, .int p0)] := hl
  have lp0 := Int32.le_toInt p0
  have up0 := Int32.toInt_lt p0
  have cst0 : (0 : Int32).toInt = 0 := rfl
  have cst1 : (1 : Int32).toInt = 1 := rfl
  have cst2 : (2 : Int32).toInt = 2 := rfl
  have cst4 : (4 : Int32).toInt = 4 := rfl
  have cst34 : (34 : Int32).toInt = 34 := rfl
  have cst200 : (200 : Int32).toInt = 200 := rfl
  have cst1000 : (1000 : Int32).toInt = 1000 := rfl
  have J15 : ∀ (n_15 : Nat)  (x15_2 x15_3 x15_4 : Int32) (H : Heap) (locs : List Loc) (ls : Array Slot), (p0.toInt + 1 ≤ x15_2.toInt) → (x15_2.toInt ≤ (tf 5).toInt+1) → (0 ≤ x15_3.toInt) → (p0.toInt + 1 + x15_3.toInt ≤ x15_2.toInt) → (0 ≤ x15_4.toInt → x15_2.toInt < (tf 5).toInt) → (1000 ≤ x15_4.toInt → x15_2.toInt + 1 < (tf 5).toInt) → (K_mp_readString_15 p0 tf ta tf ta x15_2 x15_3 x15_4) → (tf 5).toInt+2-x15_2.toInt < (n_15 : Int) → pw D A s.heap H locs [wdP cs h r g tf ta pf na ma wa cf ca ef ea xf xa] → lv_has ls 5 [(0, .ref h), (1, .int p0), (2, .int x15_2), (3, .int x15_3), (4, .int x15_4)] → W p l e { frames := 2, cells := 0, slots := 0, locals := 70 } s m [.ref h, .int p0].toArray below meth c H locs 0 0 (MQ below (va_Qi (fun v ps => ∃ (tf' : Nat → Int32) (ta' : Nat → Nat → Int32), (ps = [wdP cs h r g tf' ta' pf na ma wa cf ca ef ea xf xa]) ∧ (v = 0 ∨ v = 1) ∧ ((tf' 5).toInt = (tf 5).toInt) ∧ ((tf 6).toInt ≤ (tf' 6).toInt) ∧ ((tf' 6).toInt ≤ (tf 6).toInt + 1) ∧ (v.toInt = 1 → (tf' 6).toInt = (tf 6).toInt + 1) ∧ (RdK (tf 5).toInt ta' (tf 6) v p0) ∧ (R_mp_readString p0 tf ta tf' ta' v)) (pc_B D (va_A ([wdP cs h r g tf ta pf na ma wa cf ca ef ea xf xa] : List va_W).flatten s.heap.size)) (va_A ([wdP cs h r g tf ta pf na ma wa cf ca ef ea xf xa] : List va_W).flatten s.heap.size)) [.ref h, .int p0].toArray s 0 0 A) (F0 m 15 ls []) := by
    intro  n_15
    induction n_15 with
    | zero =>
      intro x15_2 x15_3 x15_4 H locs ls k15_0 k15_1 k15_2 k15_3 k15_4 k15_5 k15_6 hm hw hl
      have lx15_2 := Int32.le_toInt x15_2
      have ux15_2 := Int32.toInt_lt x15_2
      have lx15_3 := Int32.le_toInt x15_3
      have ux15_3 := Int32.toInt_lt x15_3
      have lx15_4 := Int32.le_toInt x15_4
      have ux15_4 := Int32.toInt_lt x15_4
      exact absurd hm (by omega)
    | succ n_15 ih15 =>
      intro x15_2 x15_3 x15_4 H locs ls k15_0 k15_1 k15_2 k15_3 k15_4 k15_5 k15_6 hm hw hl
      have lx15_2 := Int32.le_toInt x15_2
      have ux15_2 := Int32.toInt_lt x15_2
      have lx15_3 := Int32.le_toInt x15_3
      have ux15_3 := Int32.toInt_lt x15_3
      have lx15_4 := Int32.le_toInt x15_4
      have ux15_4 := Int32.toInt_lt x15_4
      refine lv_iload S.x S.b d_Mpg_readString_15 (lv_at hl 4 rfl) ?_
      refine lv_if_lt (tgt := 51) S.x S.b d_Mpg_readString_17 (by decide) (fun c1 => ?_) (fun c1 => ?_)
      · have nc1 : x15_4.toInt < (0 : Int) := (i_lt (x := x15_4) (y := 0)).mp c1
        refine lv_aload_n S.x S.b d_Mpg_readString_51 rfl (lv_at hl 0 rfl) ?_
        refine lv_iload_n S.x S.b d_Mpg_readString_52 rfl (lv_at hl 1 rfl) ?_
        refine lv_iload_n S.x S.b d_Mpg_readString_53 rfl (lv_at hl 2 rfl) ?_
        refine lv_iconst (v := 1) S.x S.b d_Mpg_readString_54 (by decide) ?_
        refine lv_iadd S.x S.b d_Mpg_readString_55 ?_
        refine lv_topi (fun z3 ez3 => ?_)
        have tz3 : z3.toInt = (x15_2.toInt + (1 : Int) + 2147483648) % 4294967296 - 2147483648 := by rw [ez3]; exact i_add x15_2 1
        have lz3 := Int32.le_toInt z3
        have uz3 := Int32.toInt_lt z3
        try replace tz3 : z3.toInt = x15_2.toInt + (1 : Int) := by omega
        refine lv_iload_n S.x S.b d_Mpg_readString_56 rfl (lv_at hl 1 rfl) ?_
        refine lv_isub S.x S.b d_Mpg_readString_57 ?_
        refine lv_topi (fun z4 ez4 => ?_)
        have tz4 : z4.toInt = (z3.toInt - p0.toInt + 2147483648) % 4294967296 - 2147483648 := by rw [ez4]; exact i_sub z3 p0
        have lz4 := Int32.le_toInt z4
        have uz4 := Int32.toInt_lt z4
        try replace tz4 : z4.toInt = z3.toInt - p0.toInt := by omega
        refine lv_iconst (v := 4) S.x S.b d_Mpg_readString_58 (by decide) ?_
        refine lv_iload_n S.x S.b d_Mpg_readString_59 rfl (lv_at hl 3 rfl) ?_
        first | refine px_callv (pr := []) (px_runV (As := [.int p0, .int z4, .int 4, .int x15_3]) (rest := []) S (c_mp_token l D cs h r g pf na ma wa cf ca ef ea xf xa tf ta p0 z4 4 x15_3  (show 0 ≤ (tf 6).toInt from g4) (show (tf 6).toInt ≤ 2059 from (oz_9dfb4af2f5 g5 g3 g1)) _) hT (pr := []) (pcs := [wdP cs h r g tf ta pf na ma wa cf ca ef ea xf xa]) hw px_X.tt (px_recv hT hw 0 0 rfl rfl rfl) m11_166 m11_163 m11_165 ms_8_3 m1_21 q_Mpg_token ⟨Nat.le_of_ble_eq_true rfl, Nat.le_of_ble_eq_true rfl⟩ hl.1 rfl (Nat.le_of_ble_eq_true rfl) d_Mpg_readString_60 ⟨Nat.le_of_ble_eq_true rfl, Nat.le_of_ble_eq_true rfl⟩) hw hA (fun p9 H locs hp9 hw => ?_) | (refine px_callv (pr := []) (px_runV (As := [.int p0, .int z4, .int 4, .int x15_3]) (rest := []) S (c_mp_token l D cs h r g pf na ma wa cf ca ef ea xf xa tf ta p0 z4 4 x15_3  (show 0 ≤ (tf 6).toInt from by first | exact g4 | omega) (show (tf 6).toInt ≤ 2059 from by first | exact oz_9dfb4af2f5 g5 g3 g1 | omega) _) hT (pr := []) (pcs := [wdP cs h r g tf ta pf na ma wa cf ca ef ea xf xa]) hw px_X.tt (px_recv hT hw 0 0 rfl rfl rfl) m11_166 m11_163 m11_165 ms_8_3 m1_21 q_Mpg_token ⟨Nat.le_of_ble_eq_true rfl, Nat.le_of_ble_eq_true rfl⟩ hl.1 rfl (Nat.le_of_ble_eq_true rfl) d_Mpg_readString_60 ⟨Nat.le_of_ble_eq_true rfl, Nat.le_of_ble_eq_true rfl⟩) hw hA (fun p9 H locs hp9 hw => ?_))
        obtain ⟨tf7, ta8, rfl, e11, e12, e13, e14⟩ := hp9
        have e11 : (tf7 6).toInt = (tf 6).toInt + 1 := e11
        have e12 : (tf7 5).toInt = (tf 5).toInt := e12
        have e13 : TkU ta ta8 (tf 6) p0 z4 (4 : Int32) x15_3 := e13
        have e14 : R_mp_token p0 z4 (4 : Int32) x15_3 tf ta tf7 ta8 := e14
        refine lv_aload_n S.x S.b d_Mpg_readString_63 rfl (lv_at hl 0 rfl) ?_
        refine lv_iload_n S.x S.b d_Mpg_readString_64 rfl (lv_at hl 2 rfl) ?_
        first | refine px_calli (pr := []) (px_runV (As := [.int x15_2]) (rest := []) S (c_mp_byteAt l D cs h r g tf7 ta8 pf na ma wa cf ca ef ea xf xa x15_2  (show 0 ≤ (tf7 5).toInt from (oz_f3ebed1ad0 e12 g0)) (show (tf7 5).toInt ≤ 2048 from (oz_508e595d19 e12 g1)) (show 0 ≤ x15_2.toInt from (oz_06d7f15a5c k15_0 g2)) _) hT (pr := []) (pcs := [wdP cs h r g tf7 ta8 pf na ma wa cf ca ef ea xf xa]) hw px_X.tt (px_recv hT hw 0 0 rfl rfl rfl) m11_142 m11_139 m11_141 ms_7_15 m1_21 q_Mpg_byteAt ⟨Nat.le_of_ble_eq_true rfl, Nat.le_of_ble_eq_true rfl⟩ hl.1 rfl (Nat.le_of_ble_eq_true rfl) d_Mpg_readString_65 ⟨Nat.le_of_ble_eq_true rfl, Nat.le_of_ble_eq_true rfl⟩) hw hA (fun v16 p15 H locs hp15 hw => ?_) | (refine px_calli (pr := []) (px_runV (As := [.int x15_2]) (rest := []) S (c_mp_byteAt l D cs h r g tf7 ta8 pf na ma wa cf ca ef ea xf xa x15_2  (show 0 ≤ (tf7 5).toInt from by first | exact oz_f3ebed1ad0 e12 g0 | omega) (show (tf7 5).toInt ≤ 2048 from by first | exact oz_508e595d19 e12 g1 | omega) (show 0 ≤ x15_2.toInt from by first | exact oz_06d7f15a5c k15_0 g2 | omega) _) hT (pr := []) (pcs := [wdP cs h r g tf7 ta8 pf na ma wa cf ca ef ea xf xa]) hw px_X.tt (px_recv hT hw 0 0 rfl rfl rfl) m11_142 m11_139 m11_141 ms_7_15 m1_21 q_Mpg_byteAt ⟨Nat.le_of_ble_eq_true rfl, Nat.le_of_ble_eq_true rfl⟩ hl.1 rfl (Nat.le_of_ble_eq_true rfl) d_Mpg_readString_65 ⟨Nat.le_of_ble_eq_true rfl, Nat.le_of_ble_eq_true rfl⟩) hw hA (fun v16 p15 H locs hp15 hw => ?_))
        obtain ⟨rfl, e17, e18, e19⟩ := hp15
        have e17 : x15_2.toInt < (tf7 5).toInt ∨ v16.toInt = -1 := e17
        have e18 : BtV ta8 (tf7 5).toInt x15_2.toInt v16.toInt := e18
        have e19 : R_mp_byteAt tf7 ta8 x15_2 v16 := e19
        have lv16 := Int32.le_toInt v16
        have uv16 := Int32.toInt_lt v16
        refine lv_bipush (v := 34) S.x S.b d_Mpg_readString_68 (by decide) ?_
        refine lv_icmp_ne (tgt := 84) S.x S.b d_Mpg_readString_70 (by decide) (fun c20 => ?_) (fun c20 => ?_)
        · have nc20 : ¬ v16.toInt = (34 : Int) := mt (i_eq (x := v16) (y := 34)).mpr c20
          refine lv_iconst (v := 0) S.x S.b d_Mpg_readString_84 (by decide) ?_
          first | exact px_iret (v := 0) S hr rfl hlk hAe hw (Nat.le_of_ble_eq_true rfl) (Nat.le_of_ble_eq_true rfl) (⟨tf7, ta8, rfl, (show (0 : Int32) = 0 ∨ (0 : Int32) = 1 from by first | exact Or.inl rfl | exact Or.inr rfl | exact z_or (by omega)), (show (tf7 5).toInt = (tf 5).toInt from e12), (show (tf 6).toInt ≤ (tf7 6).toInt from (oz_7db54039c4 e11)), (show (tf7 6).toInt ≤ (tf 6).toInt + 1 from (oz_6ad8cf7f07 e11)), (show (0 : Int) = 1 → (tf7 6).toInt = (tf 6).toInt + 1 from by omega), (show RdK (tf 5).toInt ta8 (tf 6) (0 : Int32) p0 from (by first | exact rdk_n htp (by assumption) (by omega) (by omega) | exact rdk_0 htp (by omega))), (show R_mp_readString p0 tf ta tf7 ta8 (0 : Int32) from (k15_6 _ _ _ 1 (Or.inr (Or.inl ⟨rfl, x15_2, x15_3, x15_4, rfl, rfl, rfl, rfl, rfl, Or.inl ⟨nc1, z3, ez3, z4, ez4, tf7, ta8, e14, v16, e19, Or.inl ⟨nc20, rfl, rfl, rfl⟩⟩⟩))))⟩) d_Mpg_readString_85 | (exact px_iret (v := 0) S hr rfl hlk hAe hw (Nat.le_of_ble_eq_true rfl) (Nat.le_of_ble_eq_true rfl) (⟨tf7, ta8, rfl, (show (0 : Int32) = 0 ∨ (0 : Int32) = 1 from by first | exact Or.inl rfl | exact Or.inr rfl | exact z_or (by omega)), (show (tf7 5).toInt = (tf 5).toInt from by first | exact e12 | omega), (show (tf 6).toInt ≤ (tf7 6).toInt from by first | exact oz_7db54039c4 e11 | omega), (show (tf7 6).toInt ≤ (tf 6).toInt + 1 from by first | exact oz_6ad8cf7f07 e11 | omega), (show (0 : Int) = 1 → (tf7 6).toInt = (tf 6).toInt + 1 from by omega), (show RdK (tf 5).toInt ta8 (tf 6) (0 : Int32) p0 from (by first | exact rdk_n htp (by assumption) (by omega) (by omega) | exact rdk_0 htp (by omega))), (show R_mp_readString p0 tf ta tf7 ta8 (0 : Int32) from (k15_6 _ _ _ 1 (Or.inr (Or.inl ⟨rfl, x15_2, x15_3, x15_4, rfl, rfl, rfl, rfl, rfl, Or.inl ⟨nc1, z3, ez3, z4, ez4, tf7, ta8, e14, v16, e19, Or.inl ⟨nc20, rfl, rfl, rfl⟩⟩⟩))))⟩) d_Mpg_readString_85)
        · have nc20 : v16.toInt = (34 : Int) := (i_eq (x := v16) (y := 34)).mp c20
          refine lv_iload_n S.x S.b d_Mpg_readString_73 rfl (lv_at hl 3 rfl) ?_
          refine lv_sipush (v := 200) S.x S.b d_Mpg_readString_74 (by decide) ?_
          refine lv_icmp_gt (tgt := 84) S.x S.b d_Mpg_readString_77 (by decide) (fun c22 => ?_) (fun c22 => ?_)
          · have nc22 : (200 : Int) < x15_3.toInt := (i_lt (x := 200) (y := x15_3)).mp c22
            refine lv_iconst (v := 0) S.x S.b d_Mpg_readString_84 (by decide) ?_
            first | exact px_iret (v := 0) S hr rfl hlk hAe hw (Nat.le_of_ble_eq_true rfl) (Nat.le_of_ble_eq_true rfl) (⟨tf7, ta8, rfl, (show (0 : Int32) = 0 ∨ (0 : Int32) = 1 from by first | exact Or.inl rfl | exact Or.inr rfl | exact z_or (by omega)), (show (tf7 5).toInt = (tf 5).toInt from e12), (show (tf 6).toInt ≤ (tf7 6).toInt from (oz_7db54039c4 e11)), (show (tf7 6).toInt ≤ (tf 6).toInt + 1 from (oz_6ad8cf7f07 e11)), (show (0 : Int) = 1 → (tf7 6).toInt = (tf 6).toInt + 1 from by omega), (show RdK (tf 5).toInt ta8 (tf 6) (0 : Int32) p0 from (by first | exact rdk_n htp (by assumption) (by omega) (by omega) | exact rdk_0 htp (by omega))), (show R_mp_readString p0 tf ta tf7 ta8 (0 : Int32) from (k15_6 _ _ _ 1 (Or.inr (Or.inl ⟨rfl, x15_2, x15_3, x15_4, rfl, rfl, rfl, rfl, rfl, Or.inl ⟨nc1, z3, ez3, z4, ez4, tf7, ta8, e14, v16, e19, Or.inr ⟨nc20, Or.inl ⟨nc22, rfl, rfl, rfl⟩⟩⟩⟩))))⟩) d_Mpg_readString_85 | (exact px_iret (v := 0) S hr rfl hlk hAe hw (Nat.le_of_ble_eq_true rfl) (Nat.le_of_ble_eq_true rfl) (⟨tf7, ta8, rfl, (show (0 : Int32) = 0 ∨ (0 : Int32) = 1 from by first | exact Or.inl rfl | exact Or.inr rfl | exact z_or (by omega)), (show (tf7 5).toInt = (tf 5).toInt from by first | exact e12 | omega), (show (tf 6).toInt ≤ (tf7 6).toInt from by first | exact oz_7db54039c4 e11 | omega), (show (tf7 6).toInt ≤ (tf 6).toInt + 1 from by first | exact oz_6ad8cf7f07 e11 | omega), (show (0 : Int) = 1 → (tf7 6).toInt = (tf 6).toInt + 1 from by omega), (show RdK (tf 5).toInt ta8 (tf 6) (0 : Int32) p0 from (by first | exact rdk_n htp (by assumption) (by omega) (by omega) | exact rdk_0 htp (by omega))), (show R_mp_readString p0 tf ta tf7 ta8 (0 : Int32) from (k15_6 _ _ _ 1 (Or.inr (Or.inl ⟨rfl, x15_2, x15_3, x15_4, rfl, rfl, rfl, rfl, rfl, Or.inl ⟨nc1, z3, ez3, z4, ez4, tf7, ta8, e14, v16, e19, Or.inr ⟨nc20, Or.inl ⟨nc22, rfl, rfl, rfl⟩⟩⟩⟩))))⟩) d_Mpg_readString_85)
          · have nc22 : ¬ (200 : Int) < x15_3.toInt := mt (i_lt (x := 200) (y := x15_3)).mpr c22
            refine lv_iconst (v := 1) S.x S.b d_Mpg_readString_80 (by decide) ?_
            refine lv_goto (tgt := 85) S.x S.b d_Mpg_readString_81 (by decide) ?_
            first | exact px_iret (v := 1) S hr rfl hlk hAe hw (Nat.le_of_ble_eq_true rfl) (Nat.le_of_ble_eq_true rfl) (⟨tf7, ta8, rfl, (show (1 : Int32) = 0 ∨ (1 : Int32) = 1 from by first | exact Or.inl rfl | exact Or.inr rfl | exact z_or (by omega)), (show (tf7 5).toInt = (tf 5).toInt from e12), (show (tf 6).toInt ≤ (tf7 6).toInt from (oz_7db54039c4 e11)), (show (tf7 6).toInt ≤ (tf 6).toInt + 1 from (oz_6ad8cf7f07 e11)), (show (1 : Int) = 1 → (tf7 6).toInt = (tf 6).toInt + 1 from by omega), (show RdK (tf 5).toInt ta8 (tf 6) (1 : Int32) p0 from (rdk_y htp (by assumption) (by omega) ⟨⟨by omega, by omega⟩, ⟨by omega, by omega, by omega⟩, fun h => ⟨by omega, by omega, by omega⟩, fun h => ⟨by omega, by omega, by omega⟩, fun h => ⟨by omega, by omega, by omega⟩⟩)), (show R_mp_readString p0 tf ta tf7 ta8 (1 : Int32) from (k15_6 _ _ _ 1 (Or.inr (Or.inl ⟨rfl, x15_2, x15_3, x15_4, rfl, rfl, rfl, rfl, rfl, Or.inl ⟨nc1, z3, ez3, z4, ez4, tf7, ta8, e14, v16, e19, Or.inr ⟨nc20, Or.inr ⟨nc22, rfl, rfl, rfl⟩⟩⟩⟩))))⟩) d_Mpg_readString_85 | (exact px_iret (v := 1) S hr rfl hlk hAe hw (Nat.le_of_ble_eq_true rfl) (Nat.le_of_ble_eq_true rfl) (⟨tf7, ta8, rfl, (show (1 : Int32) = 0 ∨ (1 : Int32) = 1 from by first | exact Or.inl rfl | exact Or.inr rfl | exact z_or (by omega)), (show (tf7 5).toInt = (tf 5).toInt from by first | exact e12 | omega), (show (tf 6).toInt ≤ (tf7 6).toInt from by first | exact oz_7db54039c4 e11 | omega), (show (tf7 6).toInt ≤ (tf 6).toInt + 1 from by first | exact oz_6ad8cf7f07 e11 | omega), (show (1 : Int) = 1 → (tf7 6).toInt = (tf 6).toInt + 1 from by omega), (show RdK (tf 5).toInt ta8 (tf 6) (1 : Int32) p0 from (rdk_y htp (by assumption) (by omega) ⟨⟨by omega, by omega⟩, ⟨by omega, by omega, by omega⟩, fun h => ⟨by omega, by omega, by omega⟩, fun h => ⟨by omega, by omega, by omega⟩, fun h => ⟨by omega, by omega, by omega⟩⟩)), (show R_mp_readString p0 tf ta tf7 ta8 (1 : Int32) from (k15_6 _ _ _ 1 (Or.inr (Or.inl ⟨rfl, x15_2, x15_3, x15_4, rfl, rfl, rfl, rfl, rfl, Or.inl ⟨nc1, z3, ez3, z4, ez4, tf7, ta8, e14, v16, e19, Or.inr ⟨nc20, Or.inr ⟨nc22, rfl, rfl, rfl⟩⟩⟩⟩))))⟩) d_Mpg_readString_85)
      · have nc1 : ¬ x15_4.toInt < (0 : Int) := mt (i_lt (x := x15_4) (y := 0)).mpr c1
        refine lv_iload_n S.x S.b d_Mpg_readString_20 rfl (lv_at hl 2 rfl) ?_
        refine lv_iload S.x S.b d_Mpg_readString_21 (lv_at hl 4 rfl) ?_
        refine lv_sipush (v := 1000) S.x S.b d_Mpg_readString_23 (by decide) ?_
        refine lv_icmp_ge (tgt := 33) S.x S.b d_Mpg_readString_26 (by decide) (fun c24 => ?_) (fun c24 => ?_)
        · have nc24 : (1000 : Int) ≤ x15_4.toInt := (i_le (x := 1000) (y := x15_4)).mp c24
          refine lv_iconst (v := 2) S.x S.b d_Mpg_readString_33 (by decide) ?_
          refine lv_iadd S.x S.b d_Mpg_readString_34 ?_
          refine lv_topi (fun z26 ez26 => ?_)
          have tz26 : z26.toInt = (x15_2.toInt + (2 : Int) + 2147483648) % 4294967296 - 2147483648 := by rw [ez26]; exact i_add x15_2 2
          have lz26 := Int32.le_toInt z26
          have uz26 := Int32.toInt_lt z26
          try replace tz26 : z26.toInt = x15_2.toInt + (2 : Int) := by omega
          refine lv_istore_n (lv' := [(2, .int z26), (0, .ref h), (1, .int p0), (3, .int x15_3), (4, .int x15_4)]) S.x S.b d_Mpg_readString_35 rfl hl (by decide) rfl (fun ls hl => ?_)
          obtain ⟨z27, ez27⟩ : ∃ y : Int32, y = x15_3 + 1 := ⟨_, rfl⟩
          have tz27 : z27.toInt = (x15_3.toInt + 1 + 2147483648) % 4294967296 - 2147483648 := by rw [ez27]; exact i_add x15_3 1
          have lz27 := Int32.le_toInt z27
          have uz27 := Int32.toInt_lt z27
          try replace tz27 : z27.toInt = x15_3.toInt + 1 := by omega
          refine lv_iinc (v := z27) (lv' := [(3, .int z27), (2, .int z26), (0, .ref h), (1, .int p0), (4, .int x15_4)]) S.x S.b d_Mpg_readString_36 hl (k := 3) rfl (by rw [ez27]; rfl) (by decide) rfl (fun ls hl => ?_)
          refine lv_aload_n S.x S.b d_Mpg_readString_39 rfl (lv_at hl 2 rfl) ?_
          refine lv_iload_n S.x S.b d_Mpg_readString_40 rfl (lv_at hl 1 rfl) ?_
          refine lv_bipush (v := 34) S.x S.b d_Mpg_readString_41 (by decide) ?_
          first | refine px_calli (pr := []) (px_runV (As := [.int z26, .int 34]) (rest := []) S (c_mp_character l D cs h r g tf ta pf na ma wa cf ca ef ea xf xa z26 34  (show 0 ≤ (tf 5).toInt from g0) (show (tf 5).toInt ≤ 2048 from g1) (show 0 ≤ z26.toInt from (oz_dff81e9050 tz26 k15_0 g2)) (show z26.toInt ≤ 100000 from (oz_051e663e68 tz26 k15_1 g1)) (show 0 ≤ (34 : Int) from oz_3355060c74) (show (34 : Int) ≤ 100 from oz_e07fc907b2) _) hT (pr := []) (pcs := [wdP cs h r g tf ta pf na ma wa cf ca ef ea xf xa]) hw px_X.tt (px_recv hT hw 0 0 rfl rfl rfl) m11_180 m11_177 m11_179 ms_8_5 m1_21 q_Mpg_character ⟨Nat.le_of_ble_eq_true rfl, Nat.le_of_ble_eq_true rfl⟩ hl.1 rfl (Nat.le_of_ble_eq_true rfl) d_Mpg_readString_43 ⟨Nat.le_of_ble_eq_true rfl, Nat.le_of_ble_eq_true rfl⟩) hw hA (fun v29 p28 H locs hp28 hw => ?_) | (refine px_calli (pr := []) (px_runV (As := [.int z26, .int 34]) (rest := []) S (c_mp_character l D cs h r g tf ta pf na ma wa cf ca ef ea xf xa z26 34  (show 0 ≤ (tf 5).toInt from by first | exact g0 | omega) (show (tf 5).toInt ≤ 2048 from by first | exact g1 | omega) (show 0 ≤ z26.toInt from by first | exact oz_dff81e9050 tz26 k15_0 g2 | omega) (show z26.toInt ≤ 100000 from by first | exact oz_051e663e68 tz26 k15_1 g1 | omega) (show 0 ≤ (34 : Int) from by first | exact oz_3355060c74 | omega) (show (34 : Int) ≤ 100 from by first | exact oz_e07fc907b2 | omega) _) hT (pr := []) (pcs := [wdP cs h r g tf ta pf na ma wa cf ca ef ea xf xa]) hw px_X.tt (px_recv hT hw 0 0 rfl rfl rfl) m11_180 m11_177 m11_179 ms_8_5 m1_21 q_Mpg_character ⟨Nat.le_of_ble_eq_true rfl, Nat.le_of_ble_eq_true rfl⟩ hl.1 rfl (Nat.le_of_ble_eq_true rfl) d_Mpg_readString_43 ⟨Nat.le_of_ble_eq_true rfl, Nat.le_of_ble_eq_true rfl⟩) hw hA (fun v29 p28 H locs hp28 hw => ?_))
          obtain ⟨rfl, e30, e31, e32, e33, e34⟩ := hp28
          have e30 : -1 ≤ v29.toInt := e30
          have e31 : v29.toInt ≤ 1126 := e31
          have e32 : 0 ≤ v29.toInt → z26.toInt < (tf 5).toInt := e32
          have e33 : 1000 ≤ v29.toInt → z26.toInt + 1 < (tf 5).toInt := e33
          have e34 : R_mp_character tf ta z26 (34 : Int32) v29 := e34
          have lv29 := Int32.le_toInt v29
          have uv29 := Int32.toInt_lt v29
          refine lv_istore (lv' := [(4, .int v29), (3, .int z27), (2, .int z26), (0, .ref h), (1, .int p0)]) S.x S.b d_Mpg_readString_46 hl (by decide) rfl (fun ls hl => ?_)
          refine lv_goto (tgt := 15) S.x S.b d_Mpg_readString_48 (by decide) ?_
          first | exact ih15 z26 z27 v29 _ _ ls (show p0.toInt + 1 ≤ z26.toInt from (oz_590b8446af k15_0 tz26)) (show z26.toInt ≤ (tf 5).toInt+1 from (oz_6142c9739d tz26 nc24 k15_5)) (show 0 ≤ z27.toInt from (oz_ae613611c0 tz27 k15_2)) (show p0.toInt + 1 + z27.toInt ≤ z26.toInt from (oz_c21c446132 k15_3 tz26 tz27)) (show 0 ≤ v29.toInt → z26.toInt < (tf 5).toInt from e32) (show 1000 ≤ v29.toInt → z26.toInt + 1 < (tf 5).toInt from e33) (show K_mp_readString_15 p0 tf ta tf ta z26 z27 v29 from (fun y_f0 y_f1 y_v k hE => k15_6 y_f0 y_f1 y_v (k + 1) (Or.inr (Or.inl ⟨rfl, x15_2, x15_3, x15_4, rfl, rfl, rfl, rfl, rfl, Or.inr ⟨nc1, Or.inl ⟨nc24, z26, ez26, z27, ez27, v29, e34, hE⟩⟩⟩)))) (show (tf 5).toInt+2-z26.toInt < (n_15 : Int) from (oz_d610434099 hm tz26)) hw (lv_sub hl [3, 4, 2, 1, 0] rfl) | (exact ih15 z26 z27 v29 _ _ ls (show p0.toInt + 1 ≤ z26.toInt from by first | exact oz_590b8446af k15_0 tz26 | omega) (show z26.toInt ≤ (tf 5).toInt+1 from by first | exact oz_6142c9739d tz26 nc24 k15_5 | omega) (show 0 ≤ z27.toInt from by first | exact oz_ae613611c0 tz27 k15_2 | omega) (show p0.toInt + 1 + z27.toInt ≤ z26.toInt from by first | exact oz_c21c446132 k15_3 tz26 tz27 | omega) (show 0 ≤ v29.toInt → z26.toInt < (tf 5).toInt from by first | exact e32 | omega) (show 1000 ≤ v29.toInt → z26.toInt + 1 < (tf 5).toInt from by first | exact e33 | omega) (show K_mp_readString_15 p0 tf ta tf ta z26 z27 v29 from (fun y_f0 y_f1 y_v k hE => k15_6 y_f0 y_f1 y_v (k + 1) (Or.inr (Or.inl ⟨rfl, x15_2, x15_3, x15_4, rfl, rfl, rfl, rfl, rfl, Or.inr ⟨nc1, Or.inl ⟨nc24, z26, ez26, z27, ez27, v29, e34, hE⟩⟩⟩)))) (show (tf 5).toInt+2-z26.toInt < (n_15 : Int) from by first | exact oz_d610434099 hm tz26 | omega) hw (lv_sub hl [3, 4, 2, 1, 0] rfl))
        · have nc24 : ¬ (1000 : Int) ≤ x15_4.toInt := mt (i_le (x := 1000) (y := x15_4)).mpr c24
          refine lv_iconst (v := 1) S.x S.b d_Mpg_readString_29 (by decide) ?_
          refine lv_goto (tgt := 34) S.x S.b d_Mpg_readString_30 (by decide) ?_
          refine lv_iadd S.x S.b d_Mpg_readString_34 ?_
          refine lv_topi (fun z35 ez35 => ?_)
          have tz35 : z35.toInt = (x15_2.toInt + (1 : Int) + 2147483648) % 4294967296 - 2147483648 := by rw [ez35]; exact i_add x15_2 1
          have lz35 := Int32.le_toInt z35
          have uz35 := Int32.toInt_lt z35
          try replace tz35 : z35.toInt = x15_2.toInt + (1 : Int) := by omega
          refine lv_istore_n (lv' := [(2, .int z35), (0, .ref h), (1, .int p0), (3, .int x15_3), (4, .int x15_4)]) S.x S.b d_Mpg_readString_35 rfl hl (by decide) rfl (fun ls hl => ?_)
          obtain ⟨z36, ez36⟩ : ∃ y : Int32, y = x15_3 + 1 := ⟨_, rfl⟩
          have tz36 : z36.toInt = (x15_3.toInt + 1 + 2147483648) % 4294967296 - 2147483648 := by rw [ez36]; exact i_add x15_3 1
          have lz36 := Int32.le_toInt z36
          have uz36 := Int32.toInt_lt z36
          try replace tz36 : z36.toInt = x15_3.toInt + 1 := by omega
          refine lv_iinc (v := z36) (lv' := [(3, .int z36), (2, .int z35), (0, .ref h), (1, .int p0), (4, .int x15_4)]) S.x S.b d_Mpg_readString_36 hl (k := 3) rfl (by rw [ez36]; rfl) (by decide) rfl (fun ls hl => ?_)
          refine lv_aload_n S.x S.b d_Mpg_readString_39 rfl (lv_at hl 2 rfl) ?_
          refine lv_iload_n S.x S.b d_Mpg_readString_40 rfl (lv_at hl 1 rfl) ?_
          refine lv_bipush (v := 34) S.x S.b d_Mpg_readString_41 (by decide) ?_
          first | refine px_calli (pr := []) (px_runV (As := [.int z35, .int 34]) (rest := []) S (c_mp_character l D cs h r g tf ta pf na ma wa cf ca ef ea xf xa z35 34  (show 0 ≤ (tf 5).toInt from g0) (show (tf 5).toInt ≤ 2048 from g1) (show 0 ≤ z35.toInt from (oz_00e0e5ddd3 tz35 k15_0 g2)) (show z35.toInt ≤ 100000 from (oz_b502284cf8 tz35 k15_1 g1)) (show 0 ≤ (34 : Int) from oz_3355060c74) (show (34 : Int) ≤ 100 from oz_e07fc907b2) _) hT (pr := []) (pcs := [wdP cs h r g tf ta pf na ma wa cf ca ef ea xf xa]) hw px_X.tt (px_recv hT hw 0 0 rfl rfl rfl) m11_180 m11_177 m11_179 ms_8_5 m1_21 q_Mpg_character ⟨Nat.le_of_ble_eq_true rfl, Nat.le_of_ble_eq_true rfl⟩ hl.1 rfl (Nat.le_of_ble_eq_true rfl) d_Mpg_readString_43 ⟨Nat.le_of_ble_eq_true rfl, Nat.le_of_ble_eq_true rfl⟩) hw hA (fun v38 p37 H locs hp37 hw => ?_) | (refine px_calli (pr := []) (px_runV (As := [.int z35, .int 34]) (rest := []) S (c_mp_character l D cs h r g tf ta pf na ma wa cf ca ef ea xf xa z35 34  (show 0 ≤ (tf 5).toInt from by first | exact g0 | omega) (show (tf 5).toInt ≤ 2048 from by first | exact g1 | omega) (show 0 ≤ z35.toInt from by first | exact oz_00e0e5ddd3 tz35 k15_0 g2 | omega) (show z35.toInt ≤ 100000 from by first | exact oz_b502284cf8 tz35 k15_1 g1 | omega) (show 0 ≤ (34 : Int) from by first | exact oz_3355060c74 | omega) (show (34 : Int) ≤ 100 from by first | exact oz_e07fc907b2 | omega) _) hT (pr := []) (pcs := [wdP cs h r g tf ta pf na ma wa cf ca ef ea xf xa]) hw px_X.tt (px_recv hT hw 0 0 rfl rfl rfl) m11_180 m11_177 m11_179 ms_8_5 m1_21 q_Mpg_character ⟨Nat.le_of_ble_eq_true rfl, Nat.le_of_ble_eq_true rfl⟩ hl.1 rfl (Nat.le_of_ble_eq_true rfl) d_Mpg_readString_43 ⟨Nat.le_of_ble_eq_true rfl, Nat.le_of_ble_eq_true rfl⟩) hw hA (fun v38 p37 H locs hp37 hw => ?_))
          obtain ⟨rfl, e39, e40, e41, e42, e43⟩ := hp37
          have e39 : -1 ≤ v38.toInt := e39
          have e40 : v38.toInt ≤ 1126 := e40
          have e41 : 0 ≤ v38.toInt → z35.toInt < (tf 5).toInt := e41
          have e42 : 1000 ≤ v38.toInt → z35.toInt + 1 < (tf 5).toInt := e42
          have e43 : R_mp_character tf ta z35 (34 : Int32) v38 := e43
          have lv38 := Int32.le_toInt v38
          have uv38 := Int32.toInt_lt v38
          refine lv_istore (lv' := [(4, .int v38), (3, .int z36), (2, .int z35), (0, .ref h), (1, .int p0)]) S.x S.b d_Mpg_readString_46 hl (by decide) rfl (fun ls hl => ?_)
          refine lv_goto (tgt := 15) S.x S.b d_Mpg_readString_48 (by decide) ?_
          first | exact ih15 z35 z36 v38 _ _ ls (show p0.toInt + 1 ≤ z35.toInt from (oz_54ae5af180 k15_0 tz35)) (show z35.toInt ≤ (tf 5).toInt+1 from (oz_5e8b481c01 tz35 nc1 k15_4)) (show 0 ≤ z36.toInt from (oz_ae613611c0 tz36 k15_2)) (show p0.toInt + 1 + z36.toInt ≤ z35.toInt from (oz_557cb2123a k15_3 tz35 tz36)) (show 0 ≤ v38.toInt → z35.toInt < (tf 5).toInt from e41) (show 1000 ≤ v38.toInt → z35.toInt + 1 < (tf 5).toInt from e42) (show K_mp_readString_15 p0 tf ta tf ta z35 z36 v38 from (fun y_f0 y_f1 y_v k hE => k15_6 y_f0 y_f1 y_v (k + 1) (Or.inr (Or.inl ⟨rfl, x15_2, x15_3, x15_4, rfl, rfl, rfl, rfl, rfl, Or.inr ⟨nc1, Or.inr ⟨nc24, z35, ez35, z36, ez36, v38, e43, hE⟩⟩⟩)))) (show (tf 5).toInt+2-z35.toInt < (n_15 : Int) from (oz_bd37f95e89 hm tz35)) hw (lv_sub hl [3, 4, 2, 1, 0] rfl) | (exact ih15 z35 z36 v38 _ _ ls (show p0.toInt + 1 ≤ z35.toInt from by first | exact oz_54ae5af180 k15_0 tz35 | omega) (show z35.toInt ≤ (tf 5).toInt+1 from by first | exact oz_5e8b481c01 tz35 nc1 k15_4 | omega) (show 0 ≤ z36.toInt from by first | exact oz_ae613611c0 tz36 k15_2 | omega) (show p0.toInt + 1 + z36.toInt ≤ z35.toInt from by first | exact oz_557cb2123a k15_3 tz35 tz36 | omega) (show 0 ≤ v38.toInt → z35.toInt < (tf 5).toInt from by first | exact e41 | omega) (show 1000 ≤ v38.toInt → z35.toInt + 1 < (tf 5).toInt from by first | exact e42 | omega) (show K_mp_readString_15 p0 tf ta tf ta z35 z36 v38 from (fun y_f0 y_f1 y_v k hE => k15_6 y_f0 y_f1 y_v (k + 1) (Or.inr (Or.inl ⟨rfl, x15_2, x15_3, x15_4, rfl, rfl, rfl, rfl, rfl, Or.inr ⟨nc1, Or.inr ⟨nc24, z35, ez35, z36, ez36, v38, e43, hE⟩⟩⟩)))) (show (tf 5).toInt+2-z35.toInt < (n_15 : Int) from by first | exact oz_bd37f95e89 hm tz35 | omega) hw (lv_sub hl [3, 4, 2, 1, 0] rfl))
  refine lv_iload_n S.x S.b d_Mpg_readString_0 rfl (lv_at hl 1 rfl) ?_
  refine lv_iconst (v := 1) S.x S.b d_Mpg_readString_1 (by decide) ?_
  refine lv_iadd S.x S.b d_Mpg_readString_2 ?_
  refine lv_topi (fun z44 ez44 => ?_)
  have tz44 : z44.toInt = (p0.toInt + (1 : Int) + 2147483648) % 4294967296 - 2147483648 := by rw [ez44]; exact i_add p0 1
  have lz44 := Int32.le_toInt z44
  have uz44 := Int32.toInt_lt z44
  try replace tz44 : z44.toInt = p0.toInt + (1 : Int) := by omega
  refine lv_istore_n (lv' := [(2, .int z44), (0, .ref h), (1, .int p0)]) S.x S.b d_Mpg_readString_3 rfl hl (by decide) rfl (fun ls hl => ?_)
  refine lv_iconst (v := 0) S.x S.b d_Mpg_readString_4 (by decide) ?_
  refine lv_istore_n (lv' := [(3, .int 0), (2, .int z44), (0, .ref h), (1, .int p0)]) S.x S.b d_Mpg_readString_5 rfl hl (by decide) rfl (fun ls hl => ?_)
  refine lv_aload_n S.x S.b d_Mpg_readString_6 rfl (lv_at hl 2 rfl) ?_
  refine lv_iload_n S.x S.b d_Mpg_readString_7 rfl (lv_at hl 1 rfl) ?_
  refine lv_bipush (v := 34) S.x S.b d_Mpg_readString_8 (by decide) ?_
  first | refine px_calli (pr := []) (px_runV (As := [.int z44, .int 34]) (rest := []) S (c_mp_character l D cs h r g tf ta pf na ma wa cf ca ef ea xf xa z44 34  (show 0 ≤ (tf 5).toInt from g0) (show (tf 5).toInt ≤ 2048 from g1) (show 0 ≤ z44.toInt from (oz_b3b25f0e49 tz44 g2)) (show z44.toInt ≤ 100000 from (oz_f878e4a551 tz44 g3 g1)) (show 0 ≤ (34 : Int) from oz_3355060c74) (show (34 : Int) ≤ 100 from oz_e07fc907b2) _) hT (pr := []) (pcs := [wdP cs h r g tf ta pf na ma wa cf ca ef ea xf xa]) hw px_X.tt (px_recv hT hw 0 0 rfl rfl rfl) m11_180 m11_177 m11_179 ms_8_5 m1_21 q_Mpg_character ⟨Nat.le_of_ble_eq_true rfl, Nat.le_of_ble_eq_true rfl⟩ hl.1 rfl (Nat.le_of_ble_eq_true rfl) d_Mpg_readString_10 ⟨Nat.le_of_ble_eq_true rfl, Nat.le_of_ble_eq_true rfl⟩) hw hA (fun v46 p45 H locs hp45 hw => ?_) | (refine px_calli (pr := []) (px_runV (As := [.int z44, .int 34]) (rest := []) S (c_mp_character l D cs h r g tf ta pf na ma wa cf ca ef ea xf xa z44 34  (show 0 ≤ (tf 5).toInt from by first | exact g0 | omega) (show (tf 5).toInt ≤ 2048 from by first | exact g1 | omega) (show 0 ≤ z44.toInt from by first | exact oz_b3b25f0e49 tz44 g2 | omega) (show z44.toInt ≤ 100000 from by first | exact oz_f878e4a551 tz44 g3 g1 | omega) (show 0 ≤ (34 : Int) from by first | exact oz_3355060c74 | omega) (show (34 : Int) ≤ 100 from by first | exact oz_e07fc907b2 | omega) _) hT (pr := []) (pcs := [wdP cs h r g tf ta pf na ma wa cf ca ef ea xf xa]) hw px_X.tt (px_recv hT hw 0 0 rfl rfl rfl) m11_180 m11_177 m11_179 ms_8_5 m1_21 q_Mpg_character ⟨Nat.le_of_ble_eq_true rfl, Nat.le_of_ble_eq_true rfl⟩ hl.1 rfl (Nat.le_of_ble_eq_true rfl) d_Mpg_readString_10 ⟨Nat.le_of_ble_eq_true rfl, Nat.le_of_ble_eq_true rfl⟩) hw hA (fun v46 p45 H locs hp45 hw => ?_))
  obtain ⟨rfl, e47, e48, e49, e50, e51⟩ := hp45
  have e47 : -1 ≤ v46.toInt := e47
  have e48 : v46.toInt ≤ 1126 := e48
  have e49 : 0 ≤ v46.toInt → z44.toInt < (tf 5).toInt := e49
  have e50 : 1000 ≤ v46.toInt → z44.toInt + 1 < (tf 5).toInt := e50
  have e51 : R_mp_character tf ta z44 (34 : Int32) v46 := e51
  have lv46 := Int32.le_toInt v46
  have uv46 := Int32.toInt_lt v46
  refine lv_istore (lv' := [(4, .int v46), (3, .int 0), (2, .int z44), (0, .ref h), (1, .int p0)]) S.x S.b d_Mpg_readString_13 hl (by decide) rfl (fun ls hl => ?_)
  first | exact J15 (((tf 5).toInt+2-z44.toInt).toNat + 1) z44 (0 : Int32) v46 _ _ ls (show p0.toInt + 1 ≤ z44.toInt from (oz_38236be559 tz44)) (show z44.toInt ≤ (tf 5).toInt+1 from (oz_b0df47dfe2 g3 tz44)) (show 0 ≤ (0 : Int) from oz_5a341f00aa) (show p0.toInt + 1 + (0 : Int) ≤ z44.toInt from (oz_1b9c7f1cbe tz44)) (show 0 ≤ v46.toInt → z44.toInt < (tf 5).toInt from e49) (show 1000 ≤ v46.toInt → z44.toInt + 1 < (tf 5).toInt from e50) (show K_mp_readString_15 p0 tf ta tf ta z44 0 v46 from (fun y_f0 y_f1 y_v k hE => Exists.intro (k + 1) (Or.inl ⟨rfl, z44, ez44, v46, e51, hE⟩))) (show (tf 5).toInt+2-z44.toInt < (((((tf 5).toInt+2-z44.toInt).toNat + 1 : Nat) : Int) : Int) from oz_natlt) hw (lv_sub hl [3, 4, 2, 1, 0] rfl) | (exact J15 (((tf 5).toInt+2-z44.toInt).toNat + 1) z44 (0 : Int32) v46 _ _ ls (show p0.toInt + 1 ≤ z44.toInt from by first | exact oz_38236be559 tz44 | omega) (show z44.toInt ≤ (tf 5).toInt+1 from by first | exact oz_b0df47dfe2 g3 tz44 | omega) (show 0 ≤ (0 : Int) from by first | exact oz_5a341f00aa | omega) (show p0.toInt + 1 + (0 : Int) ≤ z44.toInt from by first | exact oz_1b9c7f1cbe tz44 | omega) (show 0 ≤ v46.toInt → z44.toInt < (tf 5).toInt from by first | exact e49 | omega) (show 1000 ≤ v46.toInt → z44.toInt + 1 < (tf 5).toInt from by first | exact e50 | omega) (show K_mp_readString_15 p0 tf ta tf ta z44 0 v46 from (fun y_f0 y_f1 y_v k hE => Exists.intro (k + 1) (Or.inl ⟨rfl, z44, ez44, v46, e51, hE⟩))) (show (tf 5).toInt+2-z44.toInt < (((((tf 5).toInt+2-z44.toInt).toNat + 1 : Nat) : Int) : Int) from by first | exact oz_natlt | omega) hw (lv_sub hl [3, 4, 2, 1, 0] rfl))
