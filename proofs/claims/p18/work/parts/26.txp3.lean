theorem oz_a15db6296b {a0 : Int} (h0 : a0 = (0 : Int)) (h1 : 0 ≤ a0) : a0 = 0 := by omega
theorem oz_596acb4ef1 {a0 a1 : Int} (h0 : a0 = a1 + 1) (h1 : ¬ (1000000 : Int) ≤ a1) : a0 ≤ 1000000 := by omega
theorem oz_0f57f76235 {a0 a2 : Int} {n1 : Nat} (h0 : 1000001-a2 < ((n1 + 1 : Nat) : Int)) (h1 : a0 = a2 + 1) : 1000001-a0 < (n1 : Int) := by omega
theorem m9_16 : Cond.methodLink "HomeSystem$TextProcess" 158 ⟨"HomeSystem$TextProcess", "pay", "()Z"⟩ ∈ AL := AL_9 (List.mem_of_getElem? (i := 16) rfl) rfl
theorem m9_19 : Cond.code ⟨"HomeSystem$TextProcess", "pay", "()Z"⟩ prog_11_method_22_code 1 (Option.some FieldType.boolean) ∈ AL := AL_9 (List.mem_of_getElem? (i := 19) rfl) rfl
theorem ms_7_1 : Cond.selects "HomeSystem$TextProcess" ⟨"HomeSystem$TextProcess", "pay", "()Z"⟩ ⟨"HomeSystem$TextProcess", "pay", "()Z"⟩ ∈ AL := AL_p (q := (⟨"HomeSystem$TextProcess", "pay", "()Z"⟩, 25)) (by unfold lw_privs; exact List.mem_append_right _ (List.mem_append_right _ (List.mem_append_right _ (List.mem_append_right _ (List.mem_append_right _ (List.mem_append_right _ (List.mem_append_left _ (List.mem_of_getElem? (i := 1) rfl))))))))
theorem m9_18 : Cond.instanceMethod ⟨"HomeSystem$TextProcess", "pay", "()Z"⟩ ∈ AL := AL_9 (List.mem_of_getElem? (i := 18) rfl) rfl
theorem m9_20 : Cond.methodLink "HomeSystem$TextProcess" 162 ⟨"HomeSystem$TextProcess", "call", "(I)V"⟩ ∈ AL := AL_9 (List.mem_of_getElem? (i := 20) rfl) rfl
theorem m9_23 : Cond.code ⟨"HomeSystem$TextProcess", "call", "(I)V"⟩ prog_11_method_23_code 6 (Option.none : Option Jvm.ClassFile.FieldType) ∈ AL := AL_9 (List.mem_of_getElem? (i := 23) rfl) rfl
theorem ms_7_2 : Cond.selects "HomeSystem$TextProcess" ⟨"HomeSystem$TextProcess", "call", "(I)V"⟩ ⟨"HomeSystem$TextProcess", "call", "(I)V"⟩ ∈ AL := AL_p (q := (⟨"HomeSystem$TextProcess", "call", "(I)V"⟩, 25)) (by unfold lw_privs; exact List.mem_append_right _ (List.mem_append_right _ (List.mem_append_right _ (List.mem_append_right _ (List.mem_append_right _ (List.mem_append_right _ (List.mem_append_left _ (List.mem_of_getElem? (i := 2) rfl))))))))
theorem m9_22 : Cond.instanceMethod ⟨"HomeSystem$TextProcess", "call", "(I)V"⟩ ∈ AL := AL_9 (List.mem_of_getElem? (i := 22) rfl) rfl
theorem m9_28 : Cond.methodLink "HomeSystem$TextProcess" 165 ⟨"HomeSystem$TextProcess", "ask", "(I)V"⟩ ∈ AL := AL_9 (List.mem_of_getElem? (i := 28) rfl) rfl
theorem m9_31 : Cond.code ⟨"HomeSystem$TextProcess", "ask", "(I)V"⟩ prog_11_method_25_code 2 (Option.none : Option Jvm.ClassFile.FieldType) ∈ AL := AL_9 (List.mem_of_getElem? (i := 31) rfl) rfl
theorem ms_7_3 : Cond.selects "HomeSystem$TextProcess" ⟨"HomeSystem$TextProcess", "ask", "(I)V"⟩ ⟨"HomeSystem$TextProcess", "ask", "(I)V"⟩ ∈ AL := AL_p (q := (⟨"HomeSystem$TextProcess", "ask", "(I)V"⟩, 25)) (by unfold lw_privs; exact List.mem_append_right _ (List.mem_append_right _ (List.mem_append_right _ (List.mem_append_right _ (List.mem_append_right _ (List.mem_append_right _ (List.mem_append_left _ (List.mem_of_getElem? (i := 3) rfl))))))))
theorem m9_30 : Cond.instanceMethod ⟨"HomeSystem$TextProcess", "ask", "(I)V"⟩ ∈ AL := AL_9 (List.mem_of_getElem? (i := 30) rfl) rfl
theorem m9_32 : Cond.methodLink "HomeSystem$TextProcess" 168 ⟨"HomeSystem$TextProcess", "give", "()V"⟩ ∈ AL := AL_9 (List.mem_of_getElem? (i := 32) rfl) rfl
theorem m9_35 : Cond.code ⟨"HomeSystem$TextProcess", "give", "()V"⟩ prog_11_method_24_code 2 (Option.none : Option Jvm.ClassFile.FieldType) ∈ AL := AL_9 (List.mem_of_getElem? (i := 35) rfl) rfl
theorem ms_7_4 : Cond.selects "HomeSystem$TextProcess" ⟨"HomeSystem$TextProcess", "give", "()V"⟩ ⟨"HomeSystem$TextProcess", "give", "()V"⟩ ∈ AL := AL_p (q := (⟨"HomeSystem$TextProcess", "give", "()V"⟩, 25)) (by unfold lw_privs; exact List.mem_append_right _ (List.mem_append_right _ (List.mem_append_right _ (List.mem_append_right _ (List.mem_append_right _ (List.mem_append_right _ (List.mem_append_left _ (List.mem_of_getElem? (i := 4) rfl))))))))
theorem m9_34 : Cond.instanceMethod ⟨"HomeSystem$TextProcess", "give", "()V"⟩ ∈ AL := AL_9 (List.mem_of_getElem? (i := 34) rfl) rfl
theorem m2_102 : Cond.fieldLink "HomeSystem$TextProcess" 102 "HomeSystem$Program" "code" "[I" ∈ AL := AL_2 (List.mem_of_getElem? (i := 102) rfl) rfl
theorem m9_62 : Cond.methodLink "HomeSystem$TextProcess" 116 ⟨"HomeSystem$TextProcess", "compute", "(IIIII)V"⟩ ∈ AL := AL_9 (List.mem_of_getElem? (i := 62) rfl) rfl
theorem m9_65 : Cond.code ⟨"HomeSystem$TextProcess", "compute", "(IIIII)V"⟩ prog_11_method_13_code 8 (Option.none : Option Jvm.ClassFile.FieldType) ∈ AL := AL_9 (List.mem_of_getElem? (i := 65) rfl) rfl
theorem ms_7_11 : Cond.selects "HomeSystem$TextProcess" ⟨"HomeSystem$TextProcess", "compute", "(IIIII)V"⟩ ⟨"HomeSystem$TextProcess", "compute", "(IIIII)V"⟩ ∈ AL := AL_p (q := (⟨"HomeSystem$TextProcess", "compute", "(IIIII)V"⟩, 25)) (by unfold lw_privs; exact List.mem_append_right _ (List.mem_append_right _ (List.mem_append_right _ (List.mem_append_right _ (List.mem_append_right _ (List.mem_append_right _ (List.mem_append_left _ (List.mem_of_getElem? (i := 11) rfl))))))))
theorem m9_64 : Cond.instanceMethod ⟨"HomeSystem$TextProcess", "compute", "(IIIII)V"⟩ ∈ AL := AL_9 (List.mem_of_getElem? (i := 64) rfl) rfl
theorem m9_36 : Cond.methodLink "HomeSystem$TextProcess" 112 ⟨"HomeSystem$TextProcess", "access", "(IIIII)V"⟩ ∈ AL := AL_9 (List.mem_of_getElem? (i := 36) rfl) rfl
theorem m9_39 : Cond.code ⟨"HomeSystem$TextProcess", "access", "(IIIII)V"⟩ prog_11_method_20_code 10 (Option.none : Option Jvm.ClassFile.FieldType) ∈ AL := AL_9 (List.mem_of_getElem? (i := 39) rfl) rfl
theorem ms_7_5 : Cond.selects "HomeSystem$TextProcess" ⟨"HomeSystem$TextProcess", "access", "(IIIII)V"⟩ ⟨"HomeSystem$TextProcess", "access", "(IIIII)V"⟩ ∈ AL := AL_p (q := (⟨"HomeSystem$TextProcess", "access", "(IIIII)V"⟩, 25)) (by unfold lw_privs; exact List.mem_append_right _ (List.mem_append_right _ (List.mem_append_right _ (List.mem_append_right _ (List.mem_append_right _ (List.mem_append_right _ (List.mem_append_left _ (List.mem_of_getElem? (i := 5) rfl))))))))
theorem m9_38 : Cond.instanceMethod ⟨"HomeSystem$TextProcess", "access", "(IIIII)V"⟩ ∈ AL := AL_9 (List.mem_of_getElem? (i := 38) rfl) rfl
theorem m9_8 : Cond.methodLink "HomeSystem$TextProcess" 108 ⟨"HomeSystem$TextProcess", "flow", "(III)V"⟩ ∈ AL := AL_9 (List.mem_of_getElem? (i := 8) rfl) rfl
theorem m9_11 : Cond.code ⟨"HomeSystem$TextProcess", "flow", "(III)V"⟩ prog_11_method_21_code 6 (Option.none : Option Jvm.ClassFile.FieldType) ∈ AL := AL_9 (List.mem_of_getElem? (i := 11) rfl) rfl
theorem ms_6_15 : Cond.selects "HomeSystem$TextProcess" ⟨"HomeSystem$TextProcess", "flow", "(III)V"⟩ ⟨"HomeSystem$TextProcess", "flow", "(III)V"⟩ ∈ AL := AL_p (q := (⟨"HomeSystem$TextProcess", "flow", "(III)V"⟩, 25)) (by unfold lw_privs; exact List.mem_append_right _ (List.mem_append_right _ (List.mem_append_right _ (List.mem_append_right _ (List.mem_append_right _ (List.mem_append_left _ (List.mem_of_getElem? (i := 15) rfl)))))))
theorem m9_10 : Cond.instanceMethod ⟨"HomeSystem$TextProcess", "flow", "(III)V"⟩ ∈ AL := AL_9 (List.mem_of_getElem? (i := 10) rfl) rfl
theorem m9_0 : Cond.constant "HomeSystem$TextProcess" 77 (1000000) ∈ AL := AL_9 (List.mem_of_getElem? (i := 0) rfl) rfl
theorem m6_142 : Cond.fieldLink "HomeSystem$TextProcess" 78 "HomeSystem$TextProcess" "outcome" "I" ∈ AL := AL_6 (List.mem_of_getElem? (i := 142) rfl) rfl
theorem m6_143 : Cond.sameField "HomeSystem$TextProcess" "HomeSystem$AnyProcess" "outcome" "I" ∈ AL := AL_6 (List.mem_of_getElem? (i := 143) rfl) rfl
theorem m9_1 : Cond.methodLink "HomeSystem$TextProcess" 85 ⟨"HomeSystem$TextProcess", "step", "()V"⟩ ∈ AL := AL_9 (List.mem_of_getElem? (i := 1) rfl) rfl
theorem m9_4 : Cond.code ⟨"HomeSystem$TextProcess", "step", "()V"⟩ prog_11_method_12_code 7 (Option.none : Option Jvm.ClassFile.FieldType) ∈ AL := AL_9 (List.mem_of_getElem? (i := 4) rfl) rfl
theorem ms_6_14 : Cond.selects "HomeSystem$TextProcess" ⟨"HomeSystem$TextProcess", "step", "()V"⟩ ⟨"HomeSystem$TextProcess", "step", "()V"⟩ ∈ AL := AL_p (q := (⟨"HomeSystem$TextProcess", "step", "()V"⟩, 25)) (by unfold lw_privs; exact List.mem_append_right _ (List.mem_append_right _ (List.mem_append_right _ (List.mem_append_right _ (List.mem_append_right _ (List.mem_append_left _ (List.mem_of_getElem? (i := 14) rfl)))))))
theorem m9_3 : Cond.instanceMethod ⟨"HomeSystem$TextProcess", "step", "()V"⟩ ∈ AL := AL_9 (List.mem_of_getElem? (i := 3) rfl) rfl
abbrev b_Txp_flow : ByteArray := prog_11_method_21_code
def y_Txp_flow : MethodName := ⟨"HomeSystem$TextProcess", "flow", "(III)V"⟩
theorem d_Txp_flow_0 : decode b_Txp_flow 0 = .ok (.iload_n 1, 1) := by decide +kernel
theorem d_Txp_flow_1 : decode b_Txp_flow 1 = .ok (.tableswitch 226 15 24 #[55, 63, 85, 107, 107, 152, 181, 189, 204, 219], 55) := by decide +kernel
theorem d_Txp_flow_56 : decode b_Txp_flow 56 = .ok (.aload_n 0, 1) := by decide +kernel
theorem d_Txp_flow_57 : decode b_Txp_flow 57 = .ok (.iload_n 2, 1) := by decide +kernel
theorem d_Txp_flow_58 : decode b_Txp_flow 58 = .ok (.putfield 41, 3) := by decide +kernel
theorem d_Txp_flow_61 : decode b_Txp_flow 61 = .ok (.goto 175, 3) := by decide +kernel
theorem d_Txp_flow_64 : decode b_Txp_flow 64 = .ok (.aload_n 0, 1) := by decide +kernel
theorem d_Txp_flow_65 : decode b_Txp_flow 65 = .ok (.aload_n 0, 1) := by decide +kernel
theorem d_Txp_flow_66 : decode b_Txp_flow 66 = .ok (.invokevirtual 119, 3) := by decide +kernel
theorem d_Txp_flow_69 : decode b_Txp_flow 69 = .ok (.ifCond .ne 7, 3) := by decide +kernel
theorem d_Txp_flow_72 : decode b_Txp_flow 72 = .ok (.iload_n 2, 1) := by decide +kernel
theorem d_Txp_flow_73 : decode b_Txp_flow 73 = .ok (.goto 7, 3) := by decide +kernel
theorem d_Txp_flow_76 : decode b_Txp_flow 76 = .ok (.aload_n 0, 1) := by decide +kernel
theorem d_Txp_flow_77 : decode b_Txp_flow 77 = .ok (.getfield 41, 3) := by decide +kernel
theorem d_Txp_flow_80 : decode b_Txp_flow 80 = .ok (.putfield 41, 3) := by decide +kernel
theorem d_Txp_flow_83 : decode b_Txp_flow 83 = .ok (.goto 153, 3) := by decide +kernel
theorem d_Txp_flow_86 : decode b_Txp_flow 86 = .ok (.aload_n 0, 1) := by decide +kernel
theorem d_Txp_flow_87 : decode b_Txp_flow 87 = .ok (.aload_n 0, 1) := by decide +kernel
theorem d_Txp_flow_88 : decode b_Txp_flow 88 = .ok (.invokevirtual 119, 3) := by decide +kernel
theorem d_Txp_flow_91 : decode b_Txp_flow 91 = .ok (.ifCond .eq 7, 3) := by decide +kernel
theorem d_Txp_flow_94 : decode b_Txp_flow 94 = .ok (.iload_n 2, 1) := by decide +kernel
theorem d_Txp_flow_95 : decode b_Txp_flow 95 = .ok (.goto 7, 3) := by decide +kernel
theorem d_Txp_flow_98 : decode b_Txp_flow 98 = .ok (.aload_n 0, 1) := by decide +kernel
theorem d_Txp_flow_99 : decode b_Txp_flow 99 = .ok (.getfield 41, 3) := by decide +kernel
theorem d_Txp_flow_102 : decode b_Txp_flow 102 = .ok (.putfield 41, 3) := by decide +kernel
theorem d_Txp_flow_105 : decode b_Txp_flow 105 = .ok (.goto 131, 3) := by decide +kernel
theorem d_Txp_flow_108 : decode b_Txp_flow 108 = .ok (.aload_n 0, 1) := by decide +kernel
theorem d_Txp_flow_109 : decode b_Txp_flow 109 = .ok (.invokevirtual 119, 3) := by decide +kernel
theorem d_Txp_flow_112 : decode b_Txp_flow 112 = .ok (.ifCond .eq 8, 3) := by decide +kernel
theorem d_Txp_flow_115 : decode b_Txp_flow 115 = .ok (.bipush 19, 2) := by decide +kernel
theorem d_Txp_flow_117 : decode b_Txp_flow 117 = .ok (.goto 5, 3) := by decide +kernel
theorem d_Txp_flow_120 : decode b_Txp_flow 120 = .ok (.bipush 18, 2) := by decide +kernel
theorem d_Txp_flow_122 : decode b_Txp_flow 122 = .ok (.istore 4, 2) := by decide +kernel
theorem d_Txp_flow_124 : decode b_Txp_flow 124 = .ok (.iload 4, 2) := by decide +kernel
theorem d_Txp_flow_126 : decode b_Txp_flow 126 = .ok (.iload_n 1, 1) := by decide +kernel
theorem d_Txp_flow_127 : decode b_Txp_flow 127 = .ok (.if_icmp .ne 109, 3) := by decide +kernel
theorem d_Txp_flow_130 : decode b_Txp_flow 130 = .ok (.aload_n 0, 1) := by decide +kernel
theorem d_Txp_flow_131 : decode b_Txp_flow 131 = .ok (.iload_n 1, 1) := by decide +kernel
theorem d_Txp_flow_132 : decode b_Txp_flow 132 = .ok (.bipush 19, 2) := by decide +kernel
theorem d_Txp_flow_134 : decode b_Txp_flow 134 = .ok (.if_icmp .ne 7, 3) := by decide +kernel
theorem d_Txp_flow_137 : decode b_Txp_flow 137 = .ok (.iconst 1, 1) := by decide +kernel
theorem d_Txp_flow_138 : decode b_Txp_flow 138 = .ok (.goto 4, 3) := by decide +kernel
theorem d_Txp_flow_141 : decode b_Txp_flow 141 = .ok (.iconst 0, 1) := by decide +kernel
theorem d_Txp_flow_142 : decode b_Txp_flow 142 = .ok (.invokevirtual 74, 3) := by decide +kernel
theorem d_Txp_flow_145 : decode b_Txp_flow 145 = .ok (.aload_n 0, 1) := by decide +kernel
theorem d_Txp_flow_146 : decode b_Txp_flow 146 = .ok (.iload_n 2, 1) := by decide +kernel
theorem d_Txp_flow_147 : decode b_Txp_flow 147 = .ok (.putfield 41, 3) := by decide +kernel
theorem d_Txp_flow_150 : decode b_Txp_flow 150 = .ok (.goto 86, 3) := by decide +kernel
theorem d_Txp_flow_153 : decode b_Txp_flow 153 = .ok (.aload_n 0, 1) := by decide +kernel
theorem d_Txp_flow_154 : decode b_Txp_flow 154 = .ok (.invokevirtual 119, 3) := by decide +kernel
theorem d_Txp_flow_157 : decode b_Txp_flow 157 = .ok (.istore 5, 2) := by decide +kernel
theorem d_Txp_flow_159 : decode b_Txp_flow 159 = .ok (.iload 5, 2) := by decide +kernel
theorem d_Txp_flow_161 : decode b_Txp_flow 161 = .ok (.iload_n 3, 1) := by decide +kernel
theorem d_Txp_flow_162 : decode b_Txp_flow 162 = .ok (.if_icmp .ne 11, 3) := by decide +kernel
theorem d_Txp_flow_165 : decode b_Txp_flow 165 = .ok (.aload_n 0, 1) := by decide +kernel
theorem d_Txp_flow_166 : decode b_Txp_flow 166 = .ok (.iload_n 2, 1) := by decide +kernel
theorem d_Txp_flow_167 : decode b_Txp_flow 167 = .ok (.putfield 41, 3) := by decide +kernel
theorem d_Txp_flow_170 : decode b_Txp_flow 170 = .ok (.goto 66, 3) := by decide +kernel
theorem d_Txp_flow_173 : decode b_Txp_flow 173 = .ok (.aload_n 0, 1) := by decide +kernel
theorem d_Txp_flow_174 : decode b_Txp_flow 174 = .ok (.iload 5, 2) := by decide +kernel
theorem d_Txp_flow_176 : decode b_Txp_flow 176 = .ok (.invokevirtual 74, 3) := by decide +kernel
theorem d_Txp_flow_179 : decode b_Txp_flow 179 = .ok (.goto 57, 3) := by decide +kernel
theorem d_Txp_flow_182 : decode b_Txp_flow 182 = .ok (.aload_n 0, 1) := by decide +kernel
theorem d_Txp_flow_183 : decode b_Txp_flow 183 = .ok (.invokevirtual 158, 3) := by decide +kernel
theorem d_Txp_flow_186 : decode b_Txp_flow 186 = .ok (.pop, 1) := by decide +kernel
theorem d_Txp_flow_187 : decode b_Txp_flow 187 = .ok (.goto 49, 3) := by decide +kernel
theorem d_Txp_flow_190 : decode b_Txp_flow 190 = .ok (.aload_n 0, 1) := by decide +kernel
theorem d_Txp_flow_191 : decode b_Txp_flow 191 = .ok (.invokevirtual 158, 3) := by decide +kernel
theorem d_Txp_flow_194 : decode b_Txp_flow 194 = .ok (.ifCond .eq 42, 3) := by decide +kernel
theorem d_Txp_flow_197 : decode b_Txp_flow 197 = .ok (.aload_n 0, 1) := by decide +kernel
theorem d_Txp_flow_198 : decode b_Txp_flow 198 = .ok (.iload_n 2, 1) := by decide +kernel
theorem d_Txp_flow_199 : decode b_Txp_flow 199 = .ok (.invokevirtual 162, 3) := by decide +kernel
theorem d_Txp_flow_202 : decode b_Txp_flow 202 = .ok (.goto 34, 3) := by decide +kernel
theorem d_Txp_flow_205 : decode b_Txp_flow 205 = .ok (.aload_n 0, 1) := by decide +kernel
theorem d_Txp_flow_206 : decode b_Txp_flow 206 = .ok (.invokevirtual 158, 3) := by decide +kernel
theorem d_Txp_flow_209 : decode b_Txp_flow 209 = .ok (.ifCond .eq 27, 3) := by decide +kernel
theorem d_Txp_flow_212 : decode b_Txp_flow 212 = .ok (.aload_n 0, 1) := by decide +kernel
theorem d_Txp_flow_213 : decode b_Txp_flow 213 = .ok (.iload_n 2, 1) := by decide +kernel
theorem d_Txp_flow_214 : decode b_Txp_flow 214 = .ok (.invokevirtual 165, 3) := by decide +kernel
theorem d_Txp_flow_217 : decode b_Txp_flow 217 = .ok (.goto 19, 3) := by decide +kernel
theorem d_Txp_flow_220 : decode b_Txp_flow 220 = .ok (.aload_n 0, 1) := by decide +kernel
theorem d_Txp_flow_221 : decode b_Txp_flow 221 = .ok (.invokevirtual 168, 3) := by decide +kernel
theorem d_Txp_flow_224 : decode b_Txp_flow 224 = .ok (.goto 12, 3) := by decide +kernel
theorem d_Txp_flow_227 : decode b_Txp_flow 227 = .ok (.aload_n 0, 1) := by decide +kernel
theorem d_Txp_flow_228 : decode b_Txp_flow 228 = .ok (.iconst 0, 1) := by decide +kernel
theorem d_Txp_flow_229 : decode b_Txp_flow 229 = .ok (.aload_n 0, 1) := by decide +kernel
theorem d_Txp_flow_230 : decode b_Txp_flow 230 = .ok (.invokevirtual 119, 3) := by decide +kernel
theorem d_Txp_flow_233 : decode b_Txp_flow 233 = .ok (.invokevirtual 105, 3) := by decide +kernel
theorem d_Txp_flow_236 : decode b_Txp_flow 236 = .ok (.return_, 1) := by decide +kernel
theorem q_Txp_flow : px_y y_Txp_flow 3 := by unfold px_y; decide +kernel
set_option maxHeartbeats 4000000 in
set_option maxRecDepth 100000 in
theorem c_Txp_flow (l : Launch) (D : va_G) (cs : Nat → ClassId) (h : Nat) (r : Nat → Nat) (g : Nat → Nat → Option Nat) (hp : Nat) (f : Nat → Int32) (a : Nat → Nat → Int32) (rp : Nat → Nat) (of : Option Nat) (fp : Nat → Int32) (fn : Nat) (fd : Nat → Int32) (p0 p1 p2 : Int32)  (hinv0 : TxOk (f 4) (f 5) (f 8) (f 9) (f 17) (f 21) (a 2)) (g0 : (f 21).toInt = 0) (g1 : fn ≤ 1000000) (g2 : p0.toInt = 22 → 0 ≤ p1.toInt ∧ p1.toInt ≤ 1000000) (hfd : RtOk fd) (hlka : 15 ≤ p0.toInt → p0.toInt ≤ 20 → Lk p1) : MetV l y_Txp_flow b_Txp_flow 6 D cs 2 80 (0) (0) [.ref h, .int p0, .int p1, .int p2] [wd_Txp cs h r (fun k => if k = 3 then (some hp) else none) f a g, wd_Prg cs hp rp (fun k => if k = 2 then of else none) fp (fun _ _ => 0) (fun _ _ => none), nA cs of fn fd] (fun _ => True) (fun ps => ∃ (f' : Nat → Int32) (a' : Nat → Nat → Int32), (ps = [wd_Txp cs h r (fun k => if k = 3 then (some hp) else none) f' a' g, wd_Prg cs hp rp (fun k => if k = 2 then of else none) fp (fun _ _ => 0) (fun _ _ => none), nA cs of fn fd]) ∧ (TxOk (f' 4) (f' 5) (f' 8) (f' 9) (f' 17) (f' 21) (a' 2)) ∧ ((f' 17).toInt = (f 17).toInt) ∧ ((f' 15).toInt = (f 15).toInt) ∧ ((f' 20).toInt = (f 20).toInt)) := by
  refine px_enter (by decide) (Nat.le_of_ble_eq_true rfl) ?_
  intro p e s m below meth c A ls hAe S hr hlk hnm hA hT hX hw hl
  replace hl : lv_has ls 6 [(0, .ref h), (1, .int p0), (2, .int p1), (3, .int p2)] := hl
  have lp0 := Int32.le_toInt p0
  have up0 := Int32.toInt_lt p0
  have lp1 := Int32.le_toInt p1
  have up1 := Int32.toInt_lt p1
  have lp2 := Int32.le_toInt p2
  have up2 := Int32.toInt_lt p2
  have cst0 : (0 : Int32).toInt = 0 := rfl
  have cst1 : (1 : Int32).toInt = 1 := rfl
  have cst18 : (18 : Int32).toInt = 18 := rfl
  have cst19 : (19 : Int32).toInt = 19 := rfl
  obtain ⟨lk, ⟨i2, i3⟩, ⟨i4, i5⟩, ⟨i6, i7⟩, i8, ⟨i9, i11⟩, i10, hrt⟩ := hinv0
  refine lv_iload_n S.x S.b d_Txp_flow_0 rfl (lv_at hl 1 rfl) ?_
  refine px_tableK S (dt := 227) [(56, [15]), (64, [16]), (86, [17]), (108, [18, 19]), (153, [20]), (182, [21]), (190, [22]), (205, [23]), (220, [24])] d_Txp_flow_1 (by decide +kernel) (by decide) (by decide +kernel) ?_ ?_
  ·
    refine lv_aload_n S.x S.b d_Txp_flow_227 rfl (lv_at hl 0 rfl) ?_
    refine lv_iconst (v := 0) S.x S.b d_Txp_flow_228 (by decide) ?_
    refine lv_aload_n S.x S.b d_Txp_flow_229 rfl (lv_at hl 0 rfl) ?_
    have hw : pw D A s.heap _ _ [wd_Prg cs hp rp (fun k => if k = 2 then of else none) fp (fun _ _ => 0) (fun _ _ => none), nA cs of fn fd, wd_Txp cs h r (fun k => if k = 3 then (some hp) else none) f a g] := hw.sub [1, 2, 0] rfl rfl
    refine px_calli (pr := [wd_Prg cs hp rp (fun k => if k = 2 then of else none) fp (fun _ _ => 0) (fun _ _ => none), nA cs of fn fd]) (px_runV (As := []) (rest := [.int 0, .ref h]) S (c_Txp_pop l D cs h r g hp f a   (show TxOk (f 4) (f 5) (f 8) (f 9) (f 17) (f 21) (a 2) from ⟨lk, ⟨by first | exact i2 | omega, by first | exact i3 | omega⟩, ⟨by first | exact i4 | omega, by first | exact i5 | omega⟩, ⟨by first | exact i6 | omega, by first | exact i7 | omega⟩, by first | exact i8 | omega, ⟨by first | exact i9 | omega, by first | exact i11 | omega⟩, by first | exact i10 | omega, hrt⟩) _) hT (pr := [wd_Prg cs hp rp (fun k => if k = 2 then of else none) fp (fun _ _ => 0) (fun _ _ => none), nA cs of fn fd]) (pcs := [wd_Txp cs h r (fun k => if k = 3 then (some hp) else none) f a g]) hw px_X.tt (px_recv hT hw 2 0 rfl rfl rfl) m9_15 m9_12 m9_14 ms_7_0 m1_35 q_Txp_pop ⟨Nat.le_of_ble_eq_true rfl, Nat.le_of_ble_eq_true rfl⟩ hl.1 rfl (Nat.le_of_ble_eq_true rfl) d_Txp_flow_230 ⟨Nat.le_of_ble_eq_true rfl, Nat.le_of_ble_eq_true rfl⟩) hw hA (fun v4 p3 H locs hp3 hw => ?_)
    obtain ⟨f1, a2, rfl, h11, e5, e6, e7, e8, e9, e10⟩ := hp3
    obtain ⟨lk, ⟨i2, i3⟩, ⟨i4, i5⟩, ⟨i6, i7⟩, i8, ⟨i9, i11⟩, i10, hrt⟩ := h11
    replace e5 : (f1 9).toInt = (f 9).toInt := e5
    replace e6 : (f1 17).toInt = (f 17).toInt := e6
    replace e7 : (f1 21).toInt = (f 21).toInt := e7
    replace e8 : (f1 15).toInt = (f 15).toInt := e8
    replace e9 : (f1 20).toInt = (f 20).toInt := e9
    replace e10 : (f1 4).toInt = (f 4).toInt := e10
    replace hw : pw D A s.heap H locs [wd_Prg cs hp rp (fun k => if k = 2 then of else none) fp (fun _ _ => 0) (fun _ _ => none), nA cs of fn fd, wd_Txp cs h r (fun k => if k = 3 then (some hp) else none) f1 a2 g] := hw
    have lv4 := Int32.le_toInt v4
    have uv4 := Int32.toInt_lt v4
    refine px_callv (pr := [wd_Prg cs hp rp (fun k => if k = 2 then of else none) fp (fun _ _ => 0) (fun _ _ => none), nA cs of fn fd]) (px_runU (As := [.int 0, .int v4]) (rest := []) S (c_finish_Txp l D cs h r g hp f1 a2 0 v4  (show TxOk (f1 4) (f1 5) (f1 8) (f1 9) (f1 17) (f1 21) (a2 2) from ⟨lk, ⟨by first | exact i2 | omega, by first | exact i3 | omega⟩, ⟨by first | exact i4 | omega, by first | exact i5 | omega⟩, ⟨by first | exact i6 | omega, by first | exact i7 | omega⟩, by first | exact i8 | omega, ⟨by first | exact i9 | omega, by first | exact i11 | omega⟩, by first | exact i10 | omega, hrt⟩) _) hT (pr := [wd_Prg cs hp rp (fun k => if k = 2 then of else none) fp (fun _ _ => 0) (fun _ _ => none), nA cs of fn fd]) (pcs := [wd_Txp cs h r (fun k => if k = 3 then (some hp) else none) f1 a2 g]) hw px_X.tt (C := "HomeSystem$TextProcess") (x := ⟨"HomeSystem$TextProcess", "finish", "(II)V"⟩) (px_recv hT hw 2 0 rfl rfl rfl) m8_89 m9_5 m9_6 m8_85 m9_7 m1_33 rfl q_HomeSystem_AnyProcess_finish ⟨Nat.le_of_ble_eq_true rfl, Nat.le_of_ble_eq_true rfl⟩ hl.1 rfl (Nat.le_of_ble_eq_true rfl) d_Txp_flow_233 ⟨Nat.le_of_ble_eq_true rfl, Nat.le_of_ble_eq_true rfl⟩) hw hA (fun p14 H locs hp14 hw => ?_)
    obtain ⟨f12, a13, rfl, h21, e16, e17, e18, e19, e20⟩ := hp14
    obtain ⟨lk, ⟨i2, i3⟩, ⟨i4, i5⟩, ⟨i6, i7⟩, i8, ⟨i9, i11⟩, i10, hrt⟩ := h21
    replace e16 : (f12 9).toInt = (f1 9).toInt := e16
    replace e17 : (f12 17).toInt = (f1 17).toInt := e17
    replace e18 : (f12 21).toInt = 0 := e18
    replace e19 : (f12 15).toInt = (f1 15).toInt := e19
    replace e20 : (f12 20).toInt = (f1 20).toInt := e20
    replace hw : pw D A s.heap H locs [wd_Prg cs hp rp (fun k => if k = 2 then of else none) fp (fun _ _ => 0) (fun _ _ => none), nA cs of fn fd, wd_Txp cs h r (fun k => if k = 3 then (some hp) else none) f12 a13 g] := hw
    have hw : pw D A s.heap _ _ [wd_Txp cs h r (fun k => if k = 3 then (some hp) else none) f12 a13 g, wd_Prg cs hp rp (fun k => if k = 2 then of else none) fp (fun _ _ => 0) (fun _ _ => none), nA cs of fn fd] := hw.sub [2, 0, 1] rfl rfl
    exact px_vret S hr hlk hAe hw (Nat.le_of_ble_eq_true rfl) (Nat.le_of_ble_eq_true rfl) (⟨f12, a13, rfl, (show TxOk (f12 4) (f12 5) (f12 8) (f12 9) (f12 17) (f12 21) (a13 2) from ⟨lk, ⟨by first | exact i2 | omega, by first | exact i3 | omega⟩, ⟨by first | exact i4 | omega, by first | exact i5 | omega⟩, ⟨by first | exact i6 | omega, by first | exact i7 | omega⟩, by first | exact i8 | omega, ⟨by first | exact i9 | omega, by first | exact i11 | omega⟩, by first | exact i10 | omega, hrt⟩), (show (f12 17).toInt = (f 17).toInt from by first | exact oz_1687f4cc65 e6 e17 | omega), (show (f12 15).toInt = (f 15).toInt from by first | exact oz_1687f4cc65 e8 e19 | omega), (show (f12 20).toInt = (f 20).toInt from by first | exact oz_1687f4cc65 e9 e20 | omega)⟩) d_Txp_flow_236
  · refine List.forall_mem_cons.mpr ⟨fun c22 => ?_, List.forall_mem_cons.mpr ⟨fun c22 => ?_, List.forall_mem_cons.mpr ⟨fun c22 => ?_, List.forall_mem_cons.mpr ⟨fun c22 => ?_, List.forall_mem_cons.mpr ⟨fun c22 => ?_, List.forall_mem_cons.mpr ⟨fun c22 => ?_, List.forall_mem_cons.mpr ⟨fun c22 => ?_, List.forall_mem_cons.mpr ⟨fun c22 => ?_, List.forall_mem_cons.mpr ⟨fun c22 => ?_, fun _ h => absurd h List.not_mem_nil⟩⟩⟩⟩⟩⟩⟩⟩⟩
    · simp only [List.mem_cons, List.not_mem_nil, or_false] at c22
      refine lv_aload_n S.x S.b d_Txp_flow_56 rfl (lv_at hl 0 rfl) ?_
      refine lv_iload_n S.x S.b d_Txp_flow_57 rfl (lv_at hl 2 rfl) ?_
      refine px_put S k_Txp hT hw 0 0 4 rfl rfl (by decide) m6_217 rfl rfl rfl (Nat.le_of_ble_eq_true rfl) d_Txp_flow_58 (w' := wd_Txp cs h r (fun k => if k = 3 then (some hp) else none) (upd f 4 p1) a g) (ps' := [wd_Txp cs h r (fun k => if k = 3 then (some hp) else none) (upd f 4 p1) a g, wd_Prg cs hp rp (fun k => if k = 2 then of else none) fp (fun _ _ => 0) (fun _ _ => none), nA cs of fn fd]) rfl rfl (fun H locs hw => ?_)
      refine lv_goto (tgt := 236) S.x S.b d_Txp_flow_61 (by decide) ?_
      exact px_vret S hr hlk hAe hw (Nat.le_of_ble_eq_true rfl) (Nat.le_of_ble_eq_true rfl) (⟨(upd f 4 p1), a, rfl, (show TxOk p1 (f 5) (f 8) (f 9) (f 17) (f 21) (a 2) from ⟨hlka (by omega) (by omega), ⟨by first | exact i2 | omega, by first | exact i3 | omega⟩, ⟨by first | exact i4 | omega, by first | exact i5 | omega⟩, ⟨by first | exact i6 | omega, by first | exact i7 | omega⟩, by first | exact i8 | omega, ⟨by first | exact i9 | omega, by first | exact i11 | omega⟩, by first | exact i10 | omega, hrt⟩), (show (f 17).toInt = (f 17).toInt from rfl), (show (f 15).toInt = (f 15).toInt from rfl), (show (f 20).toInt = (f 20).toInt from rfl)⟩) d_Txp_flow_236
    · simp only [List.mem_cons, List.not_mem_nil, or_false] at c22
      refine lv_aload_n S.x S.b d_Txp_flow_64 rfl (lv_at hl 0 rfl) ?_
      refine lv_aload_n S.x S.b d_Txp_flow_65 rfl (lv_at hl 0 rfl) ?_
      have hw : pw D A s.heap _ _ [wd_Prg cs hp rp (fun k => if k = 2 then of else none) fp (fun _ _ => 0) (fun _ _ => none), nA cs of fn fd, wd_Txp cs h r (fun k => if k = 3 then (some hp) else none) f a g] := hw.sub [1, 2, 0] rfl rfl
      refine px_calli (pr := [wd_Prg cs hp rp (fun k => if k = 2 then of else none) fp (fun _ _ => 0) (fun _ _ => none), nA cs of fn fd]) (px_runV (As := []) (rest := [.ref h]) S (c_Txp_pop l D cs h r g hp f a   (show TxOk (f 4) (f 5) (f 8) (f 9) (f 17) (f 21) (a 2) from ⟨lk, ⟨by first | exact i2 | omega, by first | exact i3 | omega⟩, ⟨by first | exact i4 | omega, by first | exact i5 | omega⟩, ⟨by first | exact i6 | omega, by first | exact i7 | omega⟩, by first | exact i8 | omega, ⟨by first | exact i9 | omega, by first | exact i11 | omega⟩, by first | exact i10 | omega, hrt⟩) _) hT (pr := [wd_Prg cs hp rp (fun k => if k = 2 then of else none) fp (fun _ _ => 0) (fun _ _ => none), nA cs of fn fd]) (pcs := [wd_Txp cs h r (fun k => if k = 3 then (some hp) else none) f a g]) hw px_X.tt (px_recv hT hw 2 0 rfl rfl rfl) m9_15 m9_12 m9_14 ms_7_0 m1_35 q_Txp_pop ⟨Nat.le_of_ble_eq_true rfl, Nat.le_of_ble_eq_true rfl⟩ hl.1 rfl (Nat.le_of_ble_eq_true rfl) d_Txp_flow_66 ⟨Nat.le_of_ble_eq_true rfl, Nat.le_of_ble_eq_true rfl⟩) hw hA (fun v26 p25 H locs hp25 hw => ?_)
      obtain ⟨f23, a24, rfl, h33, e27, e28, e29, e30, e31, e32⟩ := hp25
      obtain ⟨lk, ⟨i2, i3⟩, ⟨i4, i5⟩, ⟨i6, i7⟩, i8, ⟨i9, i11⟩, i10, hrt⟩ := h33
      replace e27 : (f23 9).toInt = (f 9).toInt := e27
      replace e28 : (f23 17).toInt = (f 17).toInt := e28
      replace e29 : (f23 21).toInt = (f 21).toInt := e29
      replace e30 : (f23 15).toInt = (f 15).toInt := e30
      replace e31 : (f23 20).toInt = (f 20).toInt := e31
      replace e32 : (f23 4).toInt = (f 4).toInt := e32
      replace hw : pw D A s.heap H locs [wd_Prg cs hp rp (fun k => if k = 2 then of else none) fp (fun _ _ => 0) (fun _ _ => none), nA cs of fn fd, wd_Txp cs h r (fun k => if k = 3 then (some hp) else none) f23 a24 g] := hw
      have lv26 := Int32.le_toInt v26
      have uv26 := Int32.toInt_lt v26
      refine lv_if_ne (tgt := 76) S.x S.b d_Txp_flow_69 (by decide) (fun c34 => ?_) (fun c34 => ?_)
      · have nc34 : ¬ v26.toInt = (0 : Int) := mt (i_eq (x := v26) (y := 0)).mpr c34
        refine lv_aload_n S.x S.b d_Txp_flow_76 rfl (lv_at hl 0 rfl) ?_
        refine px_get S k_Txp hT hw 2 0 4 (v := .int (f23 4)) rfl rfl rfl (by decide) m6_217 d_Txp_flow_77 ?_
        refine px_put S k_Txp hT hw 2 0 4 rfl rfl (by decide) m6_217 rfl rfl rfl (Nat.le_of_ble_eq_true rfl) d_Txp_flow_80 (w' := wd_Txp cs h r (fun k => if k = 3 then (some hp) else none) (upd f23 4 (f23 4)) a24 g) (ps' := [wd_Prg cs hp rp (fun k => if k = 2 then of else none) fp (fun _ _ => 0) (fun _ _ => none), nA cs of fn fd, wd_Txp cs h r (fun k => if k = 3 then (some hp) else none) (upd f23 4 (f23 4)) a24 g]) rfl rfl (fun H locs hw => ?_)
        refine lv_goto (tgt := 236) S.x S.b d_Txp_flow_83 (by decide) ?_
        have hw : pw D A s.heap _ _ [wd_Txp cs h r (fun k => if k = 3 then (some hp) else none) (upd f23 4 (f23 4)) a24 g, wd_Prg cs hp rp (fun k => if k = 2 then of else none) fp (fun _ _ => 0) (fun _ _ => none), nA cs of fn fd] := hw.sub [2, 0, 1] rfl rfl
        exact px_vret S hr hlk hAe hw (Nat.le_of_ble_eq_true rfl) (Nat.le_of_ble_eq_true rfl) (⟨(upd f23 4 (f23 4)), a24, rfl, (show TxOk (f23 4) (f23 5) (f23 8) (f23 9) (f23 17) (f23 21) (a24 2) from ⟨lk, ⟨by first | exact i2 | omega, by first | exact i3 | omega⟩, ⟨by first | exact i4 | omega, by first | exact i5 | omega⟩, ⟨by first | exact i6 | omega, by first | exact i7 | omega⟩, by first | exact i8 | omega, ⟨by first | exact i9 | omega, by first | exact i11 | omega⟩, by first | exact i10 | omega, hrt⟩), (show (f23 17).toInt = (f 17).toInt from by first | exact e28 | omega), (show (f23 15).toInt = (f 15).toInt from by first | exact e30 | omega), (show (f23 20).toInt = (f 20).toInt from by first | exact e31 | omega)⟩) d_Txp_flow_236
      · have nc34 : v26.toInt = (0 : Int) := (i_eq (x := v26) (y := 0)).mp c34
        refine lv_iload_n S.x S.b d_Txp_flow_72 rfl (lv_at hl 2 rfl) ?_
        refine lv_goto (tgt := 80) S.x S.b d_Txp_flow_73 (by decide) ?_
        refine px_put S k_Txp hT hw 2 0 4 rfl rfl (by decide) m6_217 rfl rfl rfl (Nat.le_of_ble_eq_true rfl) d_Txp_flow_80 (w' := wd_Txp cs h r (fun k => if k = 3 then (some hp) else none) (upd f23 4 p1) a24 g) (ps' := [wd_Prg cs hp rp (fun k => if k = 2 then of else none) fp (fun _ _ => 0) (fun _ _ => none), nA cs of fn fd, wd_Txp cs h r (fun k => if k = 3 then (some hp) else none) (upd f23 4 p1) a24 g]) rfl rfl (fun H locs hw => ?_)
        refine lv_goto (tgt := 236) S.x S.b d_Txp_flow_83 (by decide) ?_
        have hw : pw D A s.heap _ _ [wd_Txp cs h r (fun k => if k = 3 then (some hp) else none) (upd f23 4 p1) a24 g, wd_Prg cs hp rp (fun k => if k = 2 then of else none) fp (fun _ _ => 0) (fun _ _ => none), nA cs of fn fd] := hw.sub [2, 0, 1] rfl rfl
        exact px_vret S hr hlk hAe hw (Nat.le_of_ble_eq_true rfl) (Nat.le_of_ble_eq_true rfl) (⟨(upd f23 4 p1), a24, rfl, (show TxOk p1 (f23 5) (f23 8) (f23 9) (f23 17) (f23 21) (a24 2) from ⟨hlka (by omega) (by omega), ⟨by first | exact i2 | omega, by first | exact i3 | omega⟩, ⟨by first | exact i4 | omega, by first | exact i5 | omega⟩, ⟨by first | exact i6 | omega, by first | exact i7 | omega⟩, by first | exact i8 | omega, ⟨by first | exact i9 | omega, by first | exact i11 | omega⟩, by first | exact i10 | omega, hrt⟩), (show (f23 17).toInt = (f 17).toInt from by first | exact e28 | omega), (show (f23 15).toInt = (f 15).toInt from by first | exact e30 | omega), (show (f23 20).toInt = (f 20).toInt from by first | exact e31 | omega)⟩) d_Txp_flow_236
    · simp only [List.mem_cons, List.not_mem_nil, or_false] at c22
      refine lv_aload_n S.x S.b d_Txp_flow_86 rfl (lv_at hl 0 rfl) ?_
      refine lv_aload_n S.x S.b d_Txp_flow_87 rfl (lv_at hl 0 rfl) ?_
      have hw : pw D A s.heap _ _ [wd_Prg cs hp rp (fun k => if k = 2 then of else none) fp (fun _ _ => 0) (fun _ _ => none), nA cs of fn fd, wd_Txp cs h r (fun k => if k = 3 then (some hp) else none) f a g] := hw.sub [1, 2, 0] rfl rfl
      refine px_calli (pr := [wd_Prg cs hp rp (fun k => if k = 2 then of else none) fp (fun _ _ => 0) (fun _ _ => none), nA cs of fn fd]) (px_runV (As := []) (rest := [.ref h]) S (c_Txp_pop l D cs h r g hp f a   (show TxOk (f 4) (f 5) (f 8) (f 9) (f 17) (f 21) (a 2) from ⟨lk, ⟨by first | exact i2 | omega, by first | exact i3 | omega⟩, ⟨by first | exact i4 | omega, by first | exact i5 | omega⟩, ⟨by first | exact i6 | omega, by first | exact i7 | omega⟩, by first | exact i8 | omega, ⟨by first | exact i9 | omega, by first | exact i11 | omega⟩, by first | exact i10 | omega, hrt⟩) _) hT (pr := [wd_Prg cs hp rp (fun k => if k = 2 then of else none) fp (fun _ _ => 0) (fun _ _ => none), nA cs of fn fd]) (pcs := [wd_Txp cs h r (fun k => if k = 3 then (some hp) else none) f a g]) hw px_X.tt (px_recv hT hw 2 0 rfl rfl rfl) m9_15 m9_12 m9_14 ms_7_0 m1_35 q_Txp_pop ⟨Nat.le_of_ble_eq_true rfl, Nat.le_of_ble_eq_true rfl⟩ hl.1 rfl (Nat.le_of_ble_eq_true rfl) d_Txp_flow_88 ⟨Nat.le_of_ble_eq_true rfl, Nat.le_of_ble_eq_true rfl⟩) hw hA (fun v38 p37 H locs hp37 hw => ?_)
      obtain ⟨f35, a36, rfl, h45, e39, e40, e41, e42, e43, e44⟩ := hp37
      obtain ⟨lk, ⟨i2, i3⟩, ⟨i4, i5⟩, ⟨i6, i7⟩, i8, ⟨i9, i11⟩, i10, hrt⟩ := h45
      replace e39 : (f35 9).toInt = (f 9).toInt := e39
      replace e40 : (f35 17).toInt = (f 17).toInt := e40
      replace e41 : (f35 21).toInt = (f 21).toInt := e41
      replace e42 : (f35 15).toInt = (f 15).toInt := e42
      replace e43 : (f35 20).toInt = (f 20).toInt := e43
      replace e44 : (f35 4).toInt = (f 4).toInt := e44
      replace hw : pw D A s.heap H locs [wd_Prg cs hp rp (fun k => if k = 2 then of else none) fp (fun _ _ => 0) (fun _ _ => none), nA cs of fn fd, wd_Txp cs h r (fun k => if k = 3 then (some hp) else none) f35 a36 g] := hw
      have lv38 := Int32.le_toInt v38
      have uv38 := Int32.toInt_lt v38
      refine lv_if_eq (tgt := 98) S.x S.b d_Txp_flow_91 (by decide) (fun c46 => ?_) (fun c46 => ?_)
      · have nc46 : v38.toInt = (0 : Int) := (i_eq (x := v38) (y := 0)).mp c46
        refine lv_aload_n S.x S.b d_Txp_flow_98 rfl (lv_at hl 0 rfl) ?_
        refine px_get S k_Txp hT hw 2 0 4 (v := .int (f35 4)) rfl rfl rfl (by decide) m6_217 d_Txp_flow_99 ?_
        refine px_put S k_Txp hT hw 2 0 4 rfl rfl (by decide) m6_217 rfl rfl rfl (Nat.le_of_ble_eq_true rfl) d_Txp_flow_102 (w' := wd_Txp cs h r (fun k => if k = 3 then (some hp) else none) (upd f35 4 (f35 4)) a36 g) (ps' := [wd_Prg cs hp rp (fun k => if k = 2 then of else none) fp (fun _ _ => 0) (fun _ _ => none), nA cs of fn fd, wd_Txp cs h r (fun k => if k = 3 then (some hp) else none) (upd f35 4 (f35 4)) a36 g]) rfl rfl (fun H locs hw => ?_)
        refine lv_goto (tgt := 236) S.x S.b d_Txp_flow_105 (by decide) ?_
        have hw : pw D A s.heap _ _ [wd_Txp cs h r (fun k => if k = 3 then (some hp) else none) (upd f35 4 (f35 4)) a36 g, wd_Prg cs hp rp (fun k => if k = 2 then of else none) fp (fun _ _ => 0) (fun _ _ => none), nA cs of fn fd] := hw.sub [2, 0, 1] rfl rfl
        exact px_vret S hr hlk hAe hw (Nat.le_of_ble_eq_true rfl) (Nat.le_of_ble_eq_true rfl) (⟨(upd f35 4 (f35 4)), a36, rfl, (show TxOk (f35 4) (f35 5) (f35 8) (f35 9) (f35 17) (f35 21) (a36 2) from ⟨lk, ⟨by first | exact i2 | omega, by first | exact i3 | omega⟩, ⟨by first | exact i4 | omega, by first | exact i5 | omega⟩, ⟨by first | exact i6 | omega, by first | exact i7 | omega⟩, by first | exact i8 | omega, ⟨by first | exact i9 | omega, by first | exact i11 | omega⟩, by first | exact i10 | omega, hrt⟩), (show (f35 17).toInt = (f 17).toInt from by first | exact e40 | omega), (show (f35 15).toInt = (f 15).toInt from by first | exact e42 | omega), (show (f35 20).toInt = (f 20).toInt from by first | exact e43 | omega)⟩) d_Txp_flow_236
      · have nc46 : ¬ v38.toInt = (0 : Int) := mt (i_eq (x := v38) (y := 0)).mpr c46
        refine lv_iload_n S.x S.b d_Txp_flow_94 rfl (lv_at hl 2 rfl) ?_
        refine lv_goto (tgt := 102) S.x S.b d_Txp_flow_95 (by decide) ?_
        refine px_put S k_Txp hT hw 2 0 4 rfl rfl (by decide) m6_217 rfl rfl rfl (Nat.le_of_ble_eq_true rfl) d_Txp_flow_102 (w' := wd_Txp cs h r (fun k => if k = 3 then (some hp) else none) (upd f35 4 p1) a36 g) (ps' := [wd_Prg cs hp rp (fun k => if k = 2 then of else none) fp (fun _ _ => 0) (fun _ _ => none), nA cs of fn fd, wd_Txp cs h r (fun k => if k = 3 then (some hp) else none) (upd f35 4 p1) a36 g]) rfl rfl (fun H locs hw => ?_)
        refine lv_goto (tgt := 236) S.x S.b d_Txp_flow_105 (by decide) ?_
        have hw : pw D A s.heap _ _ [wd_Txp cs h r (fun k => if k = 3 then (some hp) else none) (upd f35 4 p1) a36 g, wd_Prg cs hp rp (fun k => if k = 2 then of else none) fp (fun _ _ => 0) (fun _ _ => none), nA cs of fn fd] := hw.sub [2, 0, 1] rfl rfl
        exact px_vret S hr hlk hAe hw (Nat.le_of_ble_eq_true rfl) (Nat.le_of_ble_eq_true rfl) (⟨(upd f35 4 p1), a36, rfl, (show TxOk p1 (f35 5) (f35 8) (f35 9) (f35 17) (f35 21) (a36 2) from ⟨hlka (by omega) (by omega), ⟨by first | exact i2 | omega, by first | exact i3 | omega⟩, ⟨by first | exact i4 | omega, by first | exact i5 | omega⟩, ⟨by first | exact i6 | omega, by first | exact i7 | omega⟩, by first | exact i8 | omega, ⟨by first | exact i9 | omega, by first | exact i11 | omega⟩, by first | exact i10 | omega, hrt⟩), (show (f35 17).toInt = (f 17).toInt from by first | exact e40 | omega), (show (f35 15).toInt = (f 15).toInt from by first | exact e42 | omega), (show (f35 20).toInt = (f 20).toInt from by first | exact e43 | omega)⟩) d_Txp_flow_236
    · simp only [List.mem_cons, List.not_mem_nil, or_false] at c22
      refine lv_aload_n S.x S.b d_Txp_flow_108 rfl (lv_at hl 0 rfl) ?_
      have hw : pw D A s.heap _ _ [wd_Prg cs hp rp (fun k => if k = 2 then of else none) fp (fun _ _ => 0) (fun _ _ => none), nA cs of fn fd, wd_Txp cs h r (fun k => if k = 3 then (some hp) else none) f a g] := hw.sub [1, 2, 0] rfl rfl
      refine px_calli (pr := [wd_Prg cs hp rp (fun k => if k = 2 then of else none) fp (fun _ _ => 0) (fun _ _ => none), nA cs of fn fd]) (px_runV (As := []) (rest := []) S (c_Txp_pop l D cs h r g hp f a   (show TxOk (f 4) (f 5) (f 8) (f 9) (f 17) (f 21) (a 2) from ⟨lk, ⟨by first | exact i2 | omega, by first | exact i3 | omega⟩, ⟨by first | exact i4 | omega, by first | exact i5 | omega⟩, ⟨by first | exact i6 | omega, by first | exact i7 | omega⟩, by first | exact i8 | omega, ⟨by first | exact i9 | omega, by first | exact i11 | omega⟩, by first | exact i10 | omega, hrt⟩) _) hT (pr := [wd_Prg cs hp rp (fun k => if k = 2 then of else none) fp (fun _ _ => 0) (fun _ _ => none), nA cs of fn fd]) (pcs := [wd_Txp cs h r (fun k => if k = 3 then (some hp) else none) f a g]) hw px_X.tt (px_recv hT hw 2 0 rfl rfl rfl) m9_15 m9_12 m9_14 ms_7_0 m1_35 q_Txp_pop ⟨Nat.le_of_ble_eq_true rfl, Nat.le_of_ble_eq_true rfl⟩ hl.1 rfl (Nat.le_of_ble_eq_true rfl) d_Txp_flow_109 ⟨Nat.le_of_ble_eq_true rfl, Nat.le_of_ble_eq_true rfl⟩) hw hA (fun v50 p49 H locs hp49 hw => ?_)
      obtain ⟨f47, a48, rfl, h57, e51, e52, e53, e54, e55, e56⟩ := hp49
      obtain ⟨lk, ⟨i2, i3⟩, ⟨i4, i5⟩, ⟨i6, i7⟩, i8, ⟨i9, i11⟩, i10, hrt⟩ := h57
      replace e51 : (f47 9).toInt = (f 9).toInt := e51
      replace e52 : (f47 17).toInt = (f 17).toInt := e52
      replace e53 : (f47 21).toInt = (f 21).toInt := e53
      replace e54 : (f47 15).toInt = (f 15).toInt := e54
      replace e55 : (f47 20).toInt = (f 20).toInt := e55
      replace e56 : (f47 4).toInt = (f 4).toInt := e56
      replace hw : pw D A s.heap H locs [wd_Prg cs hp rp (fun k => if k = 2 then of else none) fp (fun _ _ => 0) (fun _ _ => none), nA cs of fn fd, wd_Txp cs h r (fun k => if k = 3 then (some hp) else none) f47 a48 g] := hw
      have lv50 := Int32.le_toInt v50
      have uv50 := Int32.toInt_lt v50
      refine lv_if_eq (tgt := 120) S.x S.b d_Txp_flow_112 (by decide) (fun c58 => ?_) (fun c58 => ?_)
      · have nc58 : v50.toInt = (0 : Int) := (i_eq (x := v50) (y := 0)).mp c58
        refine lv_bipush (v := 18) S.x S.b d_Txp_flow_120 (by decide) ?_
        refine lv_istore (lv' := [(4, .int 18), (0, .ref h), (1, .int p0), (2, .int p1), (3, .int p2)]) S.x S.b d_Txp_flow_122 hl (by decide) rfl (fun ls hl => ?_)
        refine lv_iload S.x S.b d_Txp_flow_124 (lv_at hl 0 rfl) ?_
        refine lv_iload_n S.x S.b d_Txp_flow_126 rfl (lv_at hl 2 rfl) ?_
        refine lv_icmp_ne (tgt := 236) S.x S.b d_Txp_flow_127 (by decide) (fun c59 => ?_) (fun c59 => ?_)
        · have nc59 : ¬ (18 : Int) = p0.toInt := mt (i_eq (x := 18) (y := p0)).mpr c59
          have hw : pw D A s.heap _ _ [wd_Txp cs h r (fun k => if k = 3 then (some hp) else none) f47 a48 g, wd_Prg cs hp rp (fun k => if k = 2 then of else none) fp (fun _ _ => 0) (fun _ _ => none), nA cs of fn fd] := hw.sub [2, 0, 1] rfl rfl
          exact px_vret S hr hlk hAe hw (Nat.le_of_ble_eq_true rfl) (Nat.le_of_ble_eq_true rfl) (⟨f47, a48, rfl, (show TxOk (f47 4) (f47 5) (f47 8) (f47 9) (f47 17) (f47 21) (a48 2) from ⟨lk, ⟨by first | exact i2 | omega, by first | exact i3 | omega⟩, ⟨by first | exact i4 | omega, by first | exact i5 | omega⟩, ⟨by first | exact i6 | omega, by first | exact i7 | omega⟩, by first | exact i8 | omega, ⟨by first | exact i9 | omega, by first | exact i11 | omega⟩, by first | exact i10 | omega, hrt⟩), (show (f47 17).toInt = (f 17).toInt from by first | exact e52 | omega), (show (f47 15).toInt = (f 15).toInt from by first | exact e54 | omega), (show (f47 20).toInt = (f 20).toInt from by first | exact e55 | omega)⟩) d_Txp_flow_236
        · have nc59 : (18 : Int) = p0.toInt := (i_eq (x := 18) (y := p0)).mp c59
          refine lv_aload_n S.x S.b d_Txp_flow_130 rfl (lv_at hl 1 rfl) ?_
          refine lv_iload_n S.x S.b d_Txp_flow_131 rfl (lv_at hl 2 rfl) ?_
          refine lv_bipush (v := 19) S.x S.b d_Txp_flow_132 (by decide) ?_
          refine lv_icmp_ne (tgt := 141) S.x S.b d_Txp_flow_134 (by decide) (fun c60 => ?_) (fun c60 => ?_)
          · have nc60 : ¬ p0.toInt = (19 : Int) := mt (i_eq (x := p0) (y := 19)).mpr c60
            refine lv_iconst (v := 0) S.x S.b d_Txp_flow_141 (by decide) ?_
            refine px_callv (pr := [wd_Prg cs hp rp (fun k => if k = 2 then of else none) fp (fun _ _ => 0) (fun _ _ => none), nA cs of fn fd]) (px_runV (As := [.int 0]) (rest := []) S (c_Txp_push l D cs h r g hp f47 a48 0  (show TxOk (f47 4) (f47 5) (f47 8) (f47 9) (f47 17) (f47 21) (a48 2) from ⟨lk, ⟨by first | exact i2 | omega, by first | exact i3 | omega⟩, ⟨by first | exact i4 | omega, by first | exact i5 | omega⟩, ⟨by first | exact i6 | omega, by first | exact i7 | omega⟩, by first | exact i8 | omega, ⟨by first | exact i9 | omega, by first | exact i11 | omega⟩, by first | exact i10 | omega, hrt⟩) _) hT (pr := [wd_Prg cs hp rp (fun k => if k = 2 then of else none) fp (fun _ _ => 0) (fun _ _ => none), nA cs of fn fd]) (pcs := [wd_Txp cs h r (fun k => if k = 3 then (some hp) else none) f47 a48 g]) hw px_X.tt (px_recv hT hw 2 0 rfl rfl rfl) m8_47 m8_44 m8_46 ms_5_6 m1_35 q_Txp_push ⟨Nat.le_of_ble_eq_true rfl, Nat.le_of_ble_eq_true rfl⟩ hl.1 rfl (Nat.le_of_ble_eq_true rfl) d_Txp_flow_142 ⟨Nat.le_of_ble_eq_true rfl, Nat.le_of_ble_eq_true rfl⟩) hw hA (fun p63 H locs hp63 hw => ?_)
            obtain ⟨f61, a62, rfl, h71, e65, e66, e67, e68, e69, e70⟩ := hp63
            obtain ⟨lk, ⟨i2, i3⟩, ⟨i4, i5⟩, ⟨i6, i7⟩, i8, ⟨i9, i11⟩, i10, hrt⟩ := h71
            replace e65 : (f61 9).toInt = (f47 9).toInt := e65
            replace e66 : (f61 17).toInt = (f47 17).toInt := e66
            replace e67 : (f61 21).toInt = (f47 21).toInt := e67
            replace e68 : (f61 15).toInt = (f47 15).toInt := e68
            replace e69 : (f61 20).toInt = (f47 20).toInt := e69
            replace e70 : (f61 4).toInt = (f47 4).toInt := e70
            replace hw : pw D A s.heap H locs [wd_Prg cs hp rp (fun k => if k = 2 then of else none) fp (fun _ _ => 0) (fun _ _ => none), nA cs of fn fd, wd_Txp cs h r (fun k => if k = 3 then (some hp) else none) f61 a62 g] := hw
            refine lv_aload_n S.x S.b d_Txp_flow_145 rfl (lv_at hl 1 rfl) ?_
            refine lv_iload_n S.x S.b d_Txp_flow_146 rfl (lv_at hl 3 rfl) ?_
            refine px_put S k_Txp hT hw 2 0 4 rfl rfl (by decide) m6_217 rfl rfl rfl (Nat.le_of_ble_eq_true rfl) d_Txp_flow_147 (w' := wd_Txp cs h r (fun k => if k = 3 then (some hp) else none) (upd f61 4 p1) a62 g) (ps' := [wd_Prg cs hp rp (fun k => if k = 2 then of else none) fp (fun _ _ => 0) (fun _ _ => none), nA cs of fn fd, wd_Txp cs h r (fun k => if k = 3 then (some hp) else none) (upd f61 4 p1) a62 g]) rfl rfl (fun H locs hw => ?_)
            refine lv_goto (tgt := 236) S.x S.b d_Txp_flow_150 (by decide) ?_
            have hw : pw D A s.heap _ _ [wd_Txp cs h r (fun k => if k = 3 then (some hp) else none) (upd f61 4 p1) a62 g, wd_Prg cs hp rp (fun k => if k = 2 then of else none) fp (fun _ _ => 0) (fun _ _ => none), nA cs of fn fd] := hw.sub [2, 0, 1] rfl rfl
            exact px_vret S hr hlk hAe hw (Nat.le_of_ble_eq_true rfl) (Nat.le_of_ble_eq_true rfl) (⟨(upd f61 4 p1), a62, rfl, (show TxOk p1 (f61 5) (f61 8) (f61 9) (f61 17) (f61 21) (a62 2) from ⟨hlka (by omega) (by omega), ⟨by first | exact i2 | omega, by first | exact i3 | omega⟩, ⟨by first | exact i4 | omega, by first | exact i5 | omega⟩, ⟨by first | exact i6 | omega, by first | exact i7 | omega⟩, by first | exact i8 | omega, ⟨by first | exact i9 | omega, by first | exact i11 | omega⟩, by first | exact i10 | omega, hrt⟩), (show (f61 17).toInt = (f 17).toInt from by first | exact oz_1687f4cc65 e52 e66 | omega), (show (f61 15).toInt = (f 15).toInt from by first | exact oz_1687f4cc65 e54 e68 | omega), (show (f61 20).toInt = (f 20).toInt from by first | exact oz_1687f4cc65 e55 e69 | omega)⟩) d_Txp_flow_236
          · have nc60 : p0.toInt = (19 : Int) := (i_eq (x := p0) (y := 19)).mp c60
            refine lv_iconst (v := 1) S.x S.b d_Txp_flow_137 (by decide) ?_
            refine lv_goto (tgt := 142) S.x S.b d_Txp_flow_138 (by decide) ?_
            refine px_callv (pr := [wd_Prg cs hp rp (fun k => if k = 2 then of else none) fp (fun _ _ => 0) (fun _ _ => none), nA cs of fn fd]) (px_runV (As := [.int 1]) (rest := []) S (c_Txp_push l D cs h r g hp f47 a48 1  (show TxOk (f47 4) (f47 5) (f47 8) (f47 9) (f47 17) (f47 21) (a48 2) from ⟨lk, ⟨by first | exact i2 | omega, by first | exact i3 | omega⟩, ⟨by first | exact i4 | omega, by first | exact i5 | omega⟩, ⟨by first | exact i6 | omega, by first | exact i7 | omega⟩, by first | exact i8 | omega, ⟨by first | exact i9 | omega, by first | exact i11 | omega⟩, by first | exact i10 | omega, hrt⟩) _) hT (pr := [wd_Prg cs hp rp (fun k => if k = 2 then of else none) fp (fun _ _ => 0) (fun _ _ => none), nA cs of fn fd]) (pcs := [wd_Txp cs h r (fun k => if k = 3 then (some hp) else none) f47 a48 g]) hw px_X.tt (px_recv hT hw 2 0 rfl rfl rfl) m8_47 m8_44 m8_46 ms_5_6 m1_35 q_Txp_push ⟨Nat.le_of_ble_eq_true rfl, Nat.le_of_ble_eq_true rfl⟩ hl.1 rfl (Nat.le_of_ble_eq_true rfl) d_Txp_flow_142 ⟨Nat.le_of_ble_eq_true rfl, Nat.le_of_ble_eq_true rfl⟩) hw hA (fun p74 H locs hp74 hw => ?_)
            obtain ⟨f72, a73, rfl, h82, e76, e77, e78, e79, e80, e81⟩ := hp74
            obtain ⟨lk, ⟨i2, i3⟩, ⟨i4, i5⟩, ⟨i6, i7⟩, i8, ⟨i9, i11⟩, i10, hrt⟩ := h82
            replace e76 : (f72 9).toInt = (f47 9).toInt := e76
            replace e77 : (f72 17).toInt = (f47 17).toInt := e77
            replace e78 : (f72 21).toInt = (f47 21).toInt := e78
            replace e79 : (f72 15).toInt = (f47 15).toInt := e79
            replace e80 : (f72 20).toInt = (f47 20).toInt := e80
            replace e81 : (f72 4).toInt = (f47 4).toInt := e81
            replace hw : pw D A s.heap H locs [wd_Prg cs hp rp (fun k => if k = 2 then of else none) fp (fun _ _ => 0) (fun _ _ => none), nA cs of fn fd, wd_Txp cs h r (fun k => if k = 3 then (some hp) else none) f72 a73 g] := hw
            refine lv_aload_n S.x S.b d_Txp_flow_145 rfl (lv_at hl 1 rfl) ?_
            refine lv_iload_n S.x S.b d_Txp_flow_146 rfl (lv_at hl 3 rfl) ?_
            refine px_put S k_Txp hT hw 2 0 4 rfl rfl (by decide) m6_217 rfl rfl rfl (Nat.le_of_ble_eq_true rfl) d_Txp_flow_147 (w' := wd_Txp cs h r (fun k => if k = 3 then (some hp) else none) (upd f72 4 p1) a73 g) (ps' := [wd_Prg cs hp rp (fun k => if k = 2 then of else none) fp (fun _ _ => 0) (fun _ _ => none), nA cs of fn fd, wd_Txp cs h r (fun k => if k = 3 then (some hp) else none) (upd f72 4 p1) a73 g]) rfl rfl (fun H locs hw => ?_)
            refine lv_goto (tgt := 236) S.x S.b d_Txp_flow_150 (by decide) ?_
            have hw : pw D A s.heap _ _ [wd_Txp cs h r (fun k => if k = 3 then (some hp) else none) (upd f72 4 p1) a73 g, wd_Prg cs hp rp (fun k => if k = 2 then of else none) fp (fun _ _ => 0) (fun _ _ => none), nA cs of fn fd] := hw.sub [2, 0, 1] rfl rfl
            exact px_vret S hr hlk hAe hw (Nat.le_of_ble_eq_true rfl) (Nat.le_of_ble_eq_true rfl) (⟨(upd f72 4 p1), a73, rfl, (show TxOk p1 (f72 5) (f72 8) (f72 9) (f72 17) (f72 21) (a73 2) from ⟨hlka (by omega) (by omega), ⟨by first | exact i2 | omega, by first | exact i3 | omega⟩, ⟨by first | exact i4 | omega, by first | exact i5 | omega⟩, ⟨by first | exact i6 | omega, by first | exact i7 | omega⟩, by first | exact i8 | omega, ⟨by first | exact i9 | omega, by first | exact i11 | omega⟩, by first | exact i10 | omega, hrt⟩), (show (f72 17).toInt = (f 17).toInt from by first | exact oz_1687f4cc65 e52 e77 | omega), (show (f72 15).toInt = (f 15).toInt from by first | exact oz_1687f4cc65 e54 e79 | omega), (show (f72 20).toInt = (f 20).toInt from by first | exact oz_1687f4cc65 e55 e80 | omega)⟩) d_Txp_flow_236
      · have nc58 : ¬ v50.toInt = (0 : Int) := mt (i_eq (x := v50) (y := 0)).mpr c58
        refine lv_bipush (v := 19) S.x S.b d_Txp_flow_115 (by decide) ?_
        refine lv_goto (tgt := 122) S.x S.b d_Txp_flow_117 (by decide) ?_
        refine lv_istore (lv' := [(4, .int 19), (0, .ref h), (1, .int p0), (2, .int p1), (3, .int p2)]) S.x S.b d_Txp_flow_122 hl (by decide) rfl (fun ls hl => ?_)
        refine lv_iload S.x S.b d_Txp_flow_124 (lv_at hl 0 rfl) ?_
        refine lv_iload_n S.x S.b d_Txp_flow_126 rfl (lv_at hl 2 rfl) ?_
        refine lv_icmp_ne (tgt := 236) S.x S.b d_Txp_flow_127 (by decide) (fun c83 => ?_) (fun c83 => ?_)
        · have nc83 : ¬ (19 : Int) = p0.toInt := mt (i_eq (x := 19) (y := p0)).mpr c83
          have hw : pw D A s.heap _ _ [wd_Txp cs h r (fun k => if k = 3 then (some hp) else none) f47 a48 g, wd_Prg cs hp rp (fun k => if k = 2 then of else none) fp (fun _ _ => 0) (fun _ _ => none), nA cs of fn fd] := hw.sub [2, 0, 1] rfl rfl
          exact px_vret S hr hlk hAe hw (Nat.le_of_ble_eq_true rfl) (Nat.le_of_ble_eq_true rfl) (⟨f47, a48, rfl, (show TxOk (f47 4) (f47 5) (f47 8) (f47 9) (f47 17) (f47 21) (a48 2) from ⟨lk, ⟨by first | exact i2 | omega, by first | exact i3 | omega⟩, ⟨by first | exact i4 | omega, by first | exact i5 | omega⟩, ⟨by first | exact i6 | omega, by first | exact i7 | omega⟩, by first | exact i8 | omega, ⟨by first | exact i9 | omega, by first | exact i11 | omega⟩, by first | exact i10 | omega, hrt⟩), (show (f47 17).toInt = (f 17).toInt from by first | exact e52 | omega), (show (f47 15).toInt = (f 15).toInt from by first | exact e54 | omega), (show (f47 20).toInt = (f 20).toInt from by first | exact e55 | omega)⟩) d_Txp_flow_236
        · have nc83 : (19 : Int) = p0.toInt := (i_eq (x := 19) (y := p0)).mp c83
          refine lv_aload_n S.x S.b d_Txp_flow_130 rfl (lv_at hl 1 rfl) ?_
          refine lv_iload_n S.x S.b d_Txp_flow_131 rfl (lv_at hl 2 rfl) ?_
          refine lv_bipush (v := 19) S.x S.b d_Txp_flow_132 (by decide) ?_
          refine lv_icmp_ne (tgt := 141) S.x S.b d_Txp_flow_134 (by decide) (fun c84 => ?_) (fun c84 => ?_)
          · have nc84 : ¬ p0.toInt = (19 : Int) := mt (i_eq (x := p0) (y := 19)).mpr c84
            refine lv_iconst (v := 0) S.x S.b d_Txp_flow_141 (by decide) ?_
            refine px_callv (pr := [wd_Prg cs hp rp (fun k => if k = 2 then of else none) fp (fun _ _ => 0) (fun _ _ => none), nA cs of fn fd]) (px_runV (As := [.int 0]) (rest := []) S (c_Txp_push l D cs h r g hp f47 a48 0  (show TxOk (f47 4) (f47 5) (f47 8) (f47 9) (f47 17) (f47 21) (a48 2) from ⟨lk, ⟨by first | exact i2 | omega, by first | exact i3 | omega⟩, ⟨by first | exact i4 | omega, by first | exact i5 | omega⟩, ⟨by first | exact i6 | omega, by first | exact i7 | omega⟩, by first | exact i8 | omega, ⟨by first | exact i9 | omega, by first | exact i11 | omega⟩, by first | exact i10 | omega, hrt⟩) _) hT (pr := [wd_Prg cs hp rp (fun k => if k = 2 then of else none) fp (fun _ _ => 0) (fun _ _ => none), nA cs of fn fd]) (pcs := [wd_Txp cs h r (fun k => if k = 3 then (some hp) else none) f47 a48 g]) hw px_X.tt (px_recv hT hw 2 0 rfl rfl rfl) m8_47 m8_44 m8_46 ms_5_6 m1_35 q_Txp_push ⟨Nat.le_of_ble_eq_true rfl, Nat.le_of_ble_eq_true rfl⟩ hl.1 rfl (Nat.le_of_ble_eq_true rfl) d_Txp_flow_142 ⟨Nat.le_of_ble_eq_true rfl, Nat.le_of_ble_eq_true rfl⟩) hw hA (fun p87 H locs hp87 hw => ?_)
            obtain ⟨f85, a86, rfl, h95, e89, e90, e91, e92, e93, e94⟩ := hp87
            obtain ⟨lk, ⟨i2, i3⟩, ⟨i4, i5⟩, ⟨i6, i7⟩, i8, ⟨i9, i11⟩, i10, hrt⟩ := h95
            replace e89 : (f85 9).toInt = (f47 9).toInt := e89
            replace e90 : (f85 17).toInt = (f47 17).toInt := e90
            replace e91 : (f85 21).toInt = (f47 21).toInt := e91
            replace e92 : (f85 15).toInt = (f47 15).toInt := e92
            replace e93 : (f85 20).toInt = (f47 20).toInt := e93
            replace e94 : (f85 4).toInt = (f47 4).toInt := e94
            replace hw : pw D A s.heap H locs [wd_Prg cs hp rp (fun k => if k = 2 then of else none) fp (fun _ _ => 0) (fun _ _ => none), nA cs of fn fd, wd_Txp cs h r (fun k => if k = 3 then (some hp) else none) f85 a86 g] := hw
            refine lv_aload_n S.x S.b d_Txp_flow_145 rfl (lv_at hl 1 rfl) ?_
            refine lv_iload_n S.x S.b d_Txp_flow_146 rfl (lv_at hl 3 rfl) ?_
            refine px_put S k_Txp hT hw 2 0 4 rfl rfl (by decide) m6_217 rfl rfl rfl (Nat.le_of_ble_eq_true rfl) d_Txp_flow_147 (w' := wd_Txp cs h r (fun k => if k = 3 then (some hp) else none) (upd f85 4 p1) a86 g) (ps' := [wd_Prg cs hp rp (fun k => if k = 2 then of else none) fp (fun _ _ => 0) (fun _ _ => none), nA cs of fn fd, wd_Txp cs h r (fun k => if k = 3 then (some hp) else none) (upd f85 4 p1) a86 g]) rfl rfl (fun H locs hw => ?_)
            refine lv_goto (tgt := 236) S.x S.b d_Txp_flow_150 (by decide) ?_
            have hw : pw D A s.heap _ _ [wd_Txp cs h r (fun k => if k = 3 then (some hp) else none) (upd f85 4 p1) a86 g, wd_Prg cs hp rp (fun k => if k = 2 then of else none) fp (fun _ _ => 0) (fun _ _ => none), nA cs of fn fd] := hw.sub [2, 0, 1] rfl rfl
            exact px_vret S hr hlk hAe hw (Nat.le_of_ble_eq_true rfl) (Nat.le_of_ble_eq_true rfl) (⟨(upd f85 4 p1), a86, rfl, (show TxOk p1 (f85 5) (f85 8) (f85 9) (f85 17) (f85 21) (a86 2) from ⟨hlka (by omega) (by omega), ⟨by first | exact i2 | omega, by first | exact i3 | omega⟩, ⟨by first | exact i4 | omega, by first | exact i5 | omega⟩, ⟨by first | exact i6 | omega, by first | exact i7 | omega⟩, by first | exact i8 | omega, ⟨by first | exact i9 | omega, by first | exact i11 | omega⟩, by first | exact i10 | omega, hrt⟩), (show (f85 17).toInt = (f 17).toInt from by first | exact oz_1687f4cc65 e52 e90 | omega), (show (f85 15).toInt = (f 15).toInt from by first | exact oz_1687f4cc65 e54 e92 | omega), (show (f85 20).toInt = (f 20).toInt from by first | exact oz_1687f4cc65 e55 e93 | omega)⟩) d_Txp_flow_236
          · have nc84 : p0.toInt = (19 : Int) := (i_eq (x := p0) (y := 19)).mp c84
            refine lv_iconst (v := 1) S.x S.b d_Txp_flow_137 (by decide) ?_
            refine lv_goto (tgt := 142) S.x S.b d_Txp_flow_138 (by decide) ?_
            refine px_callv (pr := [wd_Prg cs hp rp (fun k => if k = 2 then of else none) fp (fun _ _ => 0) (fun _ _ => none), nA cs of fn fd]) (px_runV (As := [.int 1]) (rest := []) S (c_Txp_push l D cs h r g hp f47 a48 1  (show TxOk (f47 4) (f47 5) (f47 8) (f47 9) (f47 17) (f47 21) (a48 2) from ⟨lk, ⟨by first | exact i2 | omega, by first | exact i3 | omega⟩, ⟨by first | exact i4 | omega, by first | exact i5 | omega⟩, ⟨by first | exact i6 | omega, by first | exact i7 | omega⟩, by first | exact i8 | omega, ⟨by first | exact i9 | omega, by first | exact i11 | omega⟩, by first | exact i10 | omega, hrt⟩) _) hT (pr := [wd_Prg cs hp rp (fun k => if k = 2 then of else none) fp (fun _ _ => 0) (fun _ _ => none), nA cs of fn fd]) (pcs := [wd_Txp cs h r (fun k => if k = 3 then (some hp) else none) f47 a48 g]) hw px_X.tt (px_recv hT hw 2 0 rfl rfl rfl) m8_47 m8_44 m8_46 ms_5_6 m1_35 q_Txp_push ⟨Nat.le_of_ble_eq_true rfl, Nat.le_of_ble_eq_true rfl⟩ hl.1 rfl (Nat.le_of_ble_eq_true rfl) d_Txp_flow_142 ⟨Nat.le_of_ble_eq_true rfl, Nat.le_of_ble_eq_true rfl⟩) hw hA (fun p98 H locs hp98 hw => ?_)
            obtain ⟨f96, a97, rfl, h106, e100, e101, e102, e103, e104, e105⟩ := hp98
            obtain ⟨lk, ⟨i2, i3⟩, ⟨i4, i5⟩, ⟨i6, i7⟩, i8, ⟨i9, i11⟩, i10, hrt⟩ := h106
            replace e100 : (f96 9).toInt = (f47 9).toInt := e100
            replace e101 : (f96 17).toInt = (f47 17).toInt := e101
            replace e102 : (f96 21).toInt = (f47 21).toInt := e102
            replace e103 : (f96 15).toInt = (f47 15).toInt := e103
            replace e104 : (f96 20).toInt = (f47 20).toInt := e104
            replace e105 : (f96 4).toInt = (f47 4).toInt := e105
            replace hw : pw D A s.heap H locs [wd_Prg cs hp rp (fun k => if k = 2 then of else none) fp (fun _ _ => 0) (fun _ _ => none), nA cs of fn fd, wd_Txp cs h r (fun k => if k = 3 then (some hp) else none) f96 a97 g] := hw
            refine lv_aload_n S.x S.b d_Txp_flow_145 rfl (lv_at hl 1 rfl) ?_
            refine lv_iload_n S.x S.b d_Txp_flow_146 rfl (lv_at hl 3 rfl) ?_
            refine px_put S k_Txp hT hw 2 0 4 rfl rfl (by decide) m6_217 rfl rfl rfl (Nat.le_of_ble_eq_true rfl) d_Txp_flow_147 (w' := wd_Txp cs h r (fun k => if k = 3 then (some hp) else none) (upd f96 4 p1) a97 g) (ps' := [wd_Prg cs hp rp (fun k => if k = 2 then of else none) fp (fun _ _ => 0) (fun _ _ => none), nA cs of fn fd, wd_Txp cs h r (fun k => if k = 3 then (some hp) else none) (upd f96 4 p1) a97 g]) rfl rfl (fun H locs hw => ?_)
            refine lv_goto (tgt := 236) S.x S.b d_Txp_flow_150 (by decide) ?_
            have hw : pw D A s.heap _ _ [wd_Txp cs h r (fun k => if k = 3 then (some hp) else none) (upd f96 4 p1) a97 g, wd_Prg cs hp rp (fun k => if k = 2 then of else none) fp (fun _ _ => 0) (fun _ _ => none), nA cs of fn fd] := hw.sub [2, 0, 1] rfl rfl
            exact px_vret S hr hlk hAe hw (Nat.le_of_ble_eq_true rfl) (Nat.le_of_ble_eq_true rfl) (⟨(upd f96 4 p1), a97, rfl, (show TxOk p1 (f96 5) (f96 8) (f96 9) (f96 17) (f96 21) (a97 2) from ⟨hlka (by omega) (by omega), ⟨by first | exact i2 | omega, by first | exact i3 | omega⟩, ⟨by first | exact i4 | omega, by first | exact i5 | omega⟩, ⟨by first | exact i6 | omega, by first | exact i7 | omega⟩, by first | exact i8 | omega, ⟨by first | exact i9 | omega, by first | exact i11 | omega⟩, by first | exact i10 | omega, hrt⟩), (show (f96 17).toInt = (f 17).toInt from by first | exact oz_1687f4cc65 e52 e101 | omega), (show (f96 15).toInt = (f 15).toInt from by first | exact oz_1687f4cc65 e54 e103 | omega), (show (f96 20).toInt = (f 20).toInt from by first | exact oz_1687f4cc65 e55 e104 | omega)⟩) d_Txp_flow_236
    · simp only [List.mem_cons, List.not_mem_nil, or_false] at c22
      refine lv_aload_n S.x S.b d_Txp_flow_153 rfl (lv_at hl 0 rfl) ?_
      have hw : pw D A s.heap _ _ [wd_Prg cs hp rp (fun k => if k = 2 then of else none) fp (fun _ _ => 0) (fun _ _ => none), nA cs of fn fd, wd_Txp cs h r (fun k => if k = 3 then (some hp) else none) f a g] := hw.sub [1, 2, 0] rfl rfl
      refine px_calli (pr := [wd_Prg cs hp rp (fun k => if k = 2 then of else none) fp (fun _ _ => 0) (fun _ _ => none), nA cs of fn fd]) (px_runV (As := []) (rest := []) S (c_Txp_pop l D cs h r g hp f a   (show TxOk (f 4) (f 5) (f 8) (f 9) (f 17) (f 21) (a 2) from ⟨lk, ⟨by first | exact i2 | omega, by first | exact i3 | omega⟩, ⟨by first | exact i4 | omega, by first | exact i5 | omega⟩, ⟨by first | exact i6 | omega, by first | exact i7 | omega⟩, by first | exact i8 | omega, ⟨by first | exact i9 | omega, by first | exact i11 | omega⟩, by first | exact i10 | omega, hrt⟩) _) hT (pr := [wd_Prg cs hp rp (fun k => if k = 2 then of else none) fp (fun _ _ => 0) (fun _ _ => none), nA cs of fn fd]) (pcs := [wd_Txp cs h r (fun k => if k = 3 then (some hp) else none) f a g]) hw px_X.tt (px_recv hT hw 2 0 rfl rfl rfl) m9_15 m9_12 m9_14 ms_7_0 m1_35 q_Txp_pop ⟨Nat.le_of_ble_eq_true rfl, Nat.le_of_ble_eq_true rfl⟩ hl.1 rfl (Nat.le_of_ble_eq_true rfl) d_Txp_flow_154 ⟨Nat.le_of_ble_eq_true rfl, Nat.le_of_ble_eq_true rfl⟩) hw hA (fun v110 p109 H locs hp109 hw => ?_)
      obtain ⟨f107, a108, rfl, h117, e111, e112, e113, e114, e115, e116⟩ := hp109
      obtain ⟨lk, ⟨i2, i3⟩, ⟨i4, i5⟩, ⟨i6, i7⟩, i8, ⟨i9, i11⟩, i10, hrt⟩ := h117
      replace e111 : (f107 9).toInt = (f 9).toInt := e111
      replace e112 : (f107 17).toInt = (f 17).toInt := e112
      replace e113 : (f107 21).toInt = (f 21).toInt := e113
      replace e114 : (f107 15).toInt = (f 15).toInt := e114
      replace e115 : (f107 20).toInt = (f 20).toInt := e115
      replace e116 : (f107 4).toInt = (f 4).toInt := e116
      replace hw : pw D A s.heap H locs [wd_Prg cs hp rp (fun k => if k = 2 then of else none) fp (fun _ _ => 0) (fun _ _ => none), nA cs of fn fd, wd_Txp cs h r (fun k => if k = 3 then (some hp) else none) f107 a108 g] := hw
      have lv110 := Int32.le_toInt v110
      have uv110 := Int32.toInt_lt v110
      refine lv_istore (lv' := [(5, .int v110), (0, .ref h), (1, .int p0), (2, .int p1), (3, .int p2)]) S.x S.b d_Txp_flow_157 hl (by decide) rfl (fun ls hl => ?_)
      refine lv_iload S.x S.b d_Txp_flow_159 (lv_at hl 0 rfl) ?_
      refine lv_iload_n S.x S.b d_Txp_flow_161 rfl (lv_at hl 4 rfl) ?_
      refine lv_icmp_ne (tgt := 173) S.x S.b d_Txp_flow_162 (by decide) (fun c118 => ?_) (fun c118 => ?_)
      · have nc118 : ¬ v110.toInt = p2.toInt := mt (i_eq (x := v110) (y := p2)).mpr c118
        refine lv_aload_n S.x S.b d_Txp_flow_173 rfl (lv_at hl 1 rfl) ?_
        refine lv_iload S.x S.b d_Txp_flow_174 (lv_at hl 0 rfl) ?_
        refine px_callv (pr := [wd_Prg cs hp rp (fun k => if k = 2 then of else none) fp (fun _ _ => 0) (fun _ _ => none), nA cs of fn fd]) (px_runV (As := [.int v110]) (rest := []) S (c_Txp_push l D cs h r g hp f107 a108 v110  (show TxOk (f107 4) (f107 5) (f107 8) (f107 9) (f107 17) (f107 21) (a108 2) from ⟨lk, ⟨by first | exact i2 | omega, by first | exact i3 | omega⟩, ⟨by first | exact i4 | omega, by first | exact i5 | omega⟩, ⟨by first | exact i6 | omega, by first | exact i7 | omega⟩, by first | exact i8 | omega, ⟨by first | exact i9 | omega, by first | exact i11 | omega⟩, by first | exact i10 | omega, hrt⟩) _) hT (pr := [wd_Prg cs hp rp (fun k => if k = 2 then of else none) fp (fun _ _ => 0) (fun _ _ => none), nA cs of fn fd]) (pcs := [wd_Txp cs h r (fun k => if k = 3 then (some hp) else none) f107 a108 g]) hw px_X.tt (px_recv hT hw 2 0 rfl rfl rfl) m8_47 m8_44 m8_46 ms_5_6 m1_35 q_Txp_push ⟨Nat.le_of_ble_eq_true rfl, Nat.le_of_ble_eq_true rfl⟩ hl.1 rfl (Nat.le_of_ble_eq_true rfl) d_Txp_flow_176 ⟨Nat.le_of_ble_eq_true rfl, Nat.le_of_ble_eq_true rfl⟩) hw hA (fun p121 H locs hp121 hw => ?_)
        obtain ⟨f119, a120, rfl, h129, e123, e124, e125, e126, e127, e128⟩ := hp121
        obtain ⟨lk, ⟨i2, i3⟩, ⟨i4, i5⟩, ⟨i6, i7⟩, i8, ⟨i9, i11⟩, i10, hrt⟩ := h129
        replace e123 : (f119 9).toInt = (f107 9).toInt := e123
        replace e124 : (f119 17).toInt = (f107 17).toInt := e124
        replace e125 : (f119 21).toInt = (f107 21).toInt := e125
        replace e126 : (f119 15).toInt = (f107 15).toInt := e126
        replace e127 : (f119 20).toInt = (f107 20).toInt := e127
        replace e128 : (f119 4).toInt = (f107 4).toInt := e128
        replace hw : pw D A s.heap H locs [wd_Prg cs hp rp (fun k => if k = 2 then of else none) fp (fun _ _ => 0) (fun _ _ => none), nA cs of fn fd, wd_Txp cs h r (fun k => if k = 3 then (some hp) else none) f119 a120 g] := hw
        refine lv_goto (tgt := 236) S.x S.b d_Txp_flow_179 (by decide) ?_
        have hw : pw D A s.heap _ _ [wd_Txp cs h r (fun k => if k = 3 then (some hp) else none) f119 a120 g, wd_Prg cs hp rp (fun k => if k = 2 then of else none) fp (fun _ _ => 0) (fun _ _ => none), nA cs of fn fd] := hw.sub [2, 0, 1] rfl rfl
        exact px_vret S hr hlk hAe hw (Nat.le_of_ble_eq_true rfl) (Nat.le_of_ble_eq_true rfl) (⟨f119, a120, rfl, (show TxOk (f119 4) (f119 5) (f119 8) (f119 9) (f119 17) (f119 21) (a120 2) from ⟨lk, ⟨by first | exact i2 | omega, by first | exact i3 | omega⟩, ⟨by first | exact i4 | omega, by first | exact i5 | omega⟩, ⟨by first | exact i6 | omega, by first | exact i7 | omega⟩, by first | exact i8 | omega, ⟨by first | exact i9 | omega, by first | exact i11 | omega⟩, by first | exact i10 | omega, hrt⟩), (show (f119 17).toInt = (f 17).toInt from by first | exact oz_1687f4cc65 e112 e124 | omega), (show (f119 15).toInt = (f 15).toInt from by first | exact oz_1687f4cc65 e114 e126 | omega), (show (f119 20).toInt = (f 20).toInt from by first | exact oz_1687f4cc65 e115 e127 | omega)⟩) d_Txp_flow_236
      · have nc118 : v110.toInt = p2.toInt := (i_eq (x := v110) (y := p2)).mp c118
        refine lv_aload_n S.x S.b d_Txp_flow_165 rfl (lv_at hl 1 rfl) ?_
        refine lv_iload_n S.x S.b d_Txp_flow_166 rfl (lv_at hl 3 rfl) ?_
        refine px_put S k_Txp hT hw 2 0 4 rfl rfl (by decide) m6_217 rfl rfl rfl (Nat.le_of_ble_eq_true rfl) d_Txp_flow_167 (w' := wd_Txp cs h r (fun k => if k = 3 then (some hp) else none) (upd f107 4 p1) a108 g) (ps' := [wd_Prg cs hp rp (fun k => if k = 2 then of else none) fp (fun _ _ => 0) (fun _ _ => none), nA cs of fn fd, wd_Txp cs h r (fun k => if k = 3 then (some hp) else none) (upd f107 4 p1) a108 g]) rfl rfl (fun H locs hw => ?_)
        refine lv_goto (tgt := 236) S.x S.b d_Txp_flow_170 (by decide) ?_
        have hw : pw D A s.heap _ _ [wd_Txp cs h r (fun k => if k = 3 then (some hp) else none) (upd f107 4 p1) a108 g, wd_Prg cs hp rp (fun k => if k = 2 then of else none) fp (fun _ _ => 0) (fun _ _ => none), nA cs of fn fd] := hw.sub [2, 0, 1] rfl rfl
        exact px_vret S hr hlk hAe hw (Nat.le_of_ble_eq_true rfl) (Nat.le_of_ble_eq_true rfl) (⟨(upd f107 4 p1), a108, rfl, (show TxOk p1 (f107 5) (f107 8) (f107 9) (f107 17) (f107 21) (a108 2) from ⟨hlka (by omega) (by omega), ⟨by first | exact i2 | omega, by first | exact i3 | omega⟩, ⟨by first | exact i4 | omega, by first | exact i5 | omega⟩, ⟨by first | exact i6 | omega, by first | exact i7 | omega⟩, by first | exact i8 | omega, ⟨by first | exact i9 | omega, by first | exact i11 | omega⟩, by first | exact i10 | omega, hrt⟩), (show (f107 17).toInt = (f 17).toInt from by first | exact e112 | omega), (show (f107 15).toInt = (f 15).toInt from by first | exact e114 | omega), (show (f107 20).toInt = (f 20).toInt from by first | exact e115 | omega)⟩) d_Txp_flow_236
    · simp only [List.mem_cons, List.not_mem_nil, or_false] at c22
      refine lv_aload_n S.x S.b d_Txp_flow_182 rfl (lv_at hl 0 rfl) ?_
      have hw : pw D A s.heap _ _ [wd_Prg cs hp rp (fun k => if k = 2 then of else none) fp (fun _ _ => 0) (fun _ _ => none), nA cs of fn fd, wd_Txp cs h r (fun k => if k = 3 then (some hp) else none) f a g] := hw.sub [1, 2, 0] rfl rfl
      refine px_calli (pr := [wd_Prg cs hp rp (fun k => if k = 2 then of else none) fp (fun _ _ => 0) (fun _ _ => none), nA cs of fn fd]) (px_runV (As := []) (rest := []) S (c_Txp_pay l D cs h r g hp f a   (show TxOk (f 4) (f 5) (f 8) (f 9) (f 17) (f 21) (a 2) from ⟨lk, ⟨by first | exact i2 | omega, by first | exact i3 | omega⟩, ⟨by first | exact i4 | omega, by first | exact i5 | omega⟩, ⟨by first | exact i6 | omega, by first | exact i7 | omega⟩, by first | exact i8 | omega, ⟨by first | exact i9 | omega, by first | exact i11 | omega⟩, by first | exact i10 | omega, hrt⟩) (show (f 21).toInt = 0 from by first | exact g0 | omega) _) hT (pr := [wd_Prg cs hp rp (fun k => if k = 2 then of else none) fp (fun _ _ => 0) (fun _ _ => none), nA cs of fn fd]) (pcs := [wd_Txp cs h r (fun k => if k = 3 then (some hp) else none) f a g]) hw px_X.tt (px_recv hT hw 2 0 rfl rfl rfl) m9_19 m9_16 m9_18 ms_7_1 m1_35 q_Txp_pay ⟨Nat.le_of_ble_eq_true rfl, Nat.le_of_ble_eq_true rfl⟩ hl.1 rfl (Nat.le_of_ble_eq_true rfl) d_Txp_flow_183 ⟨Nat.le_of_ble_eq_true rfl, Nat.le_of_ble_eq_true rfl⟩) hw hA (fun v133 p132 H locs hp132 hw => ?_)
      obtain ⟨f130, a131, rfl, h141, e134, e135, e136, e137, e138, e139, e140⟩ := hp132
      obtain ⟨lk, ⟨i2, i3⟩, ⟨i4, i5⟩, ⟨i6, i7⟩, i8, ⟨i9, i11⟩, i10, hrt⟩ := h141
      have e134 := z_rng e134
      replace e135 : v133.toInt = 1 → (f130 9).toInt = (f 9).toInt - 1 := e135
      replace e136 : (f130 17).toInt = (f 17).toInt := e136
      replace e137 : (f130 21).toInt = 0 := e137
      replace e138 : (f130 15).toInt = (f 15).toInt := e138
      replace e139 : (f130 20).toInt = (f 20).toInt := e139
      replace e140 : (f130 9).toInt ≤ (f 9).toInt := e140
      replace hw : pw D A s.heap H locs [wd_Prg cs hp rp (fun k => if k = 2 then of else none) fp (fun _ _ => 0) (fun _ _ => none), nA cs of fn fd, wd_Txp cs h r (fun k => if k = 3 then (some hp) else none) f130 a131 g] := hw
      have lv133 := Int32.le_toInt v133
      have uv133 := Int32.toInt_lt v133
      refine lv_pop S.x S.b d_Txp_flow_186 rfl ?_
      refine lv_goto (tgt := 236) S.x S.b d_Txp_flow_187 (by decide) ?_
      have hw : pw D A s.heap _ _ [wd_Txp cs h r (fun k => if k = 3 then (some hp) else none) f130 a131 g, wd_Prg cs hp rp (fun k => if k = 2 then of else none) fp (fun _ _ => 0) (fun _ _ => none), nA cs of fn fd] := hw.sub [2, 0, 1] rfl rfl
      exact px_vret S hr hlk hAe hw (Nat.le_of_ble_eq_true rfl) (Nat.le_of_ble_eq_true rfl) (⟨f130, a131, rfl, (show TxOk (f130 4) (f130 5) (f130 8) (f130 9) (f130 17) (f130 21) (a131 2) from ⟨lk, ⟨by first | exact i2 | omega, by first | exact i3 | omega⟩, ⟨by first | exact i4 | omega, by first | exact i5 | omega⟩, ⟨by first | exact i6 | omega, by first | exact i7 | omega⟩, by first | exact i8 | omega, ⟨by first | exact i9 | omega, by first | exact i11 | omega⟩, by first | exact i10 | omega, hrt⟩), (show (f130 17).toInt = (f 17).toInt from by first | exact e136 | omega), (show (f130 15).toInt = (f 15).toInt from by first | exact e138 | omega), (show (f130 20).toInt = (f 20).toInt from by first | exact e139 | omega)⟩) d_Txp_flow_236
    · simp only [List.mem_cons, List.not_mem_nil, or_false] at c22
      refine lv_aload_n S.x S.b d_Txp_flow_190 rfl (lv_at hl 0 rfl) ?_
      have hw : pw D A s.heap _ _ [wd_Prg cs hp rp (fun k => if k = 2 then of else none) fp (fun _ _ => 0) (fun _ _ => none), nA cs of fn fd, wd_Txp cs h r (fun k => if k = 3 then (some hp) else none) f a g] := hw.sub [1, 2, 0] rfl rfl
      refine px_calli (pr := [wd_Prg cs hp rp (fun k => if k = 2 then of else none) fp (fun _ _ => 0) (fun _ _ => none), nA cs of fn fd]) (px_runV (As := []) (rest := []) S (c_Txp_pay l D cs h r g hp f a   (show TxOk (f 4) (f 5) (f 8) (f 9) (f 17) (f 21) (a 2) from ⟨lk, ⟨by first | exact i2 | omega, by first | exact i3 | omega⟩, ⟨by first | exact i4 | omega, by first | exact i5 | omega⟩, ⟨by first | exact i6 | omega, by first | exact i7 | omega⟩, by first | exact i8 | omega, ⟨by first | exact i9 | omega, by first | exact i11 | omega⟩, by first | exact i10 | omega, hrt⟩) (show (f 21).toInt = 0 from by first | exact g0 | omega) _) hT (pr := [wd_Prg cs hp rp (fun k => if k = 2 then of else none) fp (fun _ _ => 0) (fun _ _ => none), nA cs of fn fd]) (pcs := [wd_Txp cs h r (fun k => if k = 3 then (some hp) else none) f a g]) hw px_X.tt (px_recv hT hw 2 0 rfl rfl rfl) m9_19 m9_16 m9_18 ms_7_1 m1_35 q_Txp_pay ⟨Nat.le_of_ble_eq_true rfl, Nat.le_of_ble_eq_true rfl⟩ hl.1 rfl (Nat.le_of_ble_eq_true rfl) d_Txp_flow_191 ⟨Nat.le_of_ble_eq_true rfl, Nat.le_of_ble_eq_true rfl⟩) hw hA (fun v145 p144 H locs hp144 hw => ?_)
      obtain ⟨f142, a143, rfl, h153, e146, e147, e148, e149, e150, e151, e152⟩ := hp144
      obtain ⟨lk, ⟨i2, i3⟩, ⟨i4, i5⟩, ⟨i6, i7⟩, i8, ⟨i9, i11⟩, i10, hrt⟩ := h153
      have e146 := z_rng e146
      replace e147 : v145.toInt = 1 → (f142 9).toInt = (f 9).toInt - 1 := e147
      replace e148 : (f142 17).toInt = (f 17).toInt := e148
      replace e149 : (f142 21).toInt = 0 := e149
      replace e150 : (f142 15).toInt = (f 15).toInt := e150
      replace e151 : (f142 20).toInt = (f 20).toInt := e151
      replace e152 : (f142 9).toInt ≤ (f 9).toInt := e152
      replace hw : pw D A s.heap H locs [wd_Prg cs hp rp (fun k => if k = 2 then of else none) fp (fun _ _ => 0) (fun _ _ => none), nA cs of fn fd, wd_Txp cs h r (fun k => if k = 3 then (some hp) else none) f142 a143 g] := hw
      have lv145 := Int32.le_toInt v145
      have uv145 := Int32.toInt_lt v145
      refine lv_if_eq (tgt := 236) S.x S.b d_Txp_flow_194 (by decide) (fun c154 => ?_) (fun c154 => ?_)
      · have nc154 : v145.toInt = (0 : Int) := (i_eq (x := v145) (y := 0)).mp c154
        have hw : pw D A s.heap _ _ [wd_Txp cs h r (fun k => if k = 3 then (some hp) else none) f142 a143 g, wd_Prg cs hp rp (fun k => if k = 2 then of else none) fp (fun _ _ => 0) (fun _ _ => none), nA cs of fn fd] := hw.sub [2, 0, 1] rfl rfl
        exact px_vret S hr hlk hAe hw (Nat.le_of_ble_eq_true rfl) (Nat.le_of_ble_eq_true rfl) (⟨f142, a143, rfl, (show TxOk (f142 4) (f142 5) (f142 8) (f142 9) (f142 17) (f142 21) (a143 2) from ⟨lk, ⟨by first | exact i2 | omega, by first | exact i3 | omega⟩, ⟨by first | exact i4 | omega, by first | exact i5 | omega⟩, ⟨by first | exact i6 | omega, by first | exact i7 | omega⟩, by first | exact i8 | omega, ⟨by first | exact i9 | omega, by first | exact i11 | omega⟩, by first | exact i10 | omega, hrt⟩), (show (f142 17).toInt = (f 17).toInt from by first | exact e148 | omega), (show (f142 15).toInt = (f 15).toInt from by first | exact e150 | omega), (show (f142 20).toInt = (f 20).toInt from by first | exact e151 | omega)⟩) d_Txp_flow_236
      · have nc154 : ¬ v145.toInt = (0 : Int) := mt (i_eq (x := v145) (y := 0)).mpr c154
        refine lv_aload_n S.x S.b d_Txp_flow_197 rfl (lv_at hl 0 rfl) ?_
        refine lv_iload_n S.x S.b d_Txp_flow_198 rfl (lv_at hl 2 rfl) ?_
        have hw : pw D A s.heap _ _ [wd_Txp cs h r (fun k => if k = 3 then (some hp) else none) f142 a143 g, wd_Prg cs hp rp (fun k => if k = 2 then of else none) fp (fun _ _ => 0) (fun _ _ => none), nA cs of fn fd] := hw.sub [2, 0, 1] rfl rfl
        refine px_callv (pr := []) (px_runV (As := [.int p1]) (rest := []) S (c_Txp_call l D cs h r g hp f142 a143 rp of fp fn fd p1  (show TxOk (f142 4) (f142 5) (f142 8) (f142 9) (f142 17) (f142 21) (a143 2) from ⟨lk, ⟨by first | exact i2 | omega, by first | exact i3 | omega⟩, ⟨by first | exact i4 | omega, by first | exact i5 | omega⟩, ⟨by first | exact i6 | omega, by first | exact i7 | omega⟩, by first | exact i8 | omega, ⟨by first | exact i9 | omega, by first | exact i11 | omega⟩, by first | exact i10 | omega, hrt⟩) (show (f142 21).toInt = 0 from by first | exact e149 | omega) (show 0 ≤ p1.toInt from by first | with_reducible rfl | with_reducible assumption | omega) (show p1.toInt ≤ 1000000 from by first | with_reducible rfl | with_reducible assumption | omega) (show fn ≤ 1000000 from by first | exact g1 | omega) hfd _) hT (pr := []) (pcs := [wd_Txp cs h r (fun k => if k = 3 then (some hp) else none) f142 a143 g, wd_Prg cs hp rp (fun k => if k = 2 then of else none) fp (fun _ _ => 0) (fun _ _ => none), nA cs of fn fd]) hw px_X.tt (px_recv hT hw 0 0 rfl rfl rfl) m9_23 m9_20 m9_22 ms_7_2 m1_35 q_Txp_call ⟨Nat.le_of_ble_eq_true rfl, Nat.le_of_ble_eq_true rfl⟩ hl.1 rfl (Nat.le_of_ble_eq_true rfl) d_Txp_flow_199 ⟨Nat.le_of_ble_eq_true rfl, Nat.le_of_ble_eq_true rfl⟩) hw hA (fun p157 H locs hp157 hw => ?_)
        obtain ⟨f155, a156, rfl, h164, e159, e160, e161, e162, e163⟩ := hp157
        obtain ⟨lk, ⟨i2, i3⟩, ⟨i4, i5⟩, ⟨i6, i7⟩, i8, ⟨i9, i11⟩, i10, hrt⟩ := h164
        replace e159 : (f155 9).toInt = (f142 9).toInt := e159
        replace e160 : (f155 17).toInt = (f142 17).toInt := e160
        replace e161 : (f155 21).toInt = 0 := e161
        replace e162 : (f155 15).toInt = (f142 15).toInt := e162
        replace e163 : (f155 20).toInt = (f142 20).toInt := e163
        replace hw : pw D A s.heap H locs [wd_Txp cs h r (fun k => if k = 3 then (some hp) else none) f155 a156 g, wd_Prg cs hp rp (fun k => if k = 2 then of else none) fp (fun _ _ => 0) (fun _ _ => none), nA cs of fn fd] := hw
        refine lv_goto (tgt := 236) S.x S.b d_Txp_flow_202 (by decide) ?_
        exact px_vret S hr hlk hAe hw (Nat.le_of_ble_eq_true rfl) (Nat.le_of_ble_eq_true rfl) (⟨f155, a156, rfl, (show TxOk (f155 4) (f155 5) (f155 8) (f155 9) (f155 17) (f155 21) (a156 2) from ⟨lk, ⟨by first | exact i2 | omega, by first | exact i3 | omega⟩, ⟨by first | exact i4 | omega, by first | exact i5 | omega⟩, ⟨by first | exact i6 | omega, by first | exact i7 | omega⟩, by first | exact i8 | omega, ⟨by first | exact i9 | omega, by first | exact i11 | omega⟩, by first | exact i10 | omega, hrt⟩), (show (f155 17).toInt = (f 17).toInt from by first | exact oz_1687f4cc65 e148 e160 | omega), (show (f155 15).toInt = (f 15).toInt from by first | exact oz_1687f4cc65 e150 e162 | omega), (show (f155 20).toInt = (f 20).toInt from by first | exact oz_1687f4cc65 e151 e163 | omega)⟩) d_Txp_flow_236
    · simp only [List.mem_cons, List.not_mem_nil, or_false] at c22
      refine lv_aload_n S.x S.b d_Txp_flow_205 rfl (lv_at hl 0 rfl) ?_
      have hw : pw D A s.heap _ _ [wd_Prg cs hp rp (fun k => if k = 2 then of else none) fp (fun _ _ => 0) (fun _ _ => none), nA cs of fn fd, wd_Txp cs h r (fun k => if k = 3 then (some hp) else none) f a g] := hw.sub [1, 2, 0] rfl rfl
      refine px_calli (pr := [wd_Prg cs hp rp (fun k => if k = 2 then of else none) fp (fun _ _ => 0) (fun _ _ => none), nA cs of fn fd]) (px_runV (As := []) (rest := []) S (c_Txp_pay l D cs h r g hp f a   (show TxOk (f 4) (f 5) (f 8) (f 9) (f 17) (f 21) (a 2) from ⟨lk, ⟨by first | exact i2 | omega, by first | exact i3 | omega⟩, ⟨by first | exact i4 | omega, by first | exact i5 | omega⟩, ⟨by first | exact i6 | omega, by first | exact i7 | omega⟩, by first | exact i8 | omega, ⟨by first | exact i9 | omega, by first | exact i11 | omega⟩, by first | exact i10 | omega, hrt⟩) (show (f 21).toInt = 0 from by first | exact g0 | omega) _) hT (pr := [wd_Prg cs hp rp (fun k => if k = 2 then of else none) fp (fun _ _ => 0) (fun _ _ => none), nA cs of fn fd]) (pcs := [wd_Txp cs h r (fun k => if k = 3 then (some hp) else none) f a g]) hw px_X.tt (px_recv hT hw 2 0 rfl rfl rfl) m9_19 m9_16 m9_18 ms_7_1 m1_35 q_Txp_pay ⟨Nat.le_of_ble_eq_true rfl, Nat.le_of_ble_eq_true rfl⟩ hl.1 rfl (Nat.le_of_ble_eq_true rfl) d_Txp_flow_206 ⟨Nat.le_of_ble_eq_true rfl, Nat.le_of_ble_eq_true rfl⟩) hw hA (fun v168 p167 H locs hp167 hw => ?_)
      obtain ⟨f165, a166, rfl, h176, e169, e170, e171, e172, e173, e174, e175⟩ := hp167
      obtain ⟨lk, ⟨i2, i3⟩, ⟨i4, i5⟩, ⟨i6, i7⟩, i8, ⟨i9, i11⟩, i10, hrt⟩ := h176
      have e169 := z_rng e169
      replace e170 : v168.toInt = 1 → (f165 9).toInt = (f 9).toInt - 1 := e170
      replace e171 : (f165 17).toInt = (f 17).toInt := e171
      replace e172 : (f165 21).toInt = 0 := e172
      replace e173 : (f165 15).toInt = (f 15).toInt := e173
      replace e174 : (f165 20).toInt = (f 20).toInt := e174
      replace e175 : (f165 9).toInt ≤ (f 9).toInt := e175
      replace hw : pw D A s.heap H locs [wd_Prg cs hp rp (fun k => if k = 2 then of else none) fp (fun _ _ => 0) (fun _ _ => none), nA cs of fn fd, wd_Txp cs h r (fun k => if k = 3 then (some hp) else none) f165 a166 g] := hw
      have lv168 := Int32.le_toInt v168
      have uv168 := Int32.toInt_lt v168
      refine lv_if_eq (tgt := 236) S.x S.b d_Txp_flow_209 (by decide) (fun c177 => ?_) (fun c177 => ?_)
      · have nc177 : v168.toInt = (0 : Int) := (i_eq (x := v168) (y := 0)).mp c177
        have hw : pw D A s.heap _ _ [wd_Txp cs h r (fun k => if k = 3 then (some hp) else none) f165 a166 g, wd_Prg cs hp rp (fun k => if k = 2 then of else none) fp (fun _ _ => 0) (fun _ _ => none), nA cs of fn fd] := hw.sub [2, 0, 1] rfl rfl
        exact px_vret S hr hlk hAe hw (Nat.le_of_ble_eq_true rfl) (Nat.le_of_ble_eq_true rfl) (⟨f165, a166, rfl, (show TxOk (f165 4) (f165 5) (f165 8) (f165 9) (f165 17) (f165 21) (a166 2) from ⟨lk, ⟨by first | exact i2 | omega, by first | exact i3 | omega⟩, ⟨by first | exact i4 | omega, by first | exact i5 | omega⟩, ⟨by first | exact i6 | omega, by first | exact i7 | omega⟩, by first | exact i8 | omega, ⟨by first | exact i9 | omega, by first | exact i11 | omega⟩, by first | exact i10 | omega, hrt⟩), (show (f165 17).toInt = (f 17).toInt from by first | exact e171 | omega), (show (f165 15).toInt = (f 15).toInt from by first | exact e173 | omega), (show (f165 20).toInt = (f 20).toInt from by first | exact e174 | omega)⟩) d_Txp_flow_236
      · have nc177 : ¬ v168.toInt = (0 : Int) := mt (i_eq (x := v168) (y := 0)).mpr c177
        refine lv_aload_n S.x S.b d_Txp_flow_212 rfl (lv_at hl 0 rfl) ?_
        refine lv_iload_n S.x S.b d_Txp_flow_213 rfl (lv_at hl 2 rfl) ?_
        refine px_callv (pr := [wd_Prg cs hp rp (fun k => if k = 2 then of else none) fp (fun _ _ => 0) (fun _ _ => none), nA cs of fn fd]) (px_runV (As := [.int p1]) (rest := []) S (c_Txp_ask l D cs h r g hp f165 a166 p1  (show TxOk (f165 4) (f165 5) (f165 8) (f165 9) (f165 17) (f165 21) (a166 2) from ⟨lk, ⟨by first | exact i2 | omega, by first | exact i3 | omega⟩, ⟨by first | exact i4 | omega, by first | exact i5 | omega⟩, ⟨by first | exact i6 | omega, by first | exact i7 | omega⟩, by first | exact i8 | omega, ⟨by first | exact i9 | omega, by first | exact i11 | omega⟩, by first | exact i10 | omega, hrt⟩) (show (f165 21).toInt = 0 from by first | exact e172 | omega) (show (f165 17).toInt + (f165 9).toInt ≤ 99 from by first | with_reducible rfl | with_reducible assumption | omega) _) hT (pr := [wd_Prg cs hp rp (fun k => if k = 2 then of else none) fp (fun _ _ => 0) (fun _ _ => none), nA cs of fn fd]) (pcs := [wd_Txp cs h r (fun k => if k = 3 then (some hp) else none) f165 a166 g]) hw px_X.tt (px_recv hT hw 2 0 rfl rfl rfl) m9_31 m9_28 m9_30 ms_7_3 m1_35 q_Txp_ask ⟨Nat.le_of_ble_eq_true rfl, Nat.le_of_ble_eq_true rfl⟩ hl.1 rfl (Nat.le_of_ble_eq_true rfl) d_Txp_flow_214 ⟨Nat.le_of_ble_eq_true rfl, Nat.le_of_ble_eq_true rfl⟩) hw hA (fun p180 H locs hp180 hw => ?_)
        obtain ⟨f178, a179, rfl, h187, e182, e183, e184, e185, e186⟩ := hp180
        obtain ⟨lk, ⟨i2, i3⟩, ⟨i4, i5⟩, ⟨i6, i7⟩, i8, ⟨i9, i11⟩, i10, hrt⟩ := h187
        replace e182 : (f178 9).toInt = (f165 9).toInt := e182
        replace e183 : (f178 17).toInt = (f165 17).toInt := e183
        replace e184 : (f178 21).toInt = 1 := e184
        replace e185 : (f178 15).toInt = (f165 15).toInt := e185
        replace e186 : (f178 20).toInt = (f165 20).toInt := e186
        replace hw : pw D A s.heap H locs [wd_Prg cs hp rp (fun k => if k = 2 then of else none) fp (fun _ _ => 0) (fun _ _ => none), nA cs of fn fd, wd_Txp cs h r (fun k => if k = 3 then (some hp) else none) f178 a179 g] := hw
        refine lv_goto (tgt := 236) S.x S.b d_Txp_flow_217 (by decide) ?_
        have hw : pw D A s.heap _ _ [wd_Txp cs h r (fun k => if k = 3 then (some hp) else none) f178 a179 g, wd_Prg cs hp rp (fun k => if k = 2 then of else none) fp (fun _ _ => 0) (fun _ _ => none), nA cs of fn fd] := hw.sub [2, 0, 1] rfl rfl
        exact px_vret S hr hlk hAe hw (Nat.le_of_ble_eq_true rfl) (Nat.le_of_ble_eq_true rfl) (⟨f178, a179, rfl, (show TxOk (f178 4) (f178 5) (f178 8) (f178 9) (f178 17) (f178 21) (a179 2) from ⟨lk, ⟨by first | exact i2 | omega, by first | exact i3 | omega⟩, ⟨by first | exact i4 | omega, by first | exact i5 | omega⟩, ⟨by first | exact i6 | omega, by first | exact i7 | omega⟩, by first | exact i8 | omega, ⟨by first | exact i9 | omega, by first | exact i11 | omega⟩, by first | exact i10 | omega, hrt⟩), (show (f178 17).toInt = (f 17).toInt from by first | exact oz_1687f4cc65 e171 e183 | omega), (show (f178 15).toInt = (f 15).toInt from by first | exact oz_1687f4cc65 e173 e185 | omega), (show (f178 20).toInt = (f 20).toInt from by first | exact oz_1687f4cc65 e174 e186 | omega)⟩) d_Txp_flow_236
    · simp only [List.mem_cons, List.not_mem_nil, or_false] at c22
      refine lv_aload_n S.x S.b d_Txp_flow_220 rfl (lv_at hl 0 rfl) ?_
      have hw : pw D A s.heap _ _ [wd_Prg cs hp rp (fun k => if k = 2 then of else none) fp (fun _ _ => 0) (fun _ _ => none), nA cs of fn fd, wd_Txp cs h r (fun k => if k = 3 then (some hp) else none) f a g] := hw.sub [1, 2, 0] rfl rfl
      refine px_callv (pr := [wd_Prg cs hp rp (fun k => if k = 2 then of else none) fp (fun _ _ => 0) (fun _ _ => none), nA cs of fn fd]) (px_runV (As := []) (rest := []) S (c_Txp_give l D cs h r g hp f a   (show TxOk (f 4) (f 5) (f 8) (f 9) (f 17) (f 21) (a 2) from ⟨lk, ⟨by first | exact i2 | omega, by first | exact i3 | omega⟩, ⟨by first | exact i4 | omega, by first | exact i5 | omega⟩, ⟨by first | exact i6 | omega, by first | exact i7 | omega⟩, by first | exact i8 | omega, ⟨by first | exact i9 | omega, by first | exact i11 | omega⟩, by first | exact i10 | omega, hrt⟩) _) hT (pr := [wd_Prg cs hp rp (fun k => if k = 2 then of else none) fp (fun _ _ => 0) (fun _ _ => none), nA cs of fn fd]) (pcs := [wd_Txp cs h r (fun k => if k = 3 then (some hp) else none) f a g]) hw px_X.tt (px_recv hT hw 2 0 rfl rfl rfl) m9_35 m9_32 m9_34 ms_7_4 m1_35 q_Txp_give ⟨Nat.le_of_ble_eq_true rfl, Nat.le_of_ble_eq_true rfl⟩ hl.1 rfl (Nat.le_of_ble_eq_true rfl) d_Txp_flow_221 ⟨Nat.le_of_ble_eq_true rfl, Nat.le_of_ble_eq_true rfl⟩) hw hA (fun p190 H locs hp190 hw => ?_)
      obtain ⟨f188, a189, rfl, h197, e192, e193, e194, e195, e196⟩ := hp190
      obtain ⟨lk, ⟨i2, i3⟩, ⟨i4, i5⟩, ⟨i6, i7⟩, i8, ⟨i9, i11⟩, i10, hrt⟩ := h197
      replace e192 : (f188 9).toInt = (f 9).toInt := e192
      replace e193 : (f188 17).toInt = (f 17).toInt := e193
      replace e194 : (f188 21).toInt = (f 21).toInt := e194
      replace e195 : (f188 15).toInt = (f 15).toInt := e195
      replace e196 : (f188 20).toInt = (f 20).toInt := e196
      replace hw : pw D A s.heap H locs [wd_Prg cs hp rp (fun k => if k = 2 then of else none) fp (fun _ _ => 0) (fun _ _ => none), nA cs of fn fd, wd_Txp cs h r (fun k => if k = 3 then (some hp) else none) f188 a189 g] := hw
      refine lv_goto (tgt := 236) S.x S.b d_Txp_flow_224 (by decide) ?_
      have hw : pw D A s.heap _ _ [wd_Txp cs h r (fun k => if k = 3 then (some hp) else none) f188 a189 g, wd_Prg cs hp rp (fun k => if k = 2 then of else none) fp (fun _ _ => 0) (fun _ _ => none), nA cs of fn fd] := hw.sub [2, 0, 1] rfl rfl
      exact px_vret S hr hlk hAe hw (Nat.le_of_ble_eq_true rfl) (Nat.le_of_ble_eq_true rfl) (⟨f188, a189, rfl, (show TxOk (f188 4) (f188 5) (f188 8) (f188 9) (f188 17) (f188 21) (a189 2) from ⟨lk, ⟨by first | exact i2 | omega, by first | exact i3 | omega⟩, ⟨by first | exact i4 | omega, by first | exact i5 | omega⟩, ⟨by first | exact i6 | omega, by first | exact i7 | omega⟩, by first | exact i8 | omega, ⟨by first | exact i9 | omega, by first | exact i11 | omega⟩, by first | exact i10 | omega, hrt⟩), (show (f188 17).toInt = (f 17).toInt from by first | exact e193 | omega), (show (f188 15).toInt = (f 15).toInt from by first | exact e195 | omega), (show (f188 20).toInt = (f 20).toInt from by first | exact e196 | omega)⟩) d_Txp_flow_236
abbrev b_Txp_step : ByteArray := prog_11_method_12_code
def y_Txp_step : MethodName := ⟨"HomeSystem$TextProcess", "step", "()V"⟩
theorem d_Txp_step_0 : decode b_Txp_step 0 = .ok (.aload_n 0, 1) := by decide +kernel
theorem d_Txp_step_1 : decode b_Txp_step 1 = .ok (.getfield 41, 3) := by decide +kernel
theorem d_Txp_step_4 : decode b_Txp_step 4 = .ok (.istore_n 1, 1) := by decide +kernel
theorem d_Txp_step_5 : decode b_Txp_step 5 = .ok (.aload_n 0, 1) := by decide +kernel
theorem d_Txp_step_6 : decode b_Txp_step 6 = .ok (.getfield 25, 3) := by decide +kernel
theorem d_Txp_step_9 : decode b_Txp_step 9 = .ok (.ifnull 21, 3) := by decide +kernel
theorem d_Txp_step_12 : decode b_Txp_step 12 = .ok (.iload_n 1, 1) := by decide +kernel
theorem d_Txp_step_13 : decode b_Txp_step 13 = .ok (.ifCond .lt 17, 3) := by decide +kernel
theorem d_Txp_step_16 : decode b_Txp_step 16 = .ok (.iload_n 1, 1) := by decide +kernel
theorem d_Txp_step_17 : decode b_Txp_step 17 = .ok (.iconst 4, 1) := by decide +kernel
theorem d_Txp_step_18 : decode b_Txp_step 18 = .ok (.iadd, 1) := by decide +kernel
theorem d_Txp_step_19 : decode b_Txp_step 19 = .ok (.aload_n 0, 1) := by decide +kernel
theorem d_Txp_step_20 : decode b_Txp_step 20 = .ok (.getfield 25, 3) := by decide +kernel
theorem d_Txp_step_23 : decode b_Txp_step 23 = .ok (.getfield 102, 3) := by decide +kernel
theorem d_Txp_step_26 : decode b_Txp_step 26 = .ok (.arraylength, 1) := by decide +kernel
theorem d_Txp_step_27 : decode b_Txp_step 27 = .ok (.if_icmp .le 11, 3) := by decide +kernel
theorem d_Txp_step_30 : decode b_Txp_step 30 = .ok (.aload_n 0, 1) := by decide +kernel
theorem d_Txp_step_31 : decode b_Txp_step 31 = .ok (.bipush 7, 2) := by decide +kernel
theorem d_Txp_step_33 : decode b_Txp_step 33 = .ok (.iconst 0, 1) := by decide +kernel
theorem d_Txp_step_34 : decode b_Txp_step 34 = .ok (.invokevirtual 105, 3) := by decide +kernel
theorem d_Txp_step_37 : decode b_Txp_step 37 = .ok (.return_, 1) := by decide +kernel
theorem d_Txp_step_38 : decode b_Txp_step 38 = .ok (.aload_n 0, 1) := by decide +kernel
theorem d_Txp_step_39 : decode b_Txp_step 39 = .ok (.getfield 25, 3) := by decide +kernel
theorem d_Txp_step_42 : decode b_Txp_step 42 = .ok (.getfield 102, 3) := by decide +kernel
theorem d_Txp_step_45 : decode b_Txp_step 45 = .ok (.iload_n 1, 1) := by decide +kernel
theorem d_Txp_step_46 : decode b_Txp_step 46 = .ok (.iaload, 1) := by decide +kernel
theorem d_Txp_step_47 : decode b_Txp_step 47 = .ok (.sipush 255, 3) := by decide +kernel
theorem d_Txp_step_50 : decode b_Txp_step 50 = .ok (.iand, 1) := by decide +kernel
theorem d_Txp_step_51 : decode b_Txp_step 51 = .ok (.istore_n 2, 1) := by decide +kernel
theorem d_Txp_step_52 : decode b_Txp_step 52 = .ok (.aload_n 0, 1) := by decide +kernel
theorem d_Txp_step_53 : decode b_Txp_step 53 = .ok (.getfield 25, 3) := by decide +kernel
theorem d_Txp_step_56 : decode b_Txp_step 56 = .ok (.getfield 102, 3) := by decide +kernel
theorem d_Txp_step_59 : decode b_Txp_step 59 = .ok (.iload_n 1, 1) := by decide +kernel
theorem d_Txp_step_60 : decode b_Txp_step 60 = .ok (.iaload, 1) := by decide +kernel
theorem d_Txp_step_61 : decode b_Txp_step 61 = .ok (.bipush 8, 2) := by decide +kernel
theorem d_Txp_step_63 : decode b_Txp_step 63 = .ok (.iushr, 1) := by decide +kernel
theorem d_Txp_step_64 : decode b_Txp_step 64 = .ok (.istore_n 3, 1) := by decide +kernel
theorem d_Txp_step_65 : decode b_Txp_step 65 = .ok (.aload_n 0, 1) := by decide +kernel
theorem d_Txp_step_66 : decode b_Txp_step 66 = .ok (.getfield 25, 3) := by decide +kernel
theorem d_Txp_step_69 : decode b_Txp_step 69 = .ok (.getfield 102, 3) := by decide +kernel
theorem d_Txp_step_72 : decode b_Txp_step 72 = .ok (.iload_n 1, 1) := by decide +kernel
theorem d_Txp_step_73 : decode b_Txp_step 73 = .ok (.iconst 1, 1) := by decide +kernel
theorem d_Txp_step_74 : decode b_Txp_step 74 = .ok (.iadd, 1) := by decide +kernel
theorem d_Txp_step_75 : decode b_Txp_step 75 = .ok (.iaload, 1) := by decide +kernel
theorem d_Txp_step_76 : decode b_Txp_step 76 = .ok (.istore 4, 2) := by decide +kernel
theorem d_Txp_step_78 : decode b_Txp_step 78 = .ok (.aload_n 0, 1) := by decide +kernel
theorem d_Txp_step_79 : decode b_Txp_step 79 = .ok (.getfield 25, 3) := by decide +kernel
theorem d_Txp_step_82 : decode b_Txp_step 82 = .ok (.getfield 102, 3) := by decide +kernel
theorem d_Txp_step_85 : decode b_Txp_step 85 = .ok (.iload_n 1, 1) := by decide +kernel
theorem d_Txp_step_86 : decode b_Txp_step 86 = .ok (.iconst 2, 1) := by decide +kernel
theorem d_Txp_step_87 : decode b_Txp_step 87 = .ok (.iadd, 1) := by decide +kernel
theorem d_Txp_step_88 : decode b_Txp_step 88 = .ok (.iaload, 1) := by decide +kernel
theorem d_Txp_step_89 : decode b_Txp_step 89 = .ok (.istore 5, 2) := by decide +kernel
theorem d_Txp_step_91 : decode b_Txp_step 91 = .ok (.aload_n 0, 1) := by decide +kernel
theorem d_Txp_step_92 : decode b_Txp_step 92 = .ok (.getfield 25, 3) := by decide +kernel
theorem d_Txp_step_95 : decode b_Txp_step 95 = .ok (.getfield 102, 3) := by decide +kernel
theorem d_Txp_step_98 : decode b_Txp_step 98 = .ok (.iload_n 1, 1) := by decide +kernel
theorem d_Txp_step_99 : decode b_Txp_step 99 = .ok (.iconst 3, 1) := by decide +kernel
theorem d_Txp_step_100 : decode b_Txp_step 100 = .ok (.iadd, 1) := by decide +kernel
theorem d_Txp_step_101 : decode b_Txp_step 101 = .ok (.iaload, 1) := by decide +kernel
theorem d_Txp_step_102 : decode b_Txp_step 102 = .ok (.istore 6, 2) := by decide +kernel
theorem d_Txp_step_104 : decode b_Txp_step 104 = .ok (.aload_n 0, 1) := by decide +kernel
theorem d_Txp_step_105 : decode b_Txp_step 105 = .ok (.iload_n 1, 1) := by decide +kernel
theorem d_Txp_step_106 : decode b_Txp_step 106 = .ok (.iconst 4, 1) := by decide +kernel
theorem d_Txp_step_107 : decode b_Txp_step 107 = .ok (.iadd, 1) := by decide +kernel
theorem d_Txp_step_108 : decode b_Txp_step 108 = .ok (.putfield 41, 3) := by decide +kernel
theorem d_Txp_step_111 : decode b_Txp_step 111 = .ok (.iload_n 2, 1) := by decide +kernel
theorem d_Txp_step_112 : decode b_Txp_step 112 = .ok (.bipush 15, 2) := by decide +kernel
theorem d_Txp_step_114 : decode b_Txp_step 114 = .ok (.if_icmp .lt 15, 3) := by decide +kernel
theorem d_Txp_step_117 : decode b_Txp_step 117 = .ok (.aload_n 0, 1) := by decide +kernel
theorem d_Txp_step_118 : decode b_Txp_step 118 = .ok (.iload_n 2, 1) := by decide +kernel
theorem d_Txp_step_119 : decode b_Txp_step 119 = .ok (.iload 4, 2) := by decide +kernel
theorem d_Txp_step_121 : decode b_Txp_step 121 = .ok (.iload 5, 2) := by decide +kernel
theorem d_Txp_step_123 : decode b_Txp_step 123 = .ok (.invokevirtual 108, 3) := by decide +kernel
theorem d_Txp_step_126 : decode b_Txp_step 126 = .ok (.goto 40, 3) := by decide +kernel
theorem d_Txp_step_129 : decode b_Txp_step 129 = .ok (.iload_n 2, 1) := by decide +kernel
theorem d_Txp_step_130 : decode b_Txp_step 130 = .ok (.iconst 2, 1) := by decide +kernel
theorem d_Txp_step_131 : decode b_Txp_step 131 = .ok (.if_icmp .lt 23, 3) := by decide +kernel
theorem d_Txp_step_134 : decode b_Txp_step 134 = .ok (.iload_n 2, 1) := by decide +kernel
theorem d_Txp_step_135 : decode b_Txp_step 135 = .ok (.iconst 5, 1) := by decide +kernel
theorem d_Txp_step_136 : decode b_Txp_step 136 = .ok (.if_icmp .gt 18, 3) := by decide +kernel
theorem d_Txp_step_139 : decode b_Txp_step 139 = .ok (.aload_n 0, 1) := by decide +kernel
theorem d_Txp_step_140 : decode b_Txp_step 140 = .ok (.iload_n 2, 1) := by decide +kernel
theorem d_Txp_step_141 : decode b_Txp_step 141 = .ok (.iload_n 3, 1) := by decide +kernel
theorem d_Txp_step_142 : decode b_Txp_step 142 = .ok (.iload 4, 2) := by decide +kernel
theorem d_Txp_step_144 : decode b_Txp_step 144 = .ok (.iload 5, 2) := by decide +kernel
theorem d_Txp_step_146 : decode b_Txp_step 146 = .ok (.iload 6, 2) := by decide +kernel
theorem d_Txp_step_148 : decode b_Txp_step 148 = .ok (.invokevirtual 112, 3) := by decide +kernel
theorem d_Txp_step_151 : decode b_Txp_step 151 = .ok (.goto 15, 3) := by decide +kernel
theorem d_Txp_step_154 : decode b_Txp_step 154 = .ok (.aload_n 0, 1) := by decide +kernel
theorem d_Txp_step_155 : decode b_Txp_step 155 = .ok (.iload_n 2, 1) := by decide +kernel
theorem d_Txp_step_156 : decode b_Txp_step 156 = .ok (.iload_n 3, 1) := by decide +kernel
theorem d_Txp_step_157 : decode b_Txp_step 157 = .ok (.iload 4, 2) := by decide +kernel
theorem d_Txp_step_159 : decode b_Txp_step 159 = .ok (.iload 5, 2) := by decide +kernel
theorem d_Txp_step_161 : decode b_Txp_step 161 = .ok (.iload 6, 2) := by decide +kernel
theorem d_Txp_step_163 : decode b_Txp_step 163 = .ok (.invokevirtual 116, 3) := by decide +kernel
theorem d_Txp_step_166 : decode b_Txp_step 166 = .ok (.return_, 1) := by decide +kernel
theorem q_Txp_step : px_y y_Txp_step 0 := by unfold px_y; decide +kernel
set_option maxHeartbeats 4000000 in
set_option maxRecDepth 100000 in
theorem c_Txp_step (l : Launch) (D : va_G) (cs : Nat → ClassId) (h : Nat) (r : Nat → Nat) (g : Nat → Nat → Option Nat) (hp : Nat) (f : Nat → Int32) (a : Nat → Nat → Int32) (rp : Nat → Nat) (of : Option Nat) (fp : Nat → Int32) (fn : Nat) (fd : Nat → Int32) (cn : Nat) (cd : Nat → Int32)  (hinv0 : TxOk (f 4) (f 5) (f 8) (f 9) (f 17) (f 21) (a 2)) (g0 : (f 21).toInt = 0) (g1 : fn ≤ 1000000) (g2 : cn ≤ 100000) (hfd : RtOk fd) (hcd : CodeOk cd) : MetV l y_Txp_step b_Txp_step 7 D cs 3 130 (0) (0) [.ref h] [wd_Txp cs h r (fun k => if k = 3 then (some hp) else none) f a g, wd_Prg cs hp rp (fun k => if k = 2 then of else none) fp (fun _ _ => 0) (fun _ _ => none), nA cs of fn fd, [((rp 1), .inl (cs 0, cn, .inl cd))]] (fun _ => True) (fun ps => ∃ (f' : Nat → Int32) (a' : Nat → Nat → Int32), (ps = [wd_Txp cs h r (fun k => if k = 3 then (some hp) else none) f' a' g, wd_Prg cs hp rp (fun k => if k = 2 then of else none) fp (fun _ _ => 0) (fun _ _ => none), nA cs of fn fd, [((rp 1), .inl (cs 0, cn, .inl cd))]]) ∧ (TxOk (f' 4) (f' 5) (f' 8) (f' 9) (f' 17) (f' 21) (a' 2)) ∧ ((f' 17).toInt = (f 17).toInt) ∧ ((f' 15).toInt = (f 15).toInt) ∧ ((f' 20).toInt = (f 20).toInt)) := by
  refine px_enter (by decide) (Nat.le_of_ble_eq_true rfl) ?_
  intro p e s m below meth c A ls hAe S hr hlk hnm hA hT hX hw hl
  replace hl : lv_has ls 7 [(0, .ref h)] := hl
  have cst0 : (0 : Int32).toInt = 0 := rfl
  have cst1 : (1 : Int32).toInt = 1 := rfl
  have cst2 : (2 : Int32).toInt = 2 := rfl
  have cst3 : (3 : Int32).toInt = 3 := rfl
  have cst4 : (4 : Int32).toInt = 4 := rfl
  have cst5 : (5 : Int32).toInt = 5 := rfl
  have cst7 : (7 : Int32).toInt = 7 := rfl
  have cst8 : (8 : Int32).toInt = 8 := rfl
  have cst15 : (15 : Int32).toInt = 15 := rfl
  have cst255 : (255 : Int32).toInt = 255 := rfl
  obtain ⟨lk, ⟨i2, i3⟩, ⟨i4, i5⟩, ⟨i6, i7⟩, i8, ⟨i9, i11⟩, i10, hrt⟩ := hinv0
  have lk0 := lk
  unfold Lk at lk0
  have hcn : (nI cn).toInt = (cn : Int) := nI_toInt (by omega)
  refine lv_aload_n S.x S.b d_Txp_step_0 rfl (lv_at hl 0 rfl) ?_
  refine px_get S k_Txp hT hw 0 0 4 (v := .int (f 4)) rfl rfl rfl (by decide) m6_217 d_Txp_step_1 ?_
  refine lv_istore_n (lv' := [(1, .int (f 4)), (0, .ref h)]) S.x S.b d_Txp_step_4 rfl hl (by decide) rfl (fun ls hl => ?_)
  refine lv_aload_n S.x S.b d_Txp_step_5 rfl (lv_at hl 1 rfl) ?_
  refine px_get S k_Txp hT hw 0 0 3 (v := .ref hp) rfl rfl rfl (by decide) m6_216 d_Txp_step_6 ?_
  refine lv_ifnull S.x S.b d_Txp_step_9 ?_
  refine lv_iload_n S.x S.b d_Txp_step_12 rfl (lv_at hl 0 rfl) ?_
  refine lv_if_lt (tgt := 30) S.x S.b d_Txp_step_13 (by decide) (fun c1 => ?_) (fun c1 => ?_)
  · have nc1 : (f 4).toInt < (0 : Int) := (i_lt (x := (f 4)) (y := 0)).mp c1
    refine lv_aload_n S.x S.b d_Txp_step_30 rfl (lv_at hl 1 rfl) ?_
    refine lv_bipush (v := 7) S.x S.b d_Txp_step_31 (by decide) ?_
    refine lv_iconst (v := 0) S.x S.b d_Txp_step_33 (by decide) ?_
    have hw : pw D A s.heap _ _ [wd_Prg cs hp rp (fun k => if k = 2 then of else none) fp (fun _ _ => 0) (fun _ _ => none), nA cs of fn fd, [((rp 1), .inl (cs 0, cn, .inl cd))], wd_Txp cs h r (fun k => if k = 3 then (some hp) else none) f a g] := hw.sub [1, 2, 3, 0] rfl rfl
    refine px_callv (pr := [wd_Prg cs hp rp (fun k => if k = 2 then of else none) fp (fun _ _ => 0) (fun _ _ => none), nA cs of fn fd, [((rp 1), .inl (cs 0, cn, .inl cd))]]) (px_runU (As := [.int 7, .int 0]) (rest := []) S (c_finish_Txp l D cs h r g hp f a 7 0  (show TxOk (f 4) (f 5) (f 8) (f 9) (f 17) (f 21) (a 2) from ⟨lk, ⟨by first | exact i2 | omega, by first | exact i3 | omega⟩, ⟨by first | exact i4 | omega, by first | exact i5 | omega⟩, ⟨by first | exact i6 | omega, by first | exact i7 | omega⟩, by first | exact i8 | omega, ⟨by first | exact i9 | omega, by first | exact i11 | omega⟩, by first | exact i10 | omega, hrt⟩) _) hT (pr := [wd_Prg cs hp rp (fun k => if k = 2 then of else none) fp (fun _ _ => 0) (fun _ _ => none), nA cs of fn fd, [((rp 1), .inl (cs 0, cn, .inl cd))]]) (pcs := [wd_Txp cs h r (fun k => if k = 3 then (some hp) else none) f a g]) hw px_X.tt (C := "HomeSystem$TextProcess") (x := ⟨"HomeSystem$TextProcess", "finish", "(II)V"⟩) (px_recv hT hw 3 0 rfl rfl rfl) m8_89 m9_5 m9_6 m8_85 m9_7 m1_33 rfl q_HomeSystem_AnyProcess_finish ⟨Nat.le_of_ble_eq_true rfl, Nat.le_of_ble_eq_true rfl⟩ hl.1 rfl (Nat.le_of_ble_eq_true rfl) d_Txp_step_34 ⟨Nat.le_of_ble_eq_true rfl, Nat.le_of_ble_eq_true rfl⟩) hw hA (fun p4 H locs hp4 hw => ?_)
    obtain ⟨f2, a3, rfl, h11, e6, e7, e8, e9, e10⟩ := hp4
    obtain ⟨lk, ⟨i2, i3⟩, ⟨i4, i5⟩, ⟨i6, i7⟩, i8, ⟨i9, i11⟩, i10, hrt⟩ := h11
    replace e6 : (f2 9).toInt = (f 9).toInt := e6
    replace e7 : (f2 17).toInt = (f 17).toInt := e7
    replace e8 : (f2 21).toInt = 0 := e8
    replace e9 : (f2 15).toInt = (f 15).toInt := e9
    replace e10 : (f2 20).toInt = (f 20).toInt := e10
    replace hw : pw D A s.heap H locs [wd_Prg cs hp rp (fun k => if k = 2 then of else none) fp (fun _ _ => 0) (fun _ _ => none), nA cs of fn fd, [((rp 1), .inl (cs 0, cn, .inl cd))], wd_Txp cs h r (fun k => if k = 3 then (some hp) else none) f2 a3 g] := hw
    have hw : pw D A s.heap _ _ [wd_Txp cs h r (fun k => if k = 3 then (some hp) else none) f2 a3 g, wd_Prg cs hp rp (fun k => if k = 2 then of else none) fp (fun _ _ => 0) (fun _ _ => none), nA cs of fn fd, [((rp 1), .inl (cs 0, cn, .inl cd))]] := hw.sub [3, 0, 1, 2] rfl rfl
    exact px_vret S hr hlk hAe hw (Nat.le_of_ble_eq_true rfl) (Nat.le_of_ble_eq_true rfl) (⟨f2, a3, rfl, (show TxOk (f2 4) (f2 5) (f2 8) (f2 9) (f2 17) (f2 21) (a3 2) from ⟨lk, ⟨by first | exact i2 | omega, by first | exact i3 | omega⟩, ⟨by first | exact i4 | omega, by first | exact i5 | omega⟩, ⟨by first | exact i6 | omega, by first | exact i7 | omega⟩, by first | exact i8 | omega, ⟨by first | exact i9 | omega, by first | exact i11 | omega⟩, by first | exact i10 | omega, hrt⟩), (show (f2 17).toInt = (f 17).toInt from by first | exact e7 | omega), (show (f2 15).toInt = (f 15).toInt from by first | exact e9 | omega), (show (f2 20).toInt = (f 20).toInt from by first | exact e10 | omega)⟩) d_Txp_step_37
  · have nc1 : ¬ (f 4).toInt < (0 : Int) := mt (i_lt (x := (f 4)) (y := 0)).mpr c1
    refine lv_iload_n S.x S.b d_Txp_step_16 rfl (lv_at hl 0 rfl) ?_
    refine lv_iconst (v := 4) S.x S.b d_Txp_step_17 (by decide) ?_
    refine lv_iadd S.x S.b d_Txp_step_18 ?_
    have lr12 := Int32.le_toInt (f 4)
    have ur12 := Int32.toInt_lt (f 4)
    refine lv_topi (fun z13 ez13 => ?_)
    have tz13 : z13.toInt = ((f 4).toInt + (4 : Int) + 2147483648) % 4294967296 - 2147483648 := by rw [ez13]; exact i_add (f 4) 4
    have lz13 := Int32.le_toInt z13
    have uz13 := Int32.toInt_lt z13
    try replace tz13 : z13.toInt = (f 4).toInt + (4 : Int) := by omega
    refine lv_aload_n S.x S.b d_Txp_step_19 rfl (lv_at hl 1 rfl) ?_
    refine px_get S k_Txp hT hw 0 0 3 (v := .ref hp) rfl rfl rfl (by decide) m6_216 d_Txp_step_20 ?_
    refine px_get S k_Prg hT hw 1 0 1 (v := .ref (rp 1)) rfl rfl rfl (by decide) m2_102 d_Txp_step_23 ?_
    refine px_len S hT hw 3 0 0 rfl rfl rfl (v := (nI cn)) rfl d_Txp_step_26 ?_
    refine lv_icmp_le (tgt := 38) S.x S.b d_Txp_step_27 (by decide) (fun c14 => ?_) (fun c14 => ?_)
    · have nc14 : z13.toInt ≤ (nI cn).toInt := (i_le (x := z13) (y := (nI cn))).mp c14
      refine lv_aload_n S.x S.b d_Txp_step_38 rfl (lv_at hl 1 rfl) ?_
      refine px_get S k_Txp hT hw 0 0 3 (v := .ref hp) rfl rfl rfl (by decide) m6_216 d_Txp_step_39 ?_
      refine px_get S k_Prg hT hw 1 0 1 (v := .ref (rp 1)) rfl rfl rfl (by decide) m2_102 d_Txp_step_42 ?_
      refine lv_iload_n S.x S.b d_Txp_step_45 rfl (lv_at hl 0 rfl) ?_
      refine px_iald S hT hw 3 0 (n := cn) (f := cd) rfl rfl (x := (f 4)) (vp_in_iff.mpr (by constructor <;> omega)) d_Txp_step_46 ?_
      refine lv_topi (fun z15 ez15 => ?_)
      have lz15 := Int32.le_toInt z15
      have uz15 := Int32.toInt_lt z15
      refine lv_sipush (v := 255) S.x S.b d_Txp_step_47 (by decide) ?_
      refine lv_iand S.x S.b d_Txp_step_50 ?_
      refine lv_topi (fun z16 ez16 => ?_)
      have lz16 := Int32.le_toInt z16
      have uz16 := Int32.toInt_lt z16
      have bz16 := i_andm z15 (m := 255) 8 (by decide) (by decide)
      rw [← ez16] at bz16
      have wz16 : 0 ≤ z16.toInt ∧ z16.toInt ≤ 255 := by simp only [Nat.reducePow, Int.reducePow] at bz16; omega
      refine lv_istore_n (lv' := [(2, .int z16), (1, .int (f 4)), (0, .ref h)]) S.x S.b d_Txp_step_51 rfl hl (by decide) rfl (fun ls hl => ?_)
      refine lv_aload_n S.x S.b d_Txp_step_52 rfl (lv_at hl 2 rfl) ?_
      refine px_get S k_Txp hT hw 0 0 3 (v := .ref hp) rfl rfl rfl (by decide) m6_216 d_Txp_step_53 ?_
      refine px_get S k_Prg hT hw 1 0 1 (v := .ref (rp 1)) rfl rfl rfl (by decide) m2_102 d_Txp_step_56 ?_
      refine lv_iload_n S.x S.b d_Txp_step_59 rfl (lv_at hl 1 rfl) ?_
      refine px_iald S hT hw 3 0 (n := cn) (f := cd) rfl rfl (x := (f 4)) (vp_in_iff.mpr (by constructor <;> omega)) d_Txp_step_60 ?_
      refine lv_topi (fun z17 ez17 => ?_)
      have lz17 := Int32.le_toInt z17
      have uz17 := Int32.toInt_lt z17
      refine lv_bipush (v := 8) S.x S.b d_Txp_step_61 (by decide) ?_
      refine lv_iushr S.x S.b d_Txp_step_63 rfl ?_
      refine lv_topi (fun z18 ez18 => ?_)
      have lz18 := Int32.le_toInt z18
      have uz18 := Int32.toInt_lt z18
      refine lv_istore_n (lv' := [(3, .int z18), (2, .int z16), (1, .int (f 4)), (0, .ref h)]) S.x S.b d_Txp_step_64 rfl hl (by decide) rfl (fun ls hl => ?_)
      refine lv_aload_n S.x S.b d_Txp_step_65 rfl (lv_at hl 3 rfl) ?_
      refine px_get S k_Txp hT hw 0 0 3 (v := .ref hp) rfl rfl rfl (by decide) m6_216 d_Txp_step_66 ?_
      refine px_get S k_Prg hT hw 1 0 1 (v := .ref (rp 1)) rfl rfl rfl (by decide) m2_102 d_Txp_step_69 ?_
      refine lv_iload_n S.x S.b d_Txp_step_72 rfl (lv_at hl 2 rfl) ?_
      refine lv_iconst (v := 1) S.x S.b d_Txp_step_73 (by decide) ?_
      refine lv_iadd S.x S.b d_Txp_step_74 ?_
      have lr19 := Int32.le_toInt (f 4)
      have ur19 := Int32.toInt_lt (f 4)
      refine lv_topi (fun z20 ez20 => ?_)
      have tz20 : z20.toInt = ((f 4).toInt + (1 : Int) + 2147483648) % 4294967296 - 2147483648 := by rw [ez20]; exact i_add (f 4) 1
      have lz20 := Int32.le_toInt z20
      have uz20 := Int32.toInt_lt z20
      try replace tz20 : z20.toInt = (f 4).toInt + (1 : Int) := by omega
      refine px_iald S hT hw 3 0 (n := cn) (f := cd) rfl rfl (x := z20) (vp_in_iff.mpr (by constructor <;> omega)) d_Txp_step_75 ?_
      refine lv_topi (fun z21 ez21 => ?_)
      have lz21 := Int32.le_toInt z21
      have uz21 := Int32.toInt_lt z21
      have hco := code_at hcd (x := (f 4)) (y := z20) (by omega) (by omega) (by omega) ez15 ez16 ez21
      refine lv_istore (lv' := [(4, .int z21), (3, .int z18), (2, .int z16), (1, .int (f 4)), (0, .ref h)]) S.x S.b d_Txp_step_76 hl (by decide) rfl (fun ls hl => ?_)
      refine lv_aload_n S.x S.b d_Txp_step_78 rfl (lv_at hl 4 rfl) ?_
      refine px_get S k_Txp hT hw 0 0 3 (v := .ref hp) rfl rfl rfl (by decide) m6_216 d_Txp_step_79 ?_
      refine px_get S k_Prg hT hw 1 0 1 (v := .ref (rp 1)) rfl rfl rfl (by decide) m2_102 d_Txp_step_82 ?_
      refine lv_iload_n S.x S.b d_Txp_step_85 rfl (lv_at hl 3 rfl) ?_
      refine lv_iconst (v := 2) S.x S.b d_Txp_step_86 (by decide) ?_
      refine lv_iadd S.x S.b d_Txp_step_87 ?_
      have lr22 := Int32.le_toInt (f 4)
      have ur22 := Int32.toInt_lt (f 4)
      refine lv_topi (fun z23 ez23 => ?_)
      have tz23 : z23.toInt = ((f 4).toInt + (2 : Int) + 2147483648) % 4294967296 - 2147483648 := by rw [ez23]; exact i_add (f 4) 2
      have lz23 := Int32.le_toInt z23
      have uz23 := Int32.toInt_lt z23
      try replace tz23 : z23.toInt = (f 4).toInt + (2 : Int) := by omega
      refine px_iald S hT hw 3 0 (n := cn) (f := cd) rfl rfl (x := z23) (vp_in_iff.mpr (by constructor <;> omega)) d_Txp_step_88 ?_
      refine lv_topi (fun z24 ez24 => ?_)
      have lz24 := Int32.le_toInt z24
      have uz24 := Int32.toInt_lt z24
      refine lv_istore (lv' := [(5, .int z24), (4, .int z21), (3, .int z18), (2, .int z16), (1, .int (f 4)), (0, .ref h)]) S.x S.b d_Txp_step_89 hl (by decide) rfl (fun ls hl => ?_)
      refine lv_aload_n S.x S.b d_Txp_step_91 rfl (lv_at hl 5 rfl) ?_
      refine px_get S k_Txp hT hw 0 0 3 (v := .ref hp) rfl rfl rfl (by decide) m6_216 d_Txp_step_92 ?_
      refine px_get S k_Prg hT hw 1 0 1 (v := .ref (rp 1)) rfl rfl rfl (by decide) m2_102 d_Txp_step_95 ?_
      refine lv_iload_n S.x S.b d_Txp_step_98 rfl (lv_at hl 4 rfl) ?_
      refine lv_iconst (v := 3) S.x S.b d_Txp_step_99 (by decide) ?_
      refine lv_iadd S.x S.b d_Txp_step_100 ?_
      have lr25 := Int32.le_toInt (f 4)
      have ur25 := Int32.toInt_lt (f 4)
      refine lv_topi (fun z26 ez26 => ?_)
      have tz26 : z26.toInt = ((f 4).toInt + (3 : Int) + 2147483648) % 4294967296 - 2147483648 := by rw [ez26]; exact i_add (f 4) 3
      have lz26 := Int32.le_toInt z26
      have uz26 := Int32.toInt_lt z26
      try replace tz26 : z26.toInt = (f 4).toInt + (3 : Int) := by omega
      refine px_iald S hT hw 3 0 (n := cn) (f := cd) rfl rfl (x := z26) (vp_in_iff.mpr (by constructor <;> omega)) d_Txp_step_101 ?_
      refine lv_topi (fun z27 ez27 => ?_)
      have lz27 := Int32.le_toInt z27
      have uz27 := Int32.toInt_lt z27
      refine lv_istore (lv' := [(6, .int z27), (5, .int z24), (4, .int z21), (3, .int z18), (2, .int z16), (1, .int (f 4)), (0, .ref h)]) S.x S.b d_Txp_step_102 hl (by decide) rfl (fun ls hl => ?_)
      refine lv_aload_n S.x S.b d_Txp_step_104 rfl (lv_at hl 6 rfl) ?_
      refine lv_iload_n S.x S.b d_Txp_step_105 rfl (lv_at hl 5 rfl) ?_
      refine lv_iconst (v := 4) S.x S.b d_Txp_step_106 (by decide) ?_
      refine lv_iadd S.x S.b d_Txp_step_107 ?_
      have lr28 := Int32.le_toInt (f 4)
      have ur28 := Int32.toInt_lt (f 4)
      refine lv_topi (fun z29 ez29 => ?_)
      have tz29 : z29.toInt = ((f 4).toInt + (4 : Int) + 2147483648) % 4294967296 - 2147483648 := by rw [ez29]; exact i_add (f 4) 4
      have lz29 := Int32.le_toInt z29
      have uz29 := Int32.toInt_lt z29
      try replace tz29 : z29.toInt = (f 4).toInt + (4 : Int) := by omega
      refine px_put S k_Txp hT hw 0 0 4 rfl rfl (by decide) m6_217 rfl rfl rfl (Nat.le_of_ble_eq_true rfl) d_Txp_step_108 (w' := wd_Txp cs h r (fun k => if k = 3 then (some hp) else none) (upd f 4 z29) a g) (ps' := [wd_Txp cs h r (fun k => if k = 3 then (some hp) else none) (upd f 4 z29) a g, wd_Prg cs hp rp (fun k => if k = 2 then of else none) fp (fun _ _ => 0) (fun _ _ => none), nA cs of fn fd, [((rp 1), .inl (cs 0, cn, .inl cd))]]) rfl rfl (fun H locs hw => ?_)
      refine lv_iload_n S.x S.b d_Txp_step_111 rfl (lv_at hl 4 rfl) ?_
      refine lv_bipush (v := 15) S.x S.b d_Txp_step_112 (by decide) ?_
      refine lv_icmp_lt (tgt := 129) S.x S.b d_Txp_step_114 (by decide) (fun c30 => ?_) (fun c30 => ?_)
      · have nc30 : z16.toInt < (15 : Int) := (i_lt (x := z16) (y := 15)).mp c30
        refine lv_iload_n S.x S.b d_Txp_step_129 rfl (lv_at hl 4 rfl) ?_
        refine lv_iconst (v := 2) S.x S.b d_Txp_step_130 (by decide) ?_
        refine lv_icmp_lt (tgt := 154) S.x S.b d_Txp_step_131 (by decide) (fun c31 => ?_) (fun c31 => ?_)
        · have nc31 : z16.toInt < (2 : Int) := (i_lt (x := z16) (y := 2)).mp c31
          refine lv_aload_n S.x S.b d_Txp_step_154 rfl (lv_at hl 6 rfl) ?_
          refine lv_iload_n S.x S.b d_Txp_step_155 rfl (lv_at hl 4 rfl) ?_
          refine lv_iload_n S.x S.b d_Txp_step_156 rfl (lv_at hl 3 rfl) ?_
          refine lv_iload S.x S.b d_Txp_step_157 (lv_at hl 2 rfl) ?_
          refine lv_iload S.x S.b d_Txp_step_159 (lv_at hl 1 rfl) ?_
          refine lv_iload S.x S.b d_Txp_step_161 (lv_at hl 0 rfl) ?_
          have hw : pw D A s.heap _ _ [wd_Prg cs hp rp (fun k => if k = 2 then of else none) fp (fun _ _ => 0) (fun _ _ => none), nA cs of fn fd, [((rp 1), .inl (cs 0, cn, .inl cd))], wd_Txp cs h r (fun k => if k = 3 then (some hp) else none) (upd f 4 z29) a g] := hw.sub [1, 2, 3, 0] rfl rfl
          refine px_callv (pr := [wd_Prg cs hp rp (fun k => if k = 2 then of else none) fp (fun _ _ => 0) (fun _ _ => none), nA cs of fn fd, [((rp 1), .inl (cs 0, cn, .inl cd))]]) (px_runV (As := [.int z16, .int z18, .int z21, .int z24, .int z27]) (rest := []) S (c_Txp_compute l D cs h r g hp (upd f 4 z29) a z16 z18 z21 z24 z27  (show TxOk z29 (f 5) (f 8) (f 9) (f 17) (f 21) (a 2) from ⟨lk_mk (by omega), ⟨by first | exact i2 | omega, by first | exact i3 | omega⟩, ⟨by first | exact i4 | omega, by first | exact i5 | omega⟩, ⟨by first | exact i6 | omega, by first | exact i7 | omega⟩, by first | exact i8 | omega, ⟨by first | exact i9 | omega, by first | exact i11 | omega⟩, by first | exact i10 | omega, hrt⟩) (show (f 21).toInt = 0 from by first | exact g0 | omega) _) hT (pr := [wd_Prg cs hp rp (fun k => if k = 2 then of else none) fp (fun _ _ => 0) (fun _ _ => none), nA cs of fn fd, [((rp 1), .inl (cs 0, cn, .inl cd))]]) (pcs := [wd_Txp cs h r (fun k => if k = 3 then (some hp) else none) (upd f 4 z29) a g]) hw px_X.tt (px_recv hT hw 3 0 rfl rfl rfl) m9_65 m9_62 m9_64 ms_7_11 m1_35 q_Txp_compute ⟨Nat.le_of_ble_eq_true rfl, Nat.le_of_ble_eq_true rfl⟩ hl.1 rfl (Nat.le_of_ble_eq_true rfl) d_Txp_step_163 ⟨Nat.le_of_ble_eq_true rfl, Nat.le_of_ble_eq_true rfl⟩) hw hA (fun p34 H locs hp34 hw => ?_)
          obtain ⟨f32, a33, rfl, h41, e36, e37, e38, e39, e40⟩ := hp34
          obtain ⟨lk, ⟨i2, i3⟩, ⟨i4, i5⟩, ⟨i6, i7⟩, i8, ⟨i9, i11⟩, i10, hrt⟩ := h41
          replace e36 : (f32 9).toInt = (f 9).toInt := e36
          replace e37 : (f32 17).toInt = (f 17).toInt := e37
          replace e38 : (f32 21).toInt = 0 := e38
          replace e39 : (f32 15).toInt = (f 15).toInt := e39
          replace e40 : (f32 20).toInt = (f 20).toInt := e40
          replace hw : pw D A s.heap H locs [wd_Prg cs hp rp (fun k => if k = 2 then of else none) fp (fun _ _ => 0) (fun _ _ => none), nA cs of fn fd, [((rp 1), .inl (cs 0, cn, .inl cd))], wd_Txp cs h r (fun k => if k = 3 then (some hp) else none) f32 a33 g] := hw
          have hw : pw D A s.heap _ _ [wd_Txp cs h r (fun k => if k = 3 then (some hp) else none) f32 a33 g, wd_Prg cs hp rp (fun k => if k = 2 then of else none) fp (fun _ _ => 0) (fun _ _ => none), nA cs of fn fd, [((rp 1), .inl (cs 0, cn, .inl cd))]] := hw.sub [3, 0, 1, 2] rfl rfl
          exact px_vret S hr hlk hAe hw (Nat.le_of_ble_eq_true rfl) (Nat.le_of_ble_eq_true rfl) (⟨f32, a33, rfl, (show TxOk (f32 4) (f32 5) (f32 8) (f32 9) (f32 17) (f32 21) (a33 2) from ⟨lk, ⟨by first | exact i2 | omega, by first | exact i3 | omega⟩, ⟨by first | exact i4 | omega, by first | exact i5 | omega⟩, ⟨by first | exact i6 | omega, by first | exact i7 | omega⟩, by first | exact i8 | omega, ⟨by first | exact i9 | omega, by first | exact i11 | omega⟩, by first | exact i10 | omega, hrt⟩), (show (f32 17).toInt = (f 17).toInt from by first | exact e37 | omega), (show (f32 15).toInt = (f 15).toInt from by first | exact e39 | omega), (show (f32 20).toInt = (f 20).toInt from by first | exact e40 | omega)⟩) d_Txp_step_166
        · have nc31 : ¬ z16.toInt < (2 : Int) := mt (i_lt (x := z16) (y := 2)).mpr c31
          refine lv_iload_n S.x S.b d_Txp_step_134 rfl (lv_at hl 4 rfl) ?_
          refine lv_iconst (v := 5) S.x S.b d_Txp_step_135 (by decide) ?_
          refine lv_icmp_gt (tgt := 154) S.x S.b d_Txp_step_136 (by decide) (fun c42 => ?_) (fun c42 => ?_)
          · have nc42 : (5 : Int) < z16.toInt := (i_lt (x := 5) (y := z16)).mp c42
            refine lv_aload_n S.x S.b d_Txp_step_154 rfl (lv_at hl 6 rfl) ?_
            refine lv_iload_n S.x S.b d_Txp_step_155 rfl (lv_at hl 4 rfl) ?_
            refine lv_iload_n S.x S.b d_Txp_step_156 rfl (lv_at hl 3 rfl) ?_
            refine lv_iload S.x S.b d_Txp_step_157 (lv_at hl 2 rfl) ?_
            refine lv_iload S.x S.b d_Txp_step_159 (lv_at hl 1 rfl) ?_
            refine lv_iload S.x S.b d_Txp_step_161 (lv_at hl 0 rfl) ?_
            have hw : pw D A s.heap _ _ [wd_Prg cs hp rp (fun k => if k = 2 then of else none) fp (fun _ _ => 0) (fun _ _ => none), nA cs of fn fd, [((rp 1), .inl (cs 0, cn, .inl cd))], wd_Txp cs h r (fun k => if k = 3 then (some hp) else none) (upd f 4 z29) a g] := hw.sub [1, 2, 3, 0] rfl rfl
            refine px_callv (pr := [wd_Prg cs hp rp (fun k => if k = 2 then of else none) fp (fun _ _ => 0) (fun _ _ => none), nA cs of fn fd, [((rp 1), .inl (cs 0, cn, .inl cd))]]) (px_runV (As := [.int z16, .int z18, .int z21, .int z24, .int z27]) (rest := []) S (c_Txp_compute l D cs h r g hp (upd f 4 z29) a z16 z18 z21 z24 z27  (show TxOk z29 (f 5) (f 8) (f 9) (f 17) (f 21) (a 2) from ⟨lk_mk (by omega), ⟨by first | exact i2 | omega, by first | exact i3 | omega⟩, ⟨by first | exact i4 | omega, by first | exact i5 | omega⟩, ⟨by first | exact i6 | omega, by first | exact i7 | omega⟩, by first | exact i8 | omega, ⟨by first | exact i9 | omega, by first | exact i11 | omega⟩, by first | exact i10 | omega, hrt⟩) (show (f 21).toInt = 0 from by first | exact g0 | omega) _) hT (pr := [wd_Prg cs hp rp (fun k => if k = 2 then of else none) fp (fun _ _ => 0) (fun _ _ => none), nA cs of fn fd, [((rp 1), .inl (cs 0, cn, .inl cd))]]) (pcs := [wd_Txp cs h r (fun k => if k = 3 then (some hp) else none) (upd f 4 z29) a g]) hw px_X.tt (px_recv hT hw 3 0 rfl rfl rfl) m9_65 m9_62 m9_64 ms_7_11 m1_35 q_Txp_compute ⟨Nat.le_of_ble_eq_true rfl, Nat.le_of_ble_eq_true rfl⟩ hl.1 rfl (Nat.le_of_ble_eq_true rfl) d_Txp_step_163 ⟨Nat.le_of_ble_eq_true rfl, Nat.le_of_ble_eq_true rfl⟩) hw hA (fun p45 H locs hp45 hw => ?_)
            obtain ⟨f43, a44, rfl, h52, e47, e48, e49, e50, e51⟩ := hp45
            obtain ⟨lk, ⟨i2, i3⟩, ⟨i4, i5⟩, ⟨i6, i7⟩, i8, ⟨i9, i11⟩, i10, hrt⟩ := h52
            replace e47 : (f43 9).toInt = (f 9).toInt := e47
            replace e48 : (f43 17).toInt = (f 17).toInt := e48
            replace e49 : (f43 21).toInt = 0 := e49
            replace e50 : (f43 15).toInt = (f 15).toInt := e50
            replace e51 : (f43 20).toInt = (f 20).toInt := e51
            replace hw : pw D A s.heap H locs [wd_Prg cs hp rp (fun k => if k = 2 then of else none) fp (fun _ _ => 0) (fun _ _ => none), nA cs of fn fd, [((rp 1), .inl (cs 0, cn, .inl cd))], wd_Txp cs h r (fun k => if k = 3 then (some hp) else none) f43 a44 g] := hw
            have hw : pw D A s.heap _ _ [wd_Txp cs h r (fun k => if k = 3 then (some hp) else none) f43 a44 g, wd_Prg cs hp rp (fun k => if k = 2 then of else none) fp (fun _ _ => 0) (fun _ _ => none), nA cs of fn fd, [((rp 1), .inl (cs 0, cn, .inl cd))]] := hw.sub [3, 0, 1, 2] rfl rfl
            exact px_vret S hr hlk hAe hw (Nat.le_of_ble_eq_true rfl) (Nat.le_of_ble_eq_true rfl) (⟨f43, a44, rfl, (show TxOk (f43 4) (f43 5) (f43 8) (f43 9) (f43 17) (f43 21) (a44 2) from ⟨lk, ⟨by first | exact i2 | omega, by first | exact i3 | omega⟩, ⟨by first | exact i4 | omega, by first | exact i5 | omega⟩, ⟨by first | exact i6 | omega, by first | exact i7 | omega⟩, by first | exact i8 | omega, ⟨by first | exact i9 | omega, by first | exact i11 | omega⟩, by first | exact i10 | omega, hrt⟩), (show (f43 17).toInt = (f 17).toInt from by first | exact e48 | omega), (show (f43 15).toInt = (f 15).toInt from by first | exact e50 | omega), (show (f43 20).toInt = (f 20).toInt from by first | exact e51 | omega)⟩) d_Txp_step_166
          · have nc42 : ¬ (5 : Int) < z16.toInt := mt (i_lt (x := 5) (y := z16)).mpr c42
            refine lv_aload_n S.x S.b d_Txp_step_139 rfl (lv_at hl 6 rfl) ?_
            refine lv_iload_n S.x S.b d_Txp_step_140 rfl (lv_at hl 4 rfl) ?_
            refine lv_iload_n S.x S.b d_Txp_step_141 rfl (lv_at hl 3 rfl) ?_
            refine lv_iload S.x S.b d_Txp_step_142 (lv_at hl 2 rfl) ?_
            refine lv_iload S.x S.b d_Txp_step_144 (lv_at hl 1 rfl) ?_
            refine lv_iload S.x S.b d_Txp_step_146 (lv_at hl 0 rfl) ?_
            have hw : pw D A s.heap _ _ [wd_Prg cs hp rp (fun k => if k = 2 then of else none) fp (fun _ _ => 0) (fun _ _ => none), nA cs of fn fd, [((rp 1), .inl (cs 0, cn, .inl cd))], wd_Txp cs h r (fun k => if k = 3 then (some hp) else none) (upd f 4 z29) a g] := hw.sub [1, 2, 3, 0] rfl rfl
            refine px_callv (pr := [wd_Prg cs hp rp (fun k => if k = 2 then of else none) fp (fun _ _ => 0) (fun _ _ => none), nA cs of fn fd, [((rp 1), .inl (cs 0, cn, .inl cd))]]) (px_runV (As := [.int z16, .int z18, .int z21, .int z24, .int z27]) (rest := []) S (c_Txp_access l D cs h r g hp (upd f 4 z29) a z16 z18 z21 z24 z27  (show TxOk z29 (f 5) (f 8) (f 9) (f 17) (f 21) (a 2) from ⟨lk_mk (by omega), ⟨by first | exact i2 | omega, by first | exact i3 | omega⟩, ⟨by first | exact i4 | omega, by first | exact i5 | omega⟩, ⟨by first | exact i6 | omega, by first | exact i7 | omega⟩, by first | exact i8 | omega, ⟨by first | exact i9 | omega, by first | exact i11 | omega⟩, by first | exact i10 | omega, hrt⟩) (show (f 21).toInt = 0 from by first | exact g0 | omega) _) hT (pr := [wd_Prg cs hp rp (fun k => if k = 2 then of else none) fp (fun _ _ => 0) (fun _ _ => none), nA cs of fn fd, [((rp 1), .inl (cs 0, cn, .inl cd))]]) (pcs := [wd_Txp cs h r (fun k => if k = 3 then (some hp) else none) (upd f 4 z29) a g]) hw px_X.tt (px_recv hT hw 3 0 rfl rfl rfl) m9_39 m9_36 m9_38 ms_7_5 m1_35 q_Txp_access ⟨Nat.le_of_ble_eq_true rfl, Nat.le_of_ble_eq_true rfl⟩ hl.1 rfl (Nat.le_of_ble_eq_true rfl) d_Txp_step_148 ⟨Nat.le_of_ble_eq_true rfl, Nat.le_of_ble_eq_true rfl⟩) hw hA (fun p55 H locs hp55 hw => ?_)
            obtain ⟨f53, a54, rfl, h62, e57, e58, e59, e60, e61⟩ := hp55
            obtain ⟨lk, ⟨i2, i3⟩, ⟨i4, i5⟩, ⟨i6, i7⟩, i8, ⟨i9, i11⟩, i10, hrt⟩ := h62
            replace e57 : (f53 9).toInt = (f 9).toInt := e57
            replace e58 : (f53 17).toInt = (f 17).toInt := e58
            replace e59 : (f53 21).toInt = 0 := e59
            replace e60 : (f53 15).toInt = (f 15).toInt := e60
            replace e61 : (f53 20).toInt = (f 20).toInt := e61
            replace hw : pw D A s.heap H locs [wd_Prg cs hp rp (fun k => if k = 2 then of else none) fp (fun _ _ => 0) (fun _ _ => none), nA cs of fn fd, [((rp 1), .inl (cs 0, cn, .inl cd))], wd_Txp cs h r (fun k => if k = 3 then (some hp) else none) f53 a54 g] := hw
            refine lv_goto (tgt := 166) S.x S.b d_Txp_step_151 (by decide) ?_
            have hw : pw D A s.heap _ _ [wd_Txp cs h r (fun k => if k = 3 then (some hp) else none) f53 a54 g, wd_Prg cs hp rp (fun k => if k = 2 then of else none) fp (fun _ _ => 0) (fun _ _ => none), nA cs of fn fd, [((rp 1), .inl (cs 0, cn, .inl cd))]] := hw.sub [3, 0, 1, 2] rfl rfl
            exact px_vret S hr hlk hAe hw (Nat.le_of_ble_eq_true rfl) (Nat.le_of_ble_eq_true rfl) (⟨f53, a54, rfl, (show TxOk (f53 4) (f53 5) (f53 8) (f53 9) (f53 17) (f53 21) (a54 2) from ⟨lk, ⟨by first | exact i2 | omega, by first | exact i3 | omega⟩, ⟨by first | exact i4 | omega, by first | exact i5 | omega⟩, ⟨by first | exact i6 | omega, by first | exact i7 | omega⟩, by first | exact i8 | omega, ⟨by first | exact i9 | omega, by first | exact i11 | omega⟩, by first | exact i10 | omega, hrt⟩), (show (f53 17).toInt = (f 17).toInt from by first | exact e58 | omega), (show (f53 15).toInt = (f 15).toInt from by first | exact e60 | omega), (show (f53 20).toInt = (f 20).toInt from by first | exact e61 | omega)⟩) d_Txp_step_166
      · have nc30 : ¬ z16.toInt < (15 : Int) := mt (i_lt (x := z16) (y := 15)).mpr c30
        refine lv_aload_n S.x S.b d_Txp_step_117 rfl (lv_at hl 6 rfl) ?_
        refine lv_iload_n S.x S.b d_Txp_step_118 rfl (lv_at hl 4 rfl) ?_
        refine lv_iload S.x S.b d_Txp_step_119 (lv_at hl 2 rfl) ?_
        refine lv_iload S.x S.b d_Txp_step_121 (lv_at hl 1 rfl) ?_
        have hw : pw D A s.heap _ _ [[((rp 1), .inl (cs 0, cn, .inl cd))], wd_Txp cs h r (fun k => if k = 3 then (some hp) else none) (upd f 4 z29) a g, wd_Prg cs hp rp (fun k => if k = 2 then of else none) fp (fun _ _ => 0) (fun _ _ => none), nA cs of fn fd] := hw.sub [3, 0, 1, 2] rfl rfl
        refine px_callv (pr := [[((rp 1), .inl (cs 0, cn, .inl cd))]]) (px_runV (As := [.int z16, .int z21, .int z24]) (rest := []) S (c_Txp_flow l D cs h r g hp (upd f 4 z29) a rp of fp fn fd z16 z21 z24  (show TxOk z29 (f 5) (f 8) (f 9) (f 17) (f 21) (a 2) from ⟨lk_mk (by omega), ⟨by first | exact i2 | omega, by first | exact i3 | omega⟩, ⟨by first | exact i4 | omega, by first | exact i5 | omega⟩, ⟨by first | exact i6 | omega, by first | exact i7 | omega⟩, by first | exact i8 | omega, ⟨by first | exact i9 | omega, by first | exact i11 | omega⟩, by first | exact i10 | omega, hrt⟩) (show (f 21).toInt = 0 from by first | exact g0 | omega) (show fn ≤ 1000000 from by first | exact g1 | omega) (show z16.toInt = 22 → 0 ≤ z21.toInt ∧ z21.toInt ≤ 1000000 from by first | with_reducible rfl | with_reducible assumption | omega) hfd hco.1 _) hT (pr := [[((rp 1), .inl (cs 0, cn, .inl cd))]]) (pcs := [wd_Txp cs h r (fun k => if k = 3 then (some hp) else none) (upd f 4 z29) a g, wd_Prg cs hp rp (fun k => if k = 2 then of else none) fp (fun _ _ => 0) (fun _ _ => none), nA cs of fn fd]) hw px_X.tt (px_recv hT hw 1 0 rfl rfl rfl) m9_11 m9_8 m9_10 ms_6_15 m1_35 q_Txp_flow ⟨Nat.le_of_ble_eq_true rfl, Nat.le_of_ble_eq_true rfl⟩ hl.1 rfl (Nat.le_of_ble_eq_true rfl) d_Txp_step_123 ⟨Nat.le_of_ble_eq_true rfl, Nat.le_of_ble_eq_true rfl⟩) hw hA (fun p65 H locs hp65 hw => ?_)
        obtain ⟨f63, a64, rfl, h70, e67, e68, e69⟩ := hp65
        obtain ⟨lk, ⟨i2, i3⟩, ⟨i4, i5⟩, ⟨i6, i7⟩, i8, ⟨i9, i11⟩, i10, hrt⟩ := h70
        replace e67 : (f63 17).toInt = (f 17).toInt := e67
        replace e68 : (f63 15).toInt = (f 15).toInt := e68
        replace e69 : (f63 20).toInt = (f 20).toInt := e69
        replace hw : pw D A s.heap H locs [[((rp 1), .inl (cs 0, cn, .inl cd))], wd_Txp cs h r (fun k => if k = 3 then (some hp) else none) f63 a64 g, wd_Prg cs hp rp (fun k => if k = 2 then of else none) fp (fun _ _ => 0) (fun _ _ => none), nA cs of fn fd] := hw
        refine lv_goto (tgt := 166) S.x S.b d_Txp_step_126 (by decide) ?_
        have hw : pw D A s.heap _ _ [wd_Txp cs h r (fun k => if k = 3 then (some hp) else none) f63 a64 g, wd_Prg cs hp rp (fun k => if k = 2 then of else none) fp (fun _ _ => 0) (fun _ _ => none), nA cs of fn fd, [((rp 1), .inl (cs 0, cn, .inl cd))]] := hw.sub [1, 2, 3, 0] rfl rfl
        exact px_vret S hr hlk hAe hw (Nat.le_of_ble_eq_true rfl) (Nat.le_of_ble_eq_true rfl) (⟨f63, a64, rfl, (show TxOk (f63 4) (f63 5) (f63 8) (f63 9) (f63 17) (f63 21) (a64 2) from ⟨lk, ⟨by first | exact i2 | omega, by first | exact i3 | omega⟩, ⟨by first | exact i4 | omega, by first | exact i5 | omega⟩, ⟨by first | exact i6 | omega, by first | exact i7 | omega⟩, by first | exact i8 | omega, ⟨by first | exact i9 | omega, by first | exact i11 | omega⟩, by first | exact i10 | omega, hrt⟩), (show (f63 17).toInt = (f 17).toInt from by first | exact e67 | omega), (show (f63 15).toInt = (f 15).toInt from by first | exact e68 | omega), (show (f63 20).toInt = (f 20).toInt from by first | exact e69 | omega)⟩) d_Txp_step_166
    · have nc14 : ¬ z13.toInt ≤ (nI cn).toInt := mt (i_le (x := z13) (y := (nI cn))).mpr c14
      refine lv_aload_n S.x S.b d_Txp_step_30 rfl (lv_at hl 1 rfl) ?_
      refine lv_bipush (v := 7) S.x S.b d_Txp_step_31 (by decide) ?_
      refine lv_iconst (v := 0) S.x S.b d_Txp_step_33 (by decide) ?_
      have hw : pw D A s.heap _ _ [wd_Prg cs hp rp (fun k => if k = 2 then of else none) fp (fun _ _ => 0) (fun _ _ => none), nA cs of fn fd, [((rp 1), .inl (cs 0, cn, .inl cd))], wd_Txp cs h r (fun k => if k = 3 then (some hp) else none) f a g] := hw.sub [1, 2, 3, 0] rfl rfl
      refine px_callv (pr := [wd_Prg cs hp rp (fun k => if k = 2 then of else none) fp (fun _ _ => 0) (fun _ _ => none), nA cs of fn fd, [((rp 1), .inl (cs 0, cn, .inl cd))]]) (px_runU (As := [.int 7, .int 0]) (rest := []) S (c_finish_Txp l D cs h r g hp f a 7 0  (show TxOk (f 4) (f 5) (f 8) (f 9) (f 17) (f 21) (a 2) from ⟨lk, ⟨by first | exact i2 | omega, by first | exact i3 | omega⟩, ⟨by first | exact i4 | omega, by first | exact i5 | omega⟩, ⟨by first | exact i6 | omega, by first | exact i7 | omega⟩, by first | exact i8 | omega, ⟨by first | exact i9 | omega, by first | exact i11 | omega⟩, by first | exact i10 | omega, hrt⟩) _) hT (pr := [wd_Prg cs hp rp (fun k => if k = 2 then of else none) fp (fun _ _ => 0) (fun _ _ => none), nA cs of fn fd, [((rp 1), .inl (cs 0, cn, .inl cd))]]) (pcs := [wd_Txp cs h r (fun k => if k = 3 then (some hp) else none) f a g]) hw px_X.tt (C := "HomeSystem$TextProcess") (x := ⟨"HomeSystem$TextProcess", "finish", "(II)V"⟩) (px_recv hT hw 3 0 rfl rfl rfl) m8_89 m9_5 m9_6 m8_85 m9_7 m1_33 rfl q_HomeSystem_AnyProcess_finish ⟨Nat.le_of_ble_eq_true rfl, Nat.le_of_ble_eq_true rfl⟩ hl.1 rfl (Nat.le_of_ble_eq_true rfl) d_Txp_step_34 ⟨Nat.le_of_ble_eq_true rfl, Nat.le_of_ble_eq_true rfl⟩) hw hA (fun p73 H locs hp73 hw => ?_)
      obtain ⟨f71, a72, rfl, h80, e75, e76, e77, e78, e79⟩ := hp73
      obtain ⟨lk, ⟨i2, i3⟩, ⟨i4, i5⟩, ⟨i6, i7⟩, i8, ⟨i9, i11⟩, i10, hrt⟩ := h80
      replace e75 : (f71 9).toInt = (f 9).toInt := e75
      replace e76 : (f71 17).toInt = (f 17).toInt := e76
      replace e77 : (f71 21).toInt = 0 := e77
      replace e78 : (f71 15).toInt = (f 15).toInt := e78
      replace e79 : (f71 20).toInt = (f 20).toInt := e79
      replace hw : pw D A s.heap H locs [wd_Prg cs hp rp (fun k => if k = 2 then of else none) fp (fun _ _ => 0) (fun _ _ => none), nA cs of fn fd, [((rp 1), .inl (cs 0, cn, .inl cd))], wd_Txp cs h r (fun k => if k = 3 then (some hp) else none) f71 a72 g] := hw
      have hw : pw D A s.heap _ _ [wd_Txp cs h r (fun k => if k = 3 then (some hp) else none) f71 a72 g, wd_Prg cs hp rp (fun k => if k = 2 then of else none) fp (fun _ _ => 0) (fun _ _ => none), nA cs of fn fd, [((rp 1), .inl (cs 0, cn, .inl cd))]] := hw.sub [3, 0, 1, 2] rfl rfl
      exact px_vret S hr hlk hAe hw (Nat.le_of_ble_eq_true rfl) (Nat.le_of_ble_eq_true rfl) (⟨f71, a72, rfl, (show TxOk (f71 4) (f71 5) (f71 8) (f71 9) (f71 17) (f71 21) (a72 2) from ⟨lk, ⟨by first | exact i2 | omega, by first | exact i3 | omega⟩, ⟨by first | exact i4 | omega, by first | exact i5 | omega⟩, ⟨by first | exact i6 | omega, by first | exact i7 | omega⟩, by first | exact i8 | omega, ⟨by first | exact i9 | omega, by first | exact i11 | omega⟩, by first | exact i10 | omega, hrt⟩), (show (f71 17).toInt = (f 17).toInt from by first | exact e76 | omega), (show (f71 15).toInt = (f 15).toInt from by first | exact e78 | omega), (show (f71 20).toInt = (f 20).toInt from by first | exact e79 | omega)⟩) d_Txp_step_37
abbrev b_Txp_go : ByteArray := prog_11_method_3_code
def y_Txp_go : MethodName := ⟨"HomeSystem$TextProcess", "go", "()V"⟩
theorem d_Txp_go_0 : decode b_Txp_go 0 = .ok (.iconst 0, 1) := by decide +kernel
theorem d_Txp_go_1 : decode b_Txp_go 1 = .ok (.istore_n 1, 1) := by decide +kernel
theorem d_Txp_go_2 : decode b_Txp_go 2 = .ok (.iload_n 1, 1) := by decide +kernel
theorem d_Txp_go_3 : decode b_Txp_go 3 = .ok (.ldc 77, 2) := by decide +kernel
theorem d_Txp_go_5 : decode b_Txp_go 5 = .ok (.if_icmp .ge 29, 3) := by decide +kernel
theorem d_Txp_go_8 : decode b_Txp_go 8 = .ok (.aload_n 0, 1) := by decide +kernel
theorem d_Txp_go_9 : decode b_Txp_go 9 = .ok (.getfield 78, 3) := by decide +kernel
theorem d_Txp_go_12 : decode b_Txp_go 12 = .ok (.bipush (-2), 2) := by decide +kernel
theorem d_Txp_go_14 : decode b_Txp_go 14 = .ok (.if_icmp .ne 20, 3) := by decide +kernel
theorem d_Txp_go_17 : decode b_Txp_go 17 = .ok (.aload_n 0, 1) := by decide +kernel
theorem d_Txp_go_18 : decode b_Txp_go 18 = .ok (.getfield 81, 3) := by decide +kernel
theorem d_Txp_go_21 : decode b_Txp_go 21 = .ok (.ifCond .ne 13, 3) := by decide +kernel
theorem d_Txp_go_24 : decode b_Txp_go 24 = .ok (.aload_n 0, 1) := by decide +kernel
theorem d_Txp_go_25 : decode b_Txp_go 25 = .ok (.invokevirtual 85, 3) := by decide +kernel
theorem d_Txp_go_28 : decode b_Txp_go 28 = .ok (.iinc 1 1, 3) := by decide +kernel
theorem d_Txp_go_31 : decode b_Txp_go 31 = .ok (.goto (-29), 3) := by decide +kernel
theorem d_Txp_go_34 : decode b_Txp_go 34 = .ok (.return_, 1) := by decide +kernel
theorem q_Txp_go : px_y y_Txp_go 0 := by unfold px_y; decide +kernel
set_option maxHeartbeats 4000000 in
set_option maxRecDepth 100000 in
theorem c_Txp_go (l : Launch) (D : va_G) (cs : Nat → ClassId) (h : Nat) (r : Nat → Nat) (g : Nat → Nat → Option Nat) (hp : Nat) (f : Nat → Int32) (a : Nat → Nat → Int32) (rp : Nat → Nat) (of : Option Nat) (fp : Nat → Int32) (fn : Nat) (fd : Nat → Int32) (cn : Nat) (cd : Nat → Int32)  (hinv0 : TxOk (f 4) (f 5) (f 8) (f 9) (f 17) (f 21) (a 2)) (g0 : fn ≤ 1000000) (g1 : cn ≤ 100000) (hfd : RtOk fd) (hcd : CodeOk cd) : MetV l y_Txp_go b_Txp_go 2 D cs 4 160 (0) (0) [.ref h] [wd_Txp cs h r (fun k => if k = 3 then (some hp) else none) f a g, wd_Prg cs hp rp (fun k => if k = 2 then of else none) fp (fun _ _ => 0) (fun _ _ => none), nA cs of fn fd, [((rp 1), .inl (cs 0, cn, .inl cd))]] (fun _ => True) (fun ps => ∃ (f' : Nat → Int32) (a' : Nat → Nat → Int32), (ps = [wd_Txp cs h r (fun k => if k = 3 then (some hp) else none) f' a' g, wd_Prg cs hp rp (fun k => if k = 2 then of else none) fp (fun _ _ => 0) (fun _ _ => none), nA cs of fn fd, [((rp 1), .inl (cs 0, cn, .inl cd))]]) ∧ (TxOk (f' 4) (f' 5) (f' 8) (f' 9) (f' 17) (f' 21) (a' 2)) ∧ ((f' 17).toInt = (f 17).toInt) ∧ ((f' 15).toInt = (f 15).toInt) ∧ ((f' 20).toInt = (f 20).toInt)) := by
  refine px_enter (by decide) (Nat.le_of_ble_eq_true rfl) ?_
  intro p e s m below meth c A ls hAe S hr hlk hnm hA hT hX hw hl
  replace hl : lv_has ls 2 [(0, .ref h)] := hl
  have cstm2 : ((-2) : Int32).toInt = (-2) := rfl
  have cst0 : (0 : Int32).toInt = 0 := rfl
  obtain ⟨lk, ⟨i2, i3⟩, ⟨i4, i5⟩, ⟨i6, i7⟩, i8, ⟨i9, i11⟩, i10, hrt⟩ := hinv0
  have J2 : ∀ (n : Nat) (f_2 : Nat → Int32) (a_2 : Nat → Nat → Int32) (x2_1 : Int32) (H : Heap) (locs : List Loc) (ls : Array Slot), (TxOk (f_2 4) (f_2 5) (f_2 8) (f_2 9) (f_2 17) (f_2 21) (a_2 2)) → ((f_2 17).toInt = (f 17).toInt) → ((f_2 15).toInt = (f 15).toInt) → ((f_2 20).toInt = (f 20).toInt) → (0 ≤ x2_1.toInt) → (x2_1.toInt ≤ 1000000) → 1000001-x2_1.toInt < (n : Int) → pw D A s.heap H locs [wd_Txp cs h r (fun k => if k = 3 then (some hp) else none) f_2 a_2 g, wd_Prg cs hp rp (fun k => if k = 2 then of else none) fp (fun _ _ => 0) (fun _ _ => none), nA cs of fn fd, [((rp 1), .inl (cs 0, cn, .inl cd))]] → lv_has ls 2 [(0, .ref h), (1, .int x2_1)] → W p l e { frames := 4, cells := 0, slots := 0, locals := 160 } s m [.ref h].toArray below meth c H locs 0 0 (MQ below (va_Qv (fun ps => ∃ (f' : Nat → Int32) (a' : Nat → Nat → Int32), (ps = [wd_Txp cs h r (fun k => if k = 3 then (some hp) else none) f' a' g, wd_Prg cs hp rp (fun k => if k = 2 then of else none) fp (fun _ _ => 0) (fun _ _ => none), nA cs of fn fd, [((rp 1), .inl (cs 0, cn, .inl cd))]]) ∧ (TxOk (f' 4) (f' 5) (f' 8) (f' 9) (f' 17) (f' 21) (a' 2)) ∧ ((f' 17).toInt = (f 17).toInt) ∧ ((f' 15).toInt = (f 15).toInt) ∧ ((f' 20).toInt = (f 20).toInt)) (pc_B D (va_A ([wd_Txp cs h r (fun k => if k = 3 then (some hp) else none) f a g, wd_Prg cs hp rp (fun k => if k = 2 then of else none) fp (fun _ _ => 0) (fun _ _ => none), nA cs of fn fd, [((rp 1), .inl (cs 0, cn, .inl cd))]] : List va_W).flatten s.heap.size)) (va_A ([wd_Txp cs h r (fun k => if k = 3 then (some hp) else none) f a g, wd_Prg cs hp rp (fun k => if k = 2 then of else none) fp (fun _ _ => 0) (fun _ _ => none), nA cs of fn fd, [((rp 1), .inl (cs 0, cn, .inl cd))]] : List va_W).flatten s.heap.size)) [.ref h].toArray s 0 0 A) (F0 m 2 ls []) := by
    intro n
    induction n with
    | zero =>
      intro f_2 a_2 x2_1 H locs ls hi2_0 k2_0 k2_1 k2_2 k2_3 k2_4 hm hw hl
      obtain ⟨lk, ⟨i2, i3⟩, ⟨i4, i5⟩, ⟨i6, i7⟩, i8, ⟨i9, i11⟩, i10, hrt⟩ := hi2_0
      have lx2_1 := Int32.le_toInt x2_1
      have ux2_1 := Int32.toInt_lt x2_1
      exact absurd hm (by omega)
    | succ n ih =>
      intro f_2 a_2 x2_1 H locs ls hi2_0 k2_0 k2_1 k2_2 k2_3 k2_4 hm hw hl
      obtain ⟨lk, ⟨i2, i3⟩, ⟨i4, i5⟩, ⟨i6, i7⟩, i8, ⟨i9, i11⟩, i10, hrt⟩ := hi2_0
      have lx2_1 := Int32.le_toInt x2_1
      have ux2_1 := Int32.toInt_lt x2_1
      refine lv_iload_n S.x S.b d_Txp_go_2 rfl (lv_at hl 1 rfl) ?_
      refine lv_ldc (v := 1000000) S.x S.b S.own (S.w m9_0) d_Txp_go_3 ?_
      refine lv_icmp_ge (tgt := 34) S.x S.b d_Txp_go_5 (by decide) (fun c1 => ?_) (fun c1 => ?_)
      · have nc1 : (1000000 : Int) ≤ x2_1.toInt := (i_le (x := 1000000) (y := x2_1)).mp c1
        exact px_vret S hr hlk hAe hw (Nat.le_of_ble_eq_true rfl) (Nat.le_of_ble_eq_true rfl) (⟨f_2, a_2, rfl, (show TxOk (f_2 4) (f_2 5) (f_2 8) (f_2 9) (f_2 17) (f_2 21) (a_2 2) from ⟨lk, ⟨by first | exact i2 | omega, by first | exact i3 | omega⟩, ⟨by first | exact i4 | omega, by first | exact i5 | omega⟩, ⟨by first | exact i6 | omega, by first | exact i7 | omega⟩, by first | exact i8 | omega, ⟨by first | exact i9 | omega, by first | exact i11 | omega⟩, by first | exact i10 | omega, hrt⟩), (show (f_2 17).toInt = (f 17).toInt from by first | exact k2_0 | omega), (show (f_2 15).toInt = (f 15).toInt from by first | exact k2_1 | omega), (show (f_2 20).toInt = (f 20).toInt from by first | exact k2_2 | omega)⟩) d_Txp_go_34
      · have nc1 : ¬ (1000000 : Int) ≤ x2_1.toInt := mt (i_le (x := 1000000) (y := x2_1)).mpr c1
        refine lv_aload_n S.x S.b d_Txp_go_8 rfl (lv_at hl 0 rfl) ?_
        refine px_getS S k_Txp hT hw 0 0 18 (v := .int (f_2 18)) rfl rfl rfl (by decide) m6_142 m6_143 d_Txp_go_9 ?_
        refine lv_bipush (v := (-2)) S.x S.b d_Txp_go_12 (by decide) ?_
        refine lv_icmp_ne (tgt := 34) S.x S.b d_Txp_go_14 (by decide) (fun c2 => ?_) (fun c2 => ?_)
        · have nc2 : ¬ (f_2 18).toInt = (-2 : Int) := mt (i_eq (x := (f_2 18)) (y := (-2))).mpr c2
          exact px_vret S hr hlk hAe hw (Nat.le_of_ble_eq_true rfl) (Nat.le_of_ble_eq_true rfl) (⟨f_2, a_2, rfl, (show TxOk (f_2 4) (f_2 5) (f_2 8) (f_2 9) (f_2 17) (f_2 21) (a_2 2) from ⟨lk, ⟨by first | exact i2 | omega, by first | exact i3 | omega⟩, ⟨by first | exact i4 | omega, by first | exact i5 | omega⟩, ⟨by first | exact i6 | omega, by first | exact i7 | omega⟩, by first | exact i8 | omega, ⟨by first | exact i9 | omega, by first | exact i11 | omega⟩, by first | exact i10 | omega, hrt⟩), (show (f_2 17).toInt = (f 17).toInt from by first | exact k2_0 | omega), (show (f_2 15).toInt = (f 15).toInt from by first | exact k2_1 | omega), (show (f_2 20).toInt = (f 20).toInt from by first | exact k2_2 | omega)⟩) d_Txp_go_34
        · have nc2 : (f_2 18).toInt = (-2 : Int) := (i_eq (x := (f_2 18)) (y := (-2))).mp c2
          refine lv_aload_n S.x S.b d_Txp_go_17 rfl (lv_at hl 0 rfl) ?_
          refine px_getS S k_Txp hT hw 0 0 21 (v := .int (f_2 21)) rfl rfl rfl (by decide) m6_153 m6_154 d_Txp_go_18 ?_
          refine lv_if_ne (tgt := 34) S.x S.b d_Txp_go_21 (by decide) (fun c3 => ?_) (fun c3 => ?_)
          · have nc3 : ¬ (f_2 21).toInt = (0 : Int) := mt (i_eq (x := (f_2 21)) (y := 0)).mpr c3
            exact px_vret S hr hlk hAe hw (Nat.le_of_ble_eq_true rfl) (Nat.le_of_ble_eq_true rfl) (⟨f_2, a_2, rfl, (show TxOk (f_2 4) (f_2 5) (f_2 8) (f_2 9) (f_2 17) (f_2 21) (a_2 2) from ⟨lk, ⟨by first | exact i2 | omega, by first | exact i3 | omega⟩, ⟨by first | exact i4 | omega, by first | exact i5 | omega⟩, ⟨by first | exact i6 | omega, by first | exact i7 | omega⟩, by first | exact i8 | omega, ⟨by first | exact i9 | omega, by first | exact i11 | omega⟩, by first | exact i10 | omega, hrt⟩), (show (f_2 17).toInt = (f 17).toInt from by first | exact k2_0 | omega), (show (f_2 15).toInt = (f 15).toInt from by first | exact k2_1 | omega), (show (f_2 20).toInt = (f 20).toInt from by first | exact k2_2 | omega)⟩) d_Txp_go_34
          · have nc3 : (f_2 21).toInt = (0 : Int) := (i_eq (x := (f_2 21)) (y := 0)).mp c3
            refine lv_aload_n S.x S.b d_Txp_go_24 rfl (lv_at hl 0 rfl) ?_
            refine px_callv (pr := []) (px_runV (As := []) (rest := []) S (c_Txp_step l D cs h r g hp f_2 a_2 rp of fp fn fd cn cd   (show TxOk (f_2 4) (f_2 5) (f_2 8) (f_2 9) (f_2 17) (f_2 21) (a_2 2) from ⟨lk, ⟨by first | exact i2 | omega, by first | exact i3 | omega⟩, ⟨by first | exact i4 | omega, by first | exact i5 | omega⟩, ⟨by first | exact i6 | omega, by first | exact i7 | omega⟩, by first | exact i8 | omega, ⟨by first | exact i9 | omega, by first | exact i11 | omega⟩, by first | exact i10 | omega, hrt⟩) (show (f_2 21).toInt = 0 from by first | exact oz_a15db6296b nc3 i9 | omega) (show fn ≤ 1000000 from by first | exact g0 | omega) (show cn ≤ 100000 from by first | exact g1 | omega) hfd hcd _) hT (pr := []) (pcs := [wd_Txp cs h r (fun k => if k = 3 then (some hp) else none) f_2 a_2 g, wd_Prg cs hp rp (fun k => if k = 2 then of else none) fp (fun _ _ => 0) (fun _ _ => none), nA cs of fn fd, [((rp 1), .inl (cs 0, cn, .inl cd))]]) hw px_X.tt (px_recv hT hw 0 0 rfl rfl rfl) m9_4 m9_1 m9_3 ms_6_14 m1_35 q_Txp_step ⟨Nat.le_of_ble_eq_true rfl, Nat.le_of_ble_eq_true rfl⟩ hl.1 rfl (Nat.le_of_ble_eq_true rfl) d_Txp_go_25 ⟨Nat.le_of_ble_eq_true rfl, Nat.le_of_ble_eq_true rfl⟩) hw hA (fun p6 H locs hp6 hw => ?_)
            obtain ⟨f4, a5, rfl, h11, e8, e9, e10⟩ := hp6
            obtain ⟨lk, ⟨i2, i3⟩, ⟨i4, i5⟩, ⟨i6, i7⟩, i8, ⟨i9, i11⟩, i10, hrt⟩ := h11
            replace e8 : (f4 17).toInt = (f_2 17).toInt := e8
            replace e9 : (f4 15).toInt = (f_2 15).toInt := e9
            replace e10 : (f4 20).toInt = (f_2 20).toInt := e10
            replace hw : pw D A s.heap H locs [wd_Txp cs h r (fun k => if k = 3 then (some hp) else none) f4 a5 g, wd_Prg cs hp rp (fun k => if k = 2 then of else none) fp (fun _ _ => 0) (fun _ _ => none), nA cs of fn fd, [((rp 1), .inl (cs 0, cn, .inl cd))]] := hw
            obtain ⟨z12, ez12⟩ : ∃ y : Int32, y = x2_1 + 1 := ⟨_, rfl⟩
            have tz12 : z12.toInt = (x2_1.toInt + 1 + 2147483648) % 4294967296 - 2147483648 := by rw [ez12]; exact i_add x2_1 1
            have lz12 := Int32.le_toInt z12
            have uz12 := Int32.toInt_lt z12
            try replace tz12 : z12.toInt = x2_1.toInt + 1 := by omega
            refine lv_iinc (v := z12) (lv' := [(1, .int z12), (0, .ref h)]) S.x S.b d_Txp_go_28 hl (k := 1) rfl (by rw [ez12]; rfl) (by decide) rfl (fun ls hl => ?_)
            refine lv_goto (tgt := 2) S.x S.b d_Txp_go_31 (by decide) ?_
            exact ih f4 a5 z12 _ _ ls (show TxOk (f4 4) (f4 5) (f4 8) (f4 9) (f4 17) (f4 21) (a5 2) from ⟨lk, ⟨by first | exact i2 | omega, by first | exact i3 | omega⟩, ⟨by first | exact i4 | omega, by first | exact i5 | omega⟩, ⟨by first | exact i6 | omega, by first | exact i7 | omega⟩, by first | exact i8 | omega, ⟨by first | exact i9 | omega, by first | exact i11 | omega⟩, by first | exact i10 | omega, hrt⟩) (show (f4 17).toInt = (f 17).toInt from by first | exact oz_1687f4cc65 k2_0 e8 | omega) (show (f4 15).toInt = (f 15).toInt from by first | exact oz_1687f4cc65 k2_1 e9 | omega) (show (f4 20).toInt = (f 20).toInt from by first | exact oz_1687f4cc65 k2_2 e10 | omega) (show 0 ≤ z12.toInt from by first | exact oz_ae613611c0 tz12 k2_3 | omega) (show z12.toInt ≤ 1000000 from by first | exact oz_596acb4ef1 tz12 nc1 | omega) (show 1000001-z12.toInt < (n : Int) from by first | exact oz_0f57f76235 hm tz12 | omega) hw (lv_sub hl [1, 0] rfl)
  refine lv_iconst (v := 0) S.x S.b d_Txp_go_0 (by decide) ?_
  refine lv_istore_n (lv' := [(1, .int 0), (0, .ref h)]) S.x S.b d_Txp_go_1 rfl hl (by decide) rfl (fun ls hl => ?_)
  exact J2 ((1000001-(0 : Int)).toNat + 1) f a (0 : Int32) _ _ ls (show TxOk (f 4) (f 5) (f 8) (f 9) (f 17) (f 21) (a 2) from ⟨lk, ⟨by first | exact i2 | omega, by first | exact i3 | omega⟩, ⟨by first | exact i4 | omega, by first | exact i5 | omega⟩, ⟨by first | exact i6 | omega, by first | exact i7 | omega⟩, by first | exact i8 | omega, ⟨by first | exact i9 | omega, by first | exact i11 | omega⟩, by first | exact i10 | omega, hrt⟩) (show (f 17).toInt = (f 17).toInt from rfl) (show (f 15).toInt = (f 15).toInt from rfl) (show (f 20).toInt = (f 20).toInt from rfl) (show 0 ≤ (0 : Int) from by first | decide | omega) (show (0 : Int) ≤ 1000000 from by first | decide | omega) (show 1000001-(0 : Int) < ((((1000001-(0 : Int)).toNat + 1 : Nat) : Int) : Int) from by first | exact oz_natlt | omega) hw (lv_sub hl [1, 0] rfl)
