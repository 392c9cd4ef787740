theorem oz_a15db6296b {a0 : Int} (h0 : a0 = (0 : Int)) (h1 : 0 ≤ a0) : a0 = 0 := by omega
theorem oz_596acb4ef1 {a0 a1 : Int} (h0 : a0 = a1 + 1) (h1 : ¬ (1000000 : Int) ≤ a1) : a0 ≤ 1000000 := by omega
theorem oz_0f57f76235 {a0 a2 : Int} {n1 : Nat} (h0 : 1000001-a2 < ((n1 + 1 : Nat) : Int)) (h1 : a0 = a2 + 1) : 1000001-a0 < (n1 : Int) := by omega
theorem oz_302d31b646  : (0 : Int) ≤ 1000000 := by omega
theorem m9_16 : Cond.methodLink "HomeSystem$TextProcess" 158 ⟨"HomeSystem$TextProcess", "pay", "()Z"⟩ ∈ AL := AL_9 (List.mem_of_getElem? (i := 16) rfl) rfl
theorem m9_19 : Cond.code ⟨"HomeSystem$TextProcess", "pay", "()Z"⟩ prog_11_method_22_code 1 (Option.some FieldType.boolean) ∈ AL := AL_9 (List.mem_of_getElem? (i := 19) rfl) rfl
theorem ms_7_1 : Cond.selects "HomeSystem$TextProcess" ⟨"HomeSystem$TextProcess", "pay", "()Z"⟩ ⟨"HomeSystem$TextProcess", "pay", "()Z"⟩ ∈ AL := AL_p (q := (⟨"HomeSystem$TextProcess", "pay", "()Z"⟩, 25)) (by unfold lw_privs; exact List.mem_append_right _ (List.mem_append_right _ (List.mem_append_right _ (List.mem_append_right _ (List.mem_append_right _ (List.mem_append_right _ (List.mem_append_left _ (List.mem_of_getElem? (i := 1) rfl))))))))
theorem m9_18 : Cond.instanceMethod ⟨"HomeSystem$TextProcess", "pay", "()Z"⟩ ∈ AL := AL_9 (List.mem_of_getElem? (i := 18) rfl) rfl
theorem m9_20 : Cond.methodLink "HomeSystem$TextProcess" 162 ⟨"HomeSystem$TextProcess", "call", "(I)V"⟩ ∈ AL := AL_9 (List.mem_of_getElem? (i := 20) rfl) rfl
theorem m9_23 : Cond.code ⟨"HomeSystem$TextProcess", "call", "(I)V"⟩ prog_11_method_23_code 6 (Option.none : Option Jvm.ClassFile.FieldType) ∈ AL := AL_9 (List.mem_of_getElem? (i := 23) rfl) rfl
theorem ms_7_2 : Cond.selects "HomeSystem$TextProcess" ⟨"HomeSystem$TextProcess", "call", "(I)V"⟩ ⟨"HomeSystem$TextProcess", "call", "(I)V"⟩ ∈ AL := AL_p (q := (⟨"HomeSystem$TextProcess", "call", "(I)V"⟩, 25)) (by unfold lw_privs; exact List.mem_append_right _ (List.mem_append_right _ (List.mem_append_right _ (List.mem_append_right _ (List.mem_append_right _ (List.mem_append_right _ (List.mem_append_left _ (List.mem_of_getElem? (i := 2) rfl))))))))
theorem m9_22 : Cond.instanceMethod ⟨"HomeSystem$TextProcess", "call", "(I)V"⟩ ∈ AL := AL_9 (List.mem_of_getElem? (i := 22) rfl) rfl
theorem m9_28 : Cond.methodLink "HomeSystem$TextProcess" 165 ⟨"HomeSystem$TextProcess", "ask", "(I)V"⟩ ∈ AL := AL_9 (List.mem_of_getElem? (i := 28) rfl) rfl
theorem m9_31 : Cond.code ⟨"HomeSystem$TextProcess", "ask", "(I)V"⟩ prog_11_method_25_code 2 (Option.none : Option Jvm.ClassFile.FieldType) ∈ AL := AL_9 (List.mem_of_getElem? (i := 31) rfl) rfl
theorem ms_7_3 : Cond.selects "HomeSystem$TextProcess" ⟨"HomeSystem$TextProcess", "ask", "(I)V"⟩ ⟨"HomeSystem$TextProcess", "ask", "(I)V"⟩ ∈ AL := AL_p (q := (⟨"HomeSystem$TextProcess", "ask", "(I)V"⟩, 25)) (by unfold lw_privs; exact List.mem_append_right _ (List.mem_append_right _ (List.mem_append_right _ (List.mem_append_right _ (List.mem_append_right _ (List.mem_append_right _ (List.mem_append_left _ (List.mem_of_getElem? (i := 3) rfl))))))))
theorem m9_30 : Cond.instanceMethod ⟨"HomeSystem$TextProcess", "ask", "(I)V"⟩ ∈ AL := AL_9 (List.mem_of_getElem? (i := 30) rfl) rfl
theorem m9_32 : Cond.methodLink "HomeSystem$TextProcess" 168 ⟨"HomeSystem$TextProcess", "give", "()V"⟩ ∈ AL := AL_9 (List.mem_of_getElem? (i := 32) rfl) rfl
theorem m9_35 : Cond.code ⟨"HomeSystem$TextProcess", "give", "()V"⟩ prog_11_method_24_code 2 (Option.none : Option Jvm.ClassFile.FieldType) ∈ AL := AL_9 (List.mem_of_getElem? (i := 35) rfl) rfl
theorem ms_7_4 : Cond.selects "HomeSystem$TextProcess" ⟨"HomeSystem$TextProcess", "give", "()V"⟩ ⟨"HomeSystem$TextProcess", "give", "()V"⟩ ∈ AL := AL_p (q := (⟨"HomeSystem$TextProcess", "give", "()V"⟩, 25)) (by unfold lw_privs; exact List.mem_append_right _ (List.mem_append_right _ (List.mem_append_right _ (List.mem_append_right _ (List.mem_append_right _ (List.mem_append_right _ (List.mem_append_left _ (List.mem_of_getElem? (i := 4) rfl))))))))
theorem m9_34 : Cond.instanceMethod ⟨"HomeSystem$TextProcess", "give", "()V"⟩ ∈ AL := AL_9 (List.mem_of_getElem? (i := 34) rfl) rfl
theorem m2_102 : Cond.fieldLink "HomeSystem$TextProcess" 102 "HomeSystem$Program" "code" "[I" ∈ AL := AL_2 (List.mem_of_getElem? (i := 102) rfl) rfl
theorem m9_62 : Cond.methodLink "HomeSystem$TextProcess" 116 ⟨"HomeSystem$TextProcess", "compute", "(IIIII)V"⟩ ∈ AL := AL_9 (List.mem_of_getElem? (i := 62) rfl) rfl
theorem m9_65 : Cond.code ⟨"HomeSystem$TextProcess", "compute", "(IIIII)V"⟩ prog_11_method_13_code 8 (Option.none : Option Jvm.ClassFile.FieldType) ∈ AL := AL_9 (List.mem_of_getElem? (i := 65) rfl) rfl
theorem ms_7_11 : Cond.selects "HomeSystem$TextProcess" ⟨"HomeSystem$TextProcess", "compute", "(IIIII)V"⟩ ⟨"HomeSystem$TextProcess", "compute", "(IIIII)V"⟩ ∈ AL := AL_p (q := (⟨"HomeSystem$TextProcess", "compute", "(IIIII)V"⟩, 25)) (by unfold lw_privs; exact List.mem_append_right _ (List.mem_append_right _ (List.mem_append_right _ (List.mem_append_right _ (List.mem_append_right _ (List.mem_append_right _ (List.mem_append_left _ (List.mem_of_getElem? (i := 11) rfl))))))))
theorem m9_64 : Cond.instanceMethod ⟨"HomeSystem$TextProcess", "compute", "(IIIII)V"⟩ ∈ AL := AL_9 (List.mem_of_getElem? (i := 64) rfl) rfl
theorem m9_36 : Cond.methodLink "HomeSystem$TextProcess" 112 ⟨"HomeSystem$TextProcess", "access", "(IIIII)V"⟩ ∈ AL := AL_9 (List.mem_of_getElem? (i := 36) rfl) rfl
theorem m9_39 : Cond.code ⟨"HomeSystem$TextProcess", "access", "(IIIII)V"⟩ prog_11_method_20_code 10 (Option.none : Option Jvm.ClassFile.FieldType) ∈ AL := AL_9 (List.mem_of_getElem? (i := 39) rfl) rfl
theorem ms_7_5 : Cond.selects "HomeSystem$TextProcess" ⟨"HomeSystem$TextProcess", "access", "(IIIII)V"⟩ ⟨"HomeSystem$TextProcess", "access", "(IIIII)V"⟩ ∈ AL := AL_p (q := (⟨"HomeSystem$TextProcess", "access", "(IIIII)V"⟩, 25)) (by unfold lw_privs; exact List.mem_append_right _ (List.mem_append_right _ (List.mem_append_right _ (List.mem_append_right _ (List.mem_append_right _ (List.mem_append_right _ (List.mem_append_left _ (List.mem_of_getElem? (i := 5) rfl))))))))
theorem m9_38 : Cond.instanceMethod ⟨"HomeSystem$TextProcess", "access", "(IIIII)V"⟩ ∈ AL := AL_9 (List.mem_of_getElem? (i := 38) rfl) rfl
theorem m9_8 : Cond.methodLink "HomeSystem$TextProcess" 108 ⟨"HomeSystem$TextProcess", "flow", "(III)V"⟩ ∈ AL := AL_9 (List.mem_of_getElem? (i := 8) rfl) rfl
theorem m9_11 : Cond.code ⟨"HomeSystem$TextProcess", "flow", "(III)V"⟩ prog_11_method_21_code 6 (Option.none : Option Jvm.ClassFile.FieldType) ∈ AL := AL_9 (List.mem_of_getElem? (i := 11) rfl) rfl
theorem ms_6_15 : Cond.selects "HomeSystem$TextProcess" ⟨"HomeSystem$TextProcess", "flow", "(III)V"⟩ ⟨"HomeSystem$TextProcess", "flow", "(III)V"⟩ ∈ AL := AL_p (q := (⟨"HomeSystem$TextProcess", "flow", "(III)V"⟩, 25)) (by unfold lw_privs; exact List.mem_append_right _ (List.mem_append_right _ (List.mem_append_right _ (List.mem_append_right _ (List.mem_append_right _ (List.mem_append_left _ (List.mem_of_getElem? (i := 15) rfl)))))))
theorem m9_10 : Cond.instanceMethod ⟨"HomeSystem$TextProcess", "flow", "(III)V"⟩ ∈ AL := AL_9 (List.mem_of_getElem? (i := 10) rfl) rfl
theorem m9_0 : Cond.constant "HomeSystem$TextProcess" 77 (1000000) ∈ AL := AL_9 (List.mem_of_getElem? (i := 0) rfl) rfl
theorem m6_142 : Cond.fieldLink "HomeSystem$TextProcess" 78 "HomeSystem$TextProcess" "outcome" "I" ∈ AL := AL_6 (List.mem_of_getElem? (i := 142) rfl) rfl
theorem m6_143 : Cond.sameField "HomeSystem$TextProcess" "HomeSystem$AnyProcess" "outcome" "I" ∈ AL := AL_6 (List.mem_of_getElem? (i := 143) rfl) rfl
theorem m9_1 : Cond.methodLink "HomeSystem$TextProcess" 85 ⟨"HomeSystem$TextProcess", "step", "()V"⟩ ∈ AL := AL_9 (List.mem_of_getElem? (i := 1) rfl) rfl
theorem m9_4 : Cond.code ⟨"HomeSystem$TextProcess", "step", "()V"⟩ prog_11_method_12_code 7 (Option.none : Option Jvm.ClassFile.FieldType) ∈ AL := AL_9 (List.mem_of_getElem? (i := 4) rfl) rfl
theorem ms_6_14 : Cond.selects "HomeSystem$TextProcess" ⟨"HomeSystem$TextProcess", "step", "()V"⟩ ⟨"HomeSystem$TextProcess", "step", "()V"⟩ ∈ AL := AL_p (q := (⟨"HomeSystem$TextProcess", "step", "()V"⟩, 25)) (by unfold lw_privs; exact List.mem_append_right _ (List.mem_append_right _ (List.mem_append_right _ (List.mem_append_right _ (List.mem_append_right _ (List.mem_append_left _ (List.mem_of_getElem? (i := 14) rfl)))))))
theorem m9_3 : Cond.instanceMethod ⟨"HomeSystem$TextProcess", "step", "()V"⟩ ∈ AL := AL_9 (List.mem_of_getElem? (i := 3) rfl) rfl
abbrev b_Txp_flow : ByteArray := prog_11_method_21_code
def y_Txp_flow : MethodName := ⟨"HomeSystem$TextProcess", "flow", "(III)V"⟩
theorem d_Txp_flow_0 : decode b_Txp_flow 0 = .ok (.iload_n 1, 1) := by decide +kernel
theorem d_Txp_flow_1 : decode b_Txp_flow 1 = .ok (.tableswitch 226 15 24 #[55, 63, 85, 107, 107, 152, 181, 189, 204, 219], 55) := by decide +kernel
theorem d_Txp_flow_56 : decode b_Txp_flow 56 = .ok (.aload_n 0, 1) := by decide +kernel
theorem d_Txp_flow_57 : decode b_Txp_flow 57 = .ok (.iload_n 2, 1) := by decide +kernel
theorem d_Txp_flow_58 : decode b_Txp_flow 58 = .ok (.putfield 41, 3) := by decide +kernel
theorem d_Txp_flow_61 : decode b_Txp_flow 61 = .ok (.goto 175, 3) := by decide +kernel
theorem d_Txp_flow_64 : decode b_Txp_flow 64 = .ok (.aload_n 0, 1) := by decide +kernel
theorem d_Txp_flow_65 : decode b_Txp_flow 65 = .ok (.aload_n 0, 1) := by decide +kernel
theorem d_Txp_flow_66 : decode b_Txp_flow 66 = .ok (.invokevirtual 119, 3) := by decide +kernel
theorem d_Txp_flow_69 : decode b_Txp_flow 69 = .ok (.ifCond .ne 7, 3) := by decide +kernel
theorem d_Txp_flow_72 : decode b_Txp_flow 72 = .ok (.iload_n 2, 1) := by decide +kernel
theorem d_Txp_flow_73 : decode b_Txp_flow 73 = .ok (.goto 7, 3) := by decide +kernel
theorem d_Txp_flow_76 : decode b_Txp_flow 76 = .ok (.aload_n 0, 1) := by decide +kernel
theorem d_Txp_flow_77 : decode b_Txp_flow 77 = .ok (.getfield 41, 3) := by decide +kernel
theorem d_Txp_flow_80 : decode b_Txp_flow 80 = .ok (.putfield 41, 3) := by decide +kernel
theorem d_Txp_flow_83 : decode b_Txp_flow 83 = .ok (.goto 153, 3) := by decide +kernel
theorem d_Txp_flow_86 : decode b_Txp_flow 86 = .ok (.aload_n 0, 1) := by decide +kernel
theorem d_Txp_flow_87 : decode b_Txp_flow 87 = .ok (.aload_n 0, 1) := by decide +kernel
theorem d_Txp_flow_88 : decode b_Txp_flow 88 = .ok (.invokevirtual 119, 3) := by decide +kernel
theorem d_Txp_flow_91 : decode b_Txp_flow 91 = .ok (.ifCond .eq 7, 3) := by decide +kernel
theorem d_Txp_flow_94 : decode b_Txp_flow 94 = .ok (.iload_n 2, 1) := by decide +kernel
theorem d_Txp_flow_95 : decode b_Txp_flow 95 = .ok (.goto 7, 3) := by decide +kernel
theorem d_Txp_flow_98 : decode b_Txp_flow 98 = .ok (.aload_n 0, 1) := by decide +kernel
theorem d_Txp_flow_99 : decode b_Txp_flow 99 = .ok (.getfield 41, 3) := by decide +kernel
theorem d_Txp_flow_102 : decode b_Txp_flow 102 = .ok (.putfield 41, 3) := by decide +kernel
theorem d_Txp_flow_105 : decode b_Txp_flow 105 = .ok (.goto 131, 3) := by decide +kernel
theorem d_Txp_flow_108 : decode b_Txp_flow 108 = .ok (.aload_n 0, 1) := by decide +kernel
theorem d_Txp_flow_109 : decode b_Txp_flow 109 = .ok (.invokevirtual 119, 3) := by decide +kernel
theorem d_Txp_flow_112 : decode b_Txp_flow 112 = .ok (.ifCond .eq 8, 3) := by decide +kernel
theorem d_Txp_flow_115 : decode b_Txp_flow 115 = .ok (.bipush 19, 2) := by decide +kernel
theorem d_Txp_flow_117 : decode b_Txp_flow 117 = .ok (.goto 5, 3) := by decide +kernel
theorem d_Txp_flow_120 : decode b_Txp_flow 120 = .ok (.bipush 18, 2) := by decide +kernel
theorem d_Txp_flow_122 : decode b_Txp_flow 122 = .ok (.istore 4, 2) := by decide +kernel
theorem d_Txp_flow_124 : decode b_Txp_flow 124 = .ok (.iload 4, 2) := by decide +kernel
theorem d_Txp_flow_126 : decode b_Txp_flow 126 = .ok (.iload_n 1, 1) := by decide +kernel
theorem d_Txp_flow_127 : decode b_Txp_flow 127 = .ok (.if_icmp .ne 109, 3) := by decide +kernel
theorem d_Txp_flow_130 : decode b_Txp_flow 130 = .ok (.aload_n 0, 1) := by decide +kernel
theorem d_Txp_flow_131 : decode b_Txp_flow 131 = .ok (.iload_n 1, 1) := by decide +kernel
theorem d_Txp_flow_132 : decode b_Txp_flow 132 = .ok (.bipush 19, 2) := by decide +kernel
theorem d_Txp_flow_134 : decode b_Txp_flow 134 = .ok (.if_icmp .ne 7, 3) := by decide +kernel
theorem d_Txp_flow_137 : decode b_Txp_flow 137 = .ok (.iconst 1, 1) := by decide +kernel
theorem d_Txp_flow_138 : decode b_Txp_flow 138 = .ok (.goto 4, 3) := by decide +kernel
theorem d_Txp_flow_141 : decode b_Txp_flow 141 = .ok (.iconst 0, 1) := by decide +kernel
theorem d_Txp_flow_142 : decode b_Txp_flow 142 = .ok (.invokevirtual 74, 3) := by decide +kernel
theorem d_Txp_flow_145 : decode b_Txp_flow 145 = .ok (.aload_n 0, 1) := by decide +kernel
theorem d_Txp_flow_146 : decode b_Txp_flow 146 = .ok (.iload_n 2, 1) := by decide +kernel
theorem d_Txp_flow_147 : decode b_Txp_flow 147 = .ok (.putfield 41, 3) := by decide +kernel
theorem d_Txp_flow_150 : decode b_Txp_flow 150 = .ok (.goto 86, 3) := by decide +kernel
theorem d_Txp_flow_153 : decode b_Txp_flow 153 = .ok (.aload_n 0, 1) := by decide +kernel
theorem d_Txp_flow_154 : decode b_Txp_flow 154 = .ok (.invokevirtual 119, 3) := by decide +kernel
theorem d_Txp_flow_157 : decode b_Txp_flow 157 = .ok (.istore 5, 2) := by decide +kernel
theorem d_Txp_flow_159 : decode b_Txp_flow 159 = .ok (.iload 5, 2) := by decide +kernel
theorem d_Txp_flow_161 : decode b_Txp_flow 161 = .ok (.iload_n 3, 1) := by decide +kernel
theorem d_Txp_flow_162 : decode b_Txp_flow 162 = .ok (.if_icmp .ne 11, 3) := by decide +kernel
theorem d_Txp_flow_165 : decode b_Txp_flow 165 = .ok (.aload_n 0, 1) := by decide +kernel
theorem d_Txp_flow_166 : decode b_Txp_flow 166 = .ok (.iload_n 2, 1) := by decide +kernel
theorem d_Txp_flow_167 : decode b_Txp_flow 167 = .ok (.putfield 41, 3) := by decide +kernel
theorem d_Txp_flow_170 : decode b_Txp_flow 170 = .ok (.goto 66, 3) := by decide +kernel
theorem d_Txp_flow_173 : decode b_Txp_flow 173 = .ok (.aload_n 0, 1) := by decide +kernel
theorem d_Txp_flow_174 : decode b_Txp_flow 174 = .ok (.iload 5, 2) := by decide +kernel
theorem d_Txp_flow_176 : decode b_Txp_flow 176 = .ok (.invokevirtual 74, 3) := by decide +kernel
theorem d_Txp_flow_179 : decode b_Txp_flow 179 = .ok (.goto 57, 3) := by decide +kernel
theorem d_Txp_flow_182 : decode b_Txp_flow 182 = .ok (.aload_n 0, 1) := by decide +kernel
theorem d_Txp_flow_183 : decode b_Txp_flow 183 = .ok (.invokevirtual 158, 3) := by decide +kernel
theorem d_Txp_flow_186 : decode b_Txp_flow 186 = .ok (.pop, 1) := by decide +kernel
theorem d_Txp_flow_187 : decode b_Txp_flow 187 = .ok (.goto 49, 3) := by decide +kernel
theorem d_Txp_flow_190 : decode b_Txp_flow 190 = .ok (.aload_n 0, 1) := by decide +kernel
theorem d_Txp_flow_191 : decode b_Txp_flow 191 = .ok (.invokevirtual 158, 3) := by decide +kernel
theorem d_Txp_flow_194 : decode b_Txp_flow 194 = .ok (.ifCond .eq 42, 3) := by decide +kernel
theorem d_Txp_flow_197 : decode b_Txp_flow 197 = .ok (.aload_n 0, 1) := by decide +kernel
theorem d_Txp_flow_198 : decode b_Txp_flow 198 = .ok (.iload_n 2, 1) := by decide +kernel
theorem d_Txp_flow_199 : decode b_Txp_flow 199 = .ok (.invokevirtual 162, 3) := by decide +kernel
theorem d_Txp_flow_202 : decode b_Txp_flow 202 = .ok (.goto 34, 3) := by decide +kernel
theorem d_Txp_flow_205 : decode b_Txp_flow 205 = .ok (.aload_n 0, 1) := by decide +kernel
theorem d_Txp_flow_206 : decode b_Txp_flow 206 = .ok (.invokevirtual 158, 3) := by decide +kernel
theorem d_Txp_flow_209 : decode b_Txp_flow 209 = .ok (.ifCond .eq 27, 3) := by decide +kernel
theorem d_Txp_flow_212 : decode b_Txp_flow 212 = .ok (.aload_n 0, 1) := by decide +kernel
theorem d_Txp_flow_213 : decode b_Txp_flow 213 = .ok (.iload_n 2, 1) := by decide +kernel
theorem d_Txp_flow_214 : decode b_Txp_flow 214 = .ok (.invokevirtual 165, 3) := by decide +kernel
theorem d_Txp_flow_217 : decode b_Txp_flow 217 = .ok (.goto 19, 3) := by decide +kernel
theorem d_Txp_flow_220 : decode b_Txp_flow 220 = .ok (.aload_n 0, 1) := by decide +kernel
theorem d_Txp_flow_221 : decode b_Txp_flow 221 = .ok (.invokevirtual 168, 3) := by decide +kernel
theorem d_Txp_flow_224 : decode b_Txp_flow 224 = .ok (.goto 12, 3) := by decide +kernel
theorem d_Txp_flow_227 : decode b_Txp_flow 227 = .ok (.aload_n 0, 1) := by decide +kernel
theorem d_Txp_flow_228 : decode b_Txp_flow 228 = .ok (.iconst 0, 1) := by decide +kernel
theorem d_Txp_flow_229 : decode b_Txp_flow 229 = .ok (.aload_n 0, 1) := by decide +kernel
theorem d_Txp_flow_230 : decode b_Txp_flow 230 = .ok (.invokevirtual 119, 3) := by decide +kernel
theorem d_Txp_flow_233 : decode b_Txp_flow 233 = .ok (.invokevirtual 105, 3) := by decide +kernel
theorem d_Txp_flow_236 : decode b_Txp_flow 236 = .ok (.return_, 1) := by decide +kernel
theorem q_Txp_flow : px_y y_Txp_flow 3 := by unfold px_y; decide +kernel
set_option maxHeartbeats 4000000 in
set_option maxRecDepth 100000 in
theorem c_Txp_flow (l : Launch) (D : va_G) (cs : Nat → ClassId) (h : Nat) (r : Nat → Nat) (g : Nat → Nat → Option Nat) (hp : Nat) (f : Nat → Int32) (a : Nat → Nat → Int32) (rp : Nat → Nat) (of : Option Nat) (fp : Nat → Int32) (fn : Nat) (fd : Nat → Int32) (p0 p1 p2 : Int32)  (hinv0 : TxOk (f 4) (f 5) (f 8) (f 9) (f 17) (f 21) (a 2)) (g0 : (f 21).toInt = 0) (g1 : fn ≤ 1000000) (g2 : p0.toInt = 22 → 0 ≤ p1.toInt ∧ p1.toInt ≤ 1000000) (hfd : RtOk fd) (hlka : 15 ≤ p0.toInt → p0.toInt ≤ 20 → Lk p1) : MetV l y_Txp_flow b_Txp_flow 6 D cs 2 80 (0) (0) [.ref h, .int p0, .int p1, .int p2] [wd_Txp cs h r (fun k => if k = 3 then (some hp) else none) f a g, wd_Prg cs hp rp (fun k => if k = 2 then of else none) fp (fun _ _ => 0) (fun _ _ => none), nA cs of fn fd] (fun _ => True) (fun ps => ∃ (f' : Nat → Int32) (a' : Nat → Nat → Int32), (ps = [wd_Txp cs h r (fun k => if k = 3 then (some hp) else none) f' a' g, wd_Prg cs hp rp (fun k => if k = 2 then of else none) fp (fun _ _ => 0) (fun _ _ => none), nA cs of fn fd]) ∧ (TxOk (f' 4) (f' 5) (f' 8) (f' 9) (f' 17) (f' 21) (a' 2)) ∧ ((f' 17).toInt = (f 17).toInt) ∧ ((f' 15).toInt = (f 15).toInt) ∧ ((f' 20).toInt = (f 20).toInt) ∧ (R_Txp_flow of fn fd p0 p1 p2 f a f' a')) := by
  refine px_enter (by decide) (Nat.le_of_ble_eq_true rfl) ?_
  intro p e s m below meth c A ls hAe S hr hlk hnm hA hT hX hw hl
  have hl : lv_has ls 6 [(0, .ref h), (1, .int p0), (2, .int p1), (3, .int p2)] := hl
  have lp0 := Int32.le_toInt p0
  have up0 := Int32.toInt_lt p0
  have lp1 := Int32.le_toInt p1
  have up1 := Int32.toInt_lt p1
  have lp2 := Int32.le_toInt p2
  have up2 := Int32.toInt_lt p2
  have cst0 : (0 : Int32).toInt = 0 := rfl
  have cst1 : (1 : Int32).toInt = 1 := rfl
  have cst18 : (18 : Int32).toInt = 18 := rfl
  have cst19 : (19 : Int32).toInt = 19 := rfl
  obtain ⟨lk, ⟨i2, i3⟩, ⟨i4, i5⟩, ⟨i6, i7⟩, i8, ⟨i9, i11⟩, i10, hrt⟩ := hinv0
  refine lv_iload_n S.x S.b d_Txp_flow_0 rfl (lv_at hl 1 rfl) ?_
  refine px_tabD S (dt := 227) [(56, [15]), (64, [16]), (86, [17]), (108, [18, 19]), (153, [20]), (182, [21]), (190, [22]), (205, [23]), (220, [24])] d_Txp_flow_1 (by decide +kernel) (by decide) (by decide +kernel) ?_ ?_
  · intro hdf_1
    refine lv_aload_n S.x S.b d_Txp_flow_227 rfl (lv_at hl 0 rfl) ?_
    refine lv_iconst (v := 0) S.x S.b d_Txp_flow_228 (by decide) ?_
    refine lv_aload_n S.x S.b d_Txp_flow_229 rfl (lv_at hl 0 rfl) ?_
    have hw : pw D A s.heap _ _ [wd_Prg cs hp rp (fun k => if k = 2 then of else none) fp (fun _ _ => 0) (fun _ _ => none), nA cs of fn fd, wd_Txp cs h r (fun k => if k = 3 then (some hp) else none) f a g] := hw.sub [1, 2, 0] rfl rfl
    refine px_calli (pr := [wd_Prg cs hp rp (fun k => if k = 2 then of else none) fp (fun _ _ => 0) (fun _ _ => none), nA cs of fn fd]) (px_runV (As := []) (rest := [.int 0, .ref h]) S (c_Txp_pop l D cs h r g hp f a   (show TxOk (f 4) (f 5) (f 8) (f 9) (f 17) (f 21) (a 2) from ⟨lk, ⟨by first | exact i2 | omega, by first | exact i3 | omega⟩, ⟨by first | exact i4 | omega, by first | exact i5 | omega⟩, ⟨by first | exact i6 | omega, by first | exact i7 | omega⟩, by first | exact i8 | omega, ⟨by first | exact i9 | omega, by first | exact i11 | omega⟩, by first | exact i10 | omega, hrt⟩) _) hT (pr := [wd_Prg cs hp rp (fun k => if k = 2 then of else none) fp (fun _ _ => 0) (fun _ _ => none), nA cs of fn fd]) (pcs := [wd_Txp cs h r (fun k => if k = 3 then (some hp) else none) f a g]) hw px_X.tt (px_recv hT hw 2 0 rfl rfl rfl) m9_15 m9_12 m9_14 ms_7_0 m1_35 q_Txp_pop ⟨Nat.le_of_ble_eq_true rfl, Nat.le_of_ble_eq_true rfl⟩ hl.1 rfl (Nat.le_of_ble_eq_true rfl) d_Txp_flow_230 ⟨Nat.le_of_ble_eq_true rfl, Nat.le_of_ble_eq_true rfl⟩) hw hA (fun v5 p4 H locs hp4 hw => ?_)
    obtain ⟨f2, a3, rfl, h13, e6, e7, e8, e9, e10, e11, e12⟩ := hp4
    obtain ⟨lk, ⟨i2, i3⟩, ⟨i4, i5⟩, ⟨i6, i7⟩, i8, ⟨i9, i11⟩, i10, hrt⟩ := h13
    have e6 : (f2 9).toInt = (f 9).toInt := e6
    have e7 : (f2 17).toInt = (f 17).toInt := e7
    have e8 : (f2 21).toInt = (f 21).toInt := e8
    have e9 : (f2 15).toInt = (f 15).toInt := e9
    have e10 : (f2 20).toInt = (f 20).toInt := e10
    have e11 : (f2 4).toInt = (f 4).toInt := e11
    have e12 : R_Txp_pop f a f2 a3 v5 := e12
    have hw : pw D A s.heap H locs [wd_Prg cs hp rp (fun k => if k = 2 then of else none) fp (fun _ _ => 0) (fun _ _ => none), nA cs of fn fd, wd_Txp cs h r (fun k => if k = 3 then (some hp) else none) f2 a3 g] := hw
    have lv5 := Int32.le_toInt v5
    have uv5 := Int32.toInt_lt v5
    refine px_callv (pr := [wd_Prg cs hp rp (fun k => if k = 2 then of else none) fp (fun _ _ => 0) (fun _ _ => none), nA cs of fn fd]) (px_runU (As := [.int 0, .int v5]) (rest := []) S (c_finish_Txp l D cs h r g hp f2 a3 0 v5  (show TxOk (f2 4) (f2 5) (f2 8) (f2 9) (f2 17) (f2 21) (a3 2) from ⟨lk, ⟨by first | exact i2 | omega, by first | exact i3 | omega⟩, ⟨by first | exact i4 | omega, by first | exact i5 | omega⟩, ⟨by first | exact i6 | omega, by first | exact i7 | omega⟩, by first | exact i8 | omega, ⟨by first | exact i9 | omega, by first | exact i11 | omega⟩, by first | exact i10 | omega, hrt⟩) _) hT (pr := [wd_Prg cs hp rp (fun k => if k = 2 then of else none) fp (fun _ _ => 0) (fun _ _ => none), nA cs of fn fd]) (pcs := [wd_Txp cs h r (fun k => if k = 3 then (some hp) else none) f2 a3 g]) hw px_X.tt (C := "HomeSystem$TextProcess") (x := ⟨"HomeSystem$TextProcess", "finish", "(II)V"⟩) (px_recv hT hw 2 0 rfl rfl rfl) m8_89 m9_5 m9_6 m8_85 m9_7 m1_33 rfl q_HomeSystem_AnyProcess_finish ⟨Nat.le_of_ble_eq_true rfl, Nat.le_of_ble_eq_true rfl⟩ hl.1 rfl (Nat.le_of_ble_eq_true rfl) d_Txp_flow_233 ⟨Nat.le_of_ble_eq_true rfl, Nat.le_of_ble_eq_true rfl⟩) hw hA (fun p16 H locs hp16 hw => ?_)
    obtain ⟨f14, a15, rfl, h24, e18, e19, e20, e21, e22, e23⟩ := hp16
    obtain ⟨lk, ⟨i2, i3⟩, ⟨i4, i5⟩, ⟨i6, i7⟩, i8, ⟨i9, i11⟩, i10, hrt⟩ := h24
    have e18 : (f14 9).toInt = (f2 9).toInt := e18
    have e19 : (f14 17).toInt = (f2 17).toInt := e19
    have e20 : (f14 21).toInt = 0 := e20
    have e21 : (f14 15).toInt = (f2 15).toInt := e21
    have e22 : (f14 20).toInt = (f2 20).toInt := e22
    have e23 : R_finish_Txp (0 : Int32) v5 f2 a3 f14 a15 := e23
    have hw : pw D A s.heap H locs [wd_Prg cs hp rp (fun k => if k = 2 then of else none) fp (fun _ _ => 0) (fun _ _ => none), nA cs of fn fd, wd_Txp cs h r (fun k => if k = 3 then (some hp) else none) f14 a15 g] := hw
    have hw : pw D A s.heap _ _ [wd_Txp cs h r (fun k => if k = 3 then (some hp) else none) f14 a15 g, wd_Prg cs hp rp (fun k => if k = 2 then of else none) fp (fun _ _ => 0) (fun _ _ => none), nA cs of fn fd] := hw.sub [2, 0, 1] rfl rfl
    exact px_vret S hr hlk hAe hw (Nat.le_of_ble_eq_true rfl) (Nat.le_of_ble_eq_true rfl) (⟨f14, a15, rfl, (show TxOk (f14 4) (f14 5) (f14 8) (f14 9) (f14 17) (f14 21) (a15 2) from ⟨lk, ⟨by first | exact i2 | omega, by first | exact i3 | omega⟩, ⟨by first | exact i4 | omega, by first | exact i5 | omega⟩, ⟨by first | exact i6 | omega, by first | exact i7 | omega⟩, by first | exact i8 | omega, ⟨by first | exact i9 | omega, by first | exact i11 | omega⟩, by first | exact i10 | omega, hrt⟩), (show (f14 17).toInt = (f 17).toInt from by first | exact oz_1687f4cc65 e7 e19 | omega), (show (f14 15).toInt = (f 15).toInt from by first | exact oz_1687f4cc65 e9 e21 | omega), (show (f14 20).toInt = (f 20).toInt from by first | exact oz_1687f4cc65 e10 e22 | omega), (show R_Txp_flow of fn fd p0 p1 p2 f a f14 a15 from (Or.inl (Or.inl ⟨hdf_1, f2, a3, v5, e12, f14, a15, e23, rfl, rfl⟩)))⟩) d_Txp_flow_236
  · refine List.forall_mem_cons.mpr ⟨fun c25 => ?_, List.forall_mem_cons.mpr ⟨fun c25 => ?_, List.forall_mem_cons.mpr ⟨fun c25 => ?_, List.forall_mem_cons.mpr ⟨fun c25 => ?_, List.forall_mem_cons.mpr ⟨fun c25 => ?_, List.forall_mem_cons.mpr ⟨fun c25 => ?_, List.forall_mem_cons.mpr ⟨fun c25 => ?_, List.forall_mem_cons.mpr ⟨fun c25 => ?_, List.forall_mem_cons.mpr ⟨fun c25 => ?_, fun _ h => absurd h List.not_mem_nil⟩⟩⟩⟩⟩⟩⟩⟩⟩
    · simp only [List.mem_cons, List.not_mem_nil, or_false] at c25
      refine lv_aload_n S.x S.b d_Txp_flow_56 rfl (lv_at hl 0 rfl) ?_
      refine lv_iload_n S.x S.b d_Txp_flow_57 rfl (lv_at hl 2 rfl) ?_
      refine px_put S k_Txp hT hw 0 0 4 rfl rfl (by decide) m6_217 rfl rfl rfl (Nat.le_of_ble_eq_true rfl) d_Txp_flow_58 (w' := wd_Txp cs h r (fun k => if k = 3 then (some hp) else none) (upd f 4 p1) a g) (ps' := [wd_Txp cs h r (fun k => if k = 3 then (some hp) else none) (upd f 4 p1) a g, wd_Prg cs hp rp (fun k => if k = 2 then of else none) fp (fun _ _ => 0) (fun _ _ => none), nA cs of fn fd]) rfl rfl (fun H locs hw => ?_)
      refine lv_goto (tgt := 236) S.x S.b d_Txp_flow_61 (by decide) ?_
      exact px_vret S hr hlk hAe hw (Nat.le_of_ble_eq_true rfl) (Nat.le_of_ble_eq_true rfl) (⟨(upd f 4 p1), a, rfl, (show TxOk p1 (f 5) (f 8) (f 9) (f 17) (f 21) (a 2) from ⟨hlka (by omega) (by omega), ⟨by first | exact i2 | omega, by first | exact i3 | omega⟩, ⟨by first | exact i4 | omega, by first | exact i5 | omega⟩, ⟨by first | exact i6 | omega, by first | exact i7 | omega⟩, by first | exact i8 | omega, ⟨by first | exact i9 | omega, by first | exact i11 | omega⟩, by first | exact i10 | omega, hrt⟩), (show (f 17).toInt = (f 17).toInt from rfl), (show (f 15).toInt = (f 15).toInt from rfl), (show (f 20).toInt = (f 20).toInt from rfl), (show R_Txp_flow of fn fd p0 p1 p2 f a (upd f 4 p1) a from (Or.inl (Or.inr (Or.inl ⟨c25, rfl, rfl⟩))))⟩) d_Txp_flow_236
    · simp only [List.mem_cons, List.not_mem_nil, or_false] at c25
      refine lv_aload_n S.x S.b d_Txp_flow_64 rfl (lv_at hl 0 rfl) ?_
      refine lv_aload_n S.x S.b d_Txp_flow_65 rfl (lv_at hl 0 rfl) ?_
      have hw : pw D A s.heap _ _ [wd_Prg cs hp rp (fun k => if k = 2 then of else none) fp (fun _ _ => 0) (fun _ _ => none), nA cs of fn fd, wd_Txp cs h r (fun k => if k = 3 then (some hp) else none) f a g] := hw.sub [1, 2, 0] rfl rfl
      refine px_calli (pr := [wd_Prg cs hp rp (fun k => if k = 2 then of else none) fp (fun _ _ => 0) (fun _ _ => none), nA cs of fn fd]) (px_runV (As := []) (rest := [.ref h]) S (c_Txp_pop l D cs h r g hp f a   (show TxOk (f 4) (f 5) (f 8) (f 9) (f 17) (f 21) (a 2) from ⟨lk, ⟨by first | exact i2 | omega, by first | exact i3 | omega⟩, ⟨by first | exact i4 | omega, by first | exact i5 | omega⟩, ⟨by first | exact i6 | omega, by first | exact i7 | omega⟩, by first | exact i8 | omega, ⟨by first | exact i9 | omega, by first | exact i11 | omega⟩, by first | exact i10 | omega, hrt⟩) _) hT (pr := [wd_Prg cs hp rp (fun k => if k = 2 then of else none) fp (fun _ _ => 0) (fun _ _ => none), nA cs of fn fd]) (pcs := [wd_Txp cs h r (fun k => if k = 3 then (some hp) else none) f a g]) hw px_X.tt (px_recv hT hw 2 0 rfl rfl rfl) m9_15 m9_12 m9_14 ms_7_0 m1_35 q_Txp_pop ⟨Nat.le_of_ble_eq_true rfl, Nat.le_of_ble_eq_true rfl⟩ hl.1 rfl (Nat.le_of_ble_eq_true rfl) d_Txp_flow_66 ⟨Nat.le_of_ble_eq_true rfl, Nat.le_of_ble_eq_true rfl⟩) hw hA (fun v29 p28 H locs hp28 hw => ?_)
      obtain ⟨f26, a27, rfl, h37, e30, e31, e32, e33, e34, e35, e36⟩ := hp28
      obtain ⟨lk, ⟨i2, i3⟩, ⟨i4, i5⟩, ⟨i6, i7⟩, i8, ⟨i9, i11⟩, i10, hrt⟩ := h37
      have e30 : (f26 9).toInt = (f 9).toInt := e30
      have e31 : (f26 17).toInt = (f 17).toInt := e31
      have e32 : (f26 21).toInt = (f 21).toInt := e32
      have e33 : (f26 15).toInt = (f 15).toInt := e33
      have e34 : (f26 20).toInt = (f 20).toInt := e34
      have e35 : (f26 4).toInt = (f 4).toInt := e35
      have e36 : R_Txp_pop f a f26 a27 v29 := e36
      have hw : pw D A s.heap H locs [wd_Prg cs hp rp (fun k => if k = 2 then of else none) fp (fun _ _ => 0) (fun _ _ => none), nA cs of fn fd, wd_Txp cs h r (fun k => if k = 3 then (some hp) else none) f26 a27 g] := hw
      have lv29 := Int32.le_toInt v29
      have uv29 := Int32.toInt_lt v29
      refine lv_if_ne (tgt := 76) S.x S.b d_Txp_flow_69 (by decide) (fun c38 => ?_) (fun c38 => ?_)
      · have nc38 : ¬ v29.toInt = (0 : Int) := mt (i_eq (x := v29) (y := 0)).mpr c38
        refine lv_aload_n S.x S.b d_Txp_flow_76 rfl (lv_at hl 0 rfl) ?_
        refine px_get S k_Txp hT hw 2 0 4 (v := .int (f26 4)) rfl rfl rfl (by decide) m6_217 d_Txp_flow_77 ?_
        refine px_put S k_Txp hT hw 2 0 4 rfl rfl (by decide) m6_217 rfl rfl rfl (Nat.le_of_ble_eq_true rfl) d_Txp_flow_80 (w' := wd_Txp cs h r (fun k => if k = 3 then (some hp) else none) (upd f26 4 (f26 4)) a27 g) (ps' := [wd_Prg cs hp rp (fun k => if k = 2 then of else none) fp (fun _ _ => 0) (fun _ _ => none), nA cs of fn fd, wd_Txp cs h r (fun k => if k = 3 then (some hp) else none) (upd f26 4 (f26 4)) a27 g]) rfl rfl (fun H locs hw => ?_)
        refine lv_goto (tgt := 236) S.x S.b d_Txp_flow_83 (by decide) ?_
        have hw : pw D A s.heap _ _ [wd_Txp cs h r (fun k => if k = 3 then (some hp) else none) (upd f26 4 (f26 4)) a27 g, wd_Prg cs hp rp (fun k => if k = 2 then of else none) fp (fun _ _ => 0) (fun _ _ => none), nA cs of fn fd] := hw.sub [2, 0, 1] rfl rfl
        exact px_vret S hr hlk hAe hw (Nat.le_of_ble_eq_true rfl) (Nat.le_of_ble_eq_true rfl) (⟨(upd f26 4 (f26 4)), a27, rfl, (show TxOk (f26 4) (f26 5) (f26 8) (f26 9) (f26 17) (f26 21) (a27 2) from ⟨lk, ⟨by first | exact i2 | omega, by first | exact i3 | omega⟩, ⟨by first | exact i4 | omega, by first | exact i5 | omega⟩, ⟨by first | exact i6 | omega, by first | exact i7 | omega⟩, by first | exact i8 | omega, ⟨by first | exact i9 | omega, by first | exact i11 | omega⟩, by first | exact i10 | omega, hrt⟩), (show (f26 17).toInt = (f 17).toInt from by first | exact e31 | omega), (show (f26 15).toInt = (f 15).toInt from by first | exact e33 | omega), (show (f26 20).toInt = (f 20).toInt from by first | exact e34 | omega), (show R_Txp_flow of fn fd p0 p1 p2 f a (upd f26 4 (f26 4)) a27 from (Or.inl (Or.inr (Or.inr (Or.inl ⟨c25, f26, a27, v29, e36, Or.inl ⟨nc38, rfl, rfl⟩⟩)))))⟩) d_Txp_flow_236
      · have nc38 : v29.toInt = (0 : Int) := (i_eq (x := v29) (y := 0)).mp c38
        refine lv_iload_n S.x S.b d_Txp_flow_72 rfl (lv_at hl 2 rfl) ?_
        refine lv_goto (tgt := 80) S.x S.b d_Txp_flow_73 (by decide) ?_
        refine px_put S k_Txp hT hw 2 0 4 rfl rfl (by decide) m6_217 rfl rfl rfl (Nat.le_of_ble_eq_true rfl) d_Txp_flow_80 (w' := wd_Txp cs h r (fun k => if k = 3 then (some hp) else none) (upd f26 4 p1) a27 g) (ps' := [wd_Prg cs hp rp (fun k => if k = 2 then of else none) fp (fun _ _ => 0) (fun _ _ => none), nA cs of fn fd, wd_Txp cs h r (fun k => if k = 3 then (some hp) else none) (upd f26 4 p1) a27 g]) rfl rfl (fun H locs hw => ?_)
        refine lv_goto (tgt := 236) S.x S.b d_Txp_flow_83 (by decide) ?_
        have hw : pw D A s.heap _ _ [wd_Txp cs h r (fun k => if k = 3 then (some hp) else none) (upd f26 4 p1) a27 g, wd_Prg cs hp rp (fun k => if k = 2 then of else none) fp (fun _ _ => 0) (fun _ _ => none), nA cs of fn fd] := hw.sub [2, 0, 1] rfl rfl
        exact px_vret S hr hlk hAe hw (Nat.le_of_ble_eq_true rfl) (Nat.le_of_ble_eq_true rfl) (⟨(upd f26 4 p1), a27, rfl, (show TxOk p1 (f26 5) (f26 8) (f26 9) (f26 17) (f26 21) (a27 2) from ⟨hlka (by omega) (by omega), ⟨by first | exact i2 | omega, by first | exact i3 | omega⟩, ⟨by first | exact i4 | omega, by first | exact i5 | omega⟩, ⟨by first | exact i6 | omega, by first | exact i7 | omega⟩, by first | exact i8 | omega, ⟨by first | exact i9 | omega, by first | exact i11 | omega⟩, by first | exact i10 | omega, hrt⟩), (show (f26 17).toInt = (f 17).toInt from by first | exact e31 | omega), (show (f26 15).toInt = (f 15).toInt from by first | exact e33 | omega), (show (f26 20).toInt = (f 20).toInt from by first | exact e34 | omega), (show R_Txp_flow of fn fd p0 p1 p2 f a (upd f26 4 p1) a27 from (Or.inl (Or.inr (Or.inr (Or.inl ⟨c25, f26, a27, v29, e36, Or.inr ⟨nc38, rfl, rfl⟩⟩)))))⟩) d_Txp_flow_236
    · simp only [List.mem_cons, List.not_mem_nil, or_false] at c25
      refine lv_aload_n S.x S.b d_Txp_flow_86 rfl (lv_at hl 0 rfl) ?_
      refine lv_aload_n S.x S.b d_Txp_flow_87 rfl (lv_at hl 0 rfl) ?_
      have hw : pw D A s.heap _ _ [wd_Prg cs hp rp (fun k => if k = 2 then of else none) fp (fun _ _ => 0) (fun _ _ => none), nA cs of fn fd, wd_Txp cs h r (fun k => if k = 3 then (some hp) else none) f a g] := hw.sub [1, 2, 0] rfl rfl
      refine px_calli (pr := [wd_Prg cs hp rp (fun k => if k = 2 then of else none) fp (fun _ _ => 0) (fun _ _ => none), nA cs of fn fd]) (px_runV (As := []) (rest := [.ref h]) S (c_Txp_pop l D cs h r g hp f a   (show TxOk (f 4) (f 5) (f 8) (f 9) (f 17) (f 21) (a 2) from ⟨lk, ⟨by first | exact i2 | omega, by first | exact i3 | omega⟩, ⟨by first | exact i4 | omega, by first | exact i5 | omega⟩, ⟨by first | exact i6 | omega, by first | exact i7 | omega⟩, by first | exact i8 | omega, ⟨by first | exact i9 | omega, by first | exact i11 | omega⟩, by first | exact i10 | omega, hrt⟩) _) hT (pr := [wd_Prg cs hp rp (fun k => if k = 2 then of else none) fp (fun _ _ => 0) (fun _ _ => none), nA cs of fn fd]) (pcs := [wd_Txp cs h r (fun k => if k = 3 then (some hp) else none) f a g]) hw px_X.tt (px_recv hT hw 2 0 rfl rfl rfl) m9_15 m9_12 m9_14 ms_7_0 m1_35 q_Txp_pop ⟨Nat.le_of_ble_eq_true rfl, Nat.le_of_ble_eq_true rfl⟩ hl.1 rfl (Nat.le_of_ble_eq_true rfl) d_Txp_flow_88 ⟨Nat.le_of_ble_eq_true rfl, Nat.le_of_ble_eq_true rfl⟩) hw hA (fun v43 p42 H locs hp42 hw => ?_)
      obtain ⟨f40, a41, rfl, h51, e44, e45, e46, e47, e48, e49, e50⟩ := hp42
      obtain ⟨lk, ⟨i2, i3⟩, ⟨i4, i5⟩, ⟨i6, i7⟩, i8, ⟨i9, i11⟩, i10, hrt⟩ := h51
      have e44 : (f40 9).toInt = (f 9).toInt := e44
      have e45 : (f40 17).toInt = (f 17).toInt := e45
      have e46 : (f40 21).toInt = (f 21).toInt := e46
      have e47 : (f40 15).toInt = (f 15).toInt := e47
      have e48 : (f40 20).toInt = (f 20).toInt := e48
      have e49 : (f40 4).toInt = (f 4).toInt := e49
      have e50 : R_Txp_pop f a f40 a41 v43 := e50
      have hw : pw D A s.heap H locs [wd_Prg cs hp rp (fun k => if k = 2 then of else none) fp (fun _ _ => 0) (fun _ _ => none), nA cs of fn fd, wd_Txp cs h r (fun k => if k = 3 then (some hp) else none) f40 a41 g] := hw
      have lv43 := Int32.le_toInt v43
      have uv43 := Int32.toInt_lt v43
      refine lv_if_eq (tgt := 98) S.x S.b d_Txp_flow_91 (by decide) (fun c52 => ?_) (fun c52 => ?_)
      · have nc52 : v43.toInt = (0 : Int) := (i_eq (x := v43) (y := 0)).mp c52
        refine lv_aload_n S.x S.b d_Txp_flow_98 rfl (lv_at hl 0 rfl) ?_
        refine px_get S k_Txp hT hw 2 0 4 (v := .int (f40 4)) rfl rfl rfl (by decide) m6_217 d_Txp_flow_99 ?_
        refine px_put S k_Txp hT hw 2 0 4 rfl rfl (by decide) m6_217 rfl rfl rfl (Nat.le_of_ble_eq_true rfl) d_Txp_flow_102 (w' := wd_Txp cs h r (fun k => if k = 3 then (some hp) else none) (upd f40 4 (f40 4)) a41 g) (ps' := [wd_Prg cs hp rp (fun k => if k = 2 then of else none) fp (fun _ _ => 0) (fun _ _ => none), nA cs of fn fd, wd_Txp cs h r (fun k => if k = 3 then (some hp) else none) (upd f40 4 (f40 4)) a41 g]) rfl rfl (fun H locs hw => ?_)
        refine lv_goto (tgt := 236) S.x S.b d_Txp_flow_105 (by decide) ?_
        have hw : pw D A s.heap _ _ [wd_Txp cs h r (fun k => if k = 3 then (some hp) else none) (upd f40 4 (f40 4)) a41 g, wd_Prg cs hp rp (fun k => if k = 2 then of else none) fp (fun _ _ => 0) (fun _ _ => none), nA cs of fn fd] := hw.sub [2, 0, 1] rfl rfl
        exact px_vret S hr hlk hAe hw (Nat.le_of_ble_eq_true rfl) (Nat.le_of_ble_eq_true rfl) (⟨(upd f40 4 (f40 4)), a41, rfl, (show TxOk (f40 4) (f40 5) (f40 8) (f40 9) (f40 17) (f40 21) (a41 2) from ⟨lk, ⟨by first | exact i2 | omega, by first | exact i3 | omega⟩, ⟨by first | exact i4 | omega, by first | exact i5 | omega⟩, ⟨by first | exact i6 | omega, by first | exact i7 | omega⟩, by first | exact i8 | omega, ⟨by first | exact i9 | omega, by first | exact i11 | omega⟩, by first | exact i10 | omega, hrt⟩), (show (f40 17).toInt = (f 17).toInt from by first | exact e45 | omega), (show (f40 15).toInt = (f 15).toInt from by first | exact e47 | omega), (show (f40 20).toInt = (f 20).toInt from by first | exact e48 | omega), (show R_Txp_flow of fn fd p0 p1 p2 f a (upd f40 4 (f40 4)) a41 from (Or.inl (Or.inr (Or.inr (Or.inr (Or.inl ⟨c25, f40, a41, v43, e50, Or.inl ⟨nc52, rfl, rfl⟩⟩))))))⟩) d_Txp_flow_236
      · have nc52 : ¬ v43.toInt = (0 : Int) := mt (i_eq (x := v43) (y := 0)).mpr c52
        refine lv_iload_n S.x S.b d_Txp_flow_94 rfl (lv_at hl 2 rfl) ?_
        refine lv_goto (tgt := 102) S.x S.b d_Txp_flow_95 (by decide) ?_
        refine px_put S k_Txp hT hw 2 0 4 rfl rfl (by decide) m6_217 rfl rfl rfl (Nat.le_of_ble_eq_true rfl) d_Txp_flow_102 (w' := wd_Txp cs h r (fun k => if k = 3 then (some hp) else none) (upd f40 4 p1) a41 g) (ps' := [wd_Prg cs hp rp (fun k => if k = 2 then of else none) fp (fun _ _ => 0) (fun _ _ => none), nA cs of fn fd, wd_Txp cs h r (fun k => if k = 3 then (some hp) else none) (upd f40 4 p1) a41 g]) rfl rfl (fun H locs hw => ?_)
        refine lv_goto (tgt := 236) S.x S.b d_Txp_flow_105 (by decide) ?_
        have hw : pw D A s.heap _ _ [wd_Txp cs h r (fun k => if k = 3 then (some hp) else none) (upd f40 4 p1) a41 g, wd_Prg cs hp rp (fun k => if k = 2 then of else none) fp (fun _ _ => 0) (fun _ _ => none), nA cs of fn fd] := hw.sub [2, 0, 1] rfl rfl
        exact px_vret S hr hlk hAe hw (Nat.le_of_ble_eq_true rfl) (Nat.le_of_ble_eq_true rfl) (⟨(upd f40 4 p1), a41, rfl, (show TxOk p1 (f40 5) (f40 8) (f40 9) (f40 17) (f40 21) (a41 2) from ⟨hlka (by omega) (by omega), ⟨by first | exact i2 | omega, by first | exact i3 | omega⟩, ⟨by first | exact i4 | omega, by first | exact i5 | omega⟩, ⟨by first | exact i6 | omega, by first | exact i7 | omega⟩, by first | exact i8 | omega, ⟨by first | exact i9 | omega, by first | exact i11 | omega⟩, by first | exact i10 | omega, hrt⟩), (show (f40 17).toInt = (f 17).toInt from by first | exact e45 | omega), (show (f40 15).toInt = (f 15).toInt from by first | exact e47 | omega), (show (f40 20).toInt = (f 20).toInt from by first | exact e48 | omega), (show R_Txp_flow of fn fd p0 p1 p2 f a (upd f40 4 p1) a41 from (Or.inl (Or.inr (Or.inr (Or.inr (Or.inl ⟨c25, f40, a41, v43, e50, Or.inr ⟨nc52, rfl, rfl⟩⟩))))))⟩) d_Txp_flow_236
    · simp only [List.mem_cons, List.not_mem_nil, or_false] at c25
      refine lv_aload_n S.x S.b d_Txp_flow_108 rfl (lv_at hl 0 rfl) ?_
      have hw : pw D A s.heap _ _ [wd_Prg cs hp rp (fun k => if k = 2 then of else none) fp (fun _ _ => 0) (fun _ _ => none), nA cs of fn fd, wd_Txp cs h r (fun k => if k = 3 then (some hp) else none) f a g] := hw.sub [1, 2, 0] rfl rfl
      refine px_calli (pr := [wd_Prg cs hp rp (fun k => if k = 2 then of else none) fp (fun _ _ => 0) (fun _ _ => none), nA cs of fn fd]) (px_runV (As := []) (rest := []) S (c_Txp_pop l D cs h r g hp f a   (show TxOk (f 4) (f 5) (f 8) (f 9) (f 17) (f 21) (a 2) from ⟨lk, ⟨by first | exact i2 | omega, by first | exact i3 | omega⟩, ⟨by first | exact i4 | omega, by first | exact i5 | omega⟩, ⟨by first | exact i6 | omega, by first | exact i7 | omega⟩, by first | exact i8 | omega, ⟨by first | exact i9 | omega, by first | exact i11 | omega⟩, by first | exact i10 | omega, hrt⟩) _) hT (pr := [wd_Prg cs hp rp (fun k => if k = 2 then of else none) fp (fun _ _ => 0) (fun _ _ => none), nA cs of fn fd]) (pcs := [wd_Txp cs h r (fun k => if k = 3 then (some hp) else none) f a g]) hw px_X.tt (px_recv hT hw 2 0 rfl rfl rfl) m9_15 m9_12 m9_14 ms_7_0 m1_35 q_Txp_pop ⟨Nat.le_of_ble_eq_true rfl, Nat.le_of_ble_eq_true rfl⟩ hl.1 rfl (Nat.le_of_ble_eq_true rfl) d_Txp_flow_109 ⟨Nat.le_of_ble_eq_true rfl, Nat.le_of_ble_eq_true rfl⟩) hw hA (fun v57 p56 H locs hp56 hw => ?_)
      obtain ⟨f54, a55, rfl, h65, e58, e59, e60, e61, e62, e63, e64⟩ := hp56
      obtain ⟨lk, ⟨i2, i3⟩, ⟨i4, i5⟩, ⟨i6, i7⟩, i8, ⟨i9, i11⟩, i10, hrt⟩ := h65
      have e58 : (f54 9).toInt = (f 9).toInt := e58
      have e59 : (f54 17).toInt = (f 17).toInt := e59
      have e60 : (f54 21).toInt = (f 21).toInt := e60
      have e61 : (f54 15).toInt = (f 15).toInt := e61
      have e62 : (f54 20).toInt = (f 20).toInt := e62
      have e63 : (f54 4).toInt = (f 4).toInt := e63
      have e64 : R_Txp_pop f a f54 a55 v57 := e64
      have hw : pw D A s.heap H locs [wd_Prg cs hp rp (fun k => if k = 2 then of else none) fp (fun _ _ => 0) (fun _ _ => none), nA cs of fn fd, wd_Txp cs h r (fun k => if k = 3 then (some hp) else none) f54 a55 g] := hw
      have lv57 := Int32.le_toInt v57
      have uv57 := Int32.toInt_lt v57
      refine lv_if_eq (tgt := 120) S.x S.b d_Txp_flow_112 (by decide) (fun c66 => ?_) (fun c66 => ?_)
      · have nc66 : v57.toInt = (0 : Int) := (i_eq (x := v57) (y := 0)).mp c66
        refine lv_bipush (v := 18) S.x S.b d_Txp_flow_120 (by decide) ?_
        refine lv_istore (lv' := [(4, .int 18), (0, .ref h), (1, .int p0), (2, .int p1), (3, .int p2)]) S.x S.b d_Txp_flow_122 hl (by decide) rfl (fun ls hl => ?_)
        refine lv_iload S.x S.b d_Txp_flow_124 (lv_at hl 0 rfl) ?_
        refine lv_iload_n S.x S.b d_Txp_flow_126 rfl (lv_at hl 2 rfl) ?_
        refine lv_icmp_ne (tgt := 236) S.x S.b d_Txp_flow_127 (by decide) (fun c68 => ?_) (fun c68 => ?_)
        · have nc68 : ¬ (18 : Int) = p0.toInt := mt (i_eq (x := 18) (y := p0)).mpr c68
          have hw : pw D A s.heap _ _ [wd_Txp cs h r (fun k => if k = 3 then (some hp) else none) f54 a55 g, wd_Prg cs hp rp (fun k => if k = 2 then of else none) fp (fun _ _ => 0) (fun _ _ => none), nA cs of fn fd] := hw.sub [2, 0, 1] rfl rfl
          exact px_vret S hr hlk hAe hw (Nat.le_of_ble_eq_true rfl) (Nat.le_of_ble_eq_true rfl) (⟨f54, a55, rfl, (show TxOk (f54 4) (f54 5) (f54 8) (f54 9) (f54 17) (f54 21) (a55 2) from ⟨lk, ⟨by first | exact i2 | omega, by first | exact i3 | omega⟩, ⟨by first | exact i4 | omega, by first | exact i5 | omega⟩, ⟨by first | exact i6 | omega, by first | exact i7 | omega⟩, by first | exact i8 | omega, ⟨by first | exact i9 | omega, by first | exact i11 | omega⟩, by first | exact i10 | omega, hrt⟩), (show (f54 17).toInt = (f 17).toInt from by first | exact e59 | omega), (show (f54 15).toInt = (f 15).toInt from by first | exact e61 | omega), (show (f54 20).toInt = (f 20).toInt from by first | exact e62 | omega), (show R_Txp_flow of fn fd p0 p1 p2 f a f54 a55 from (Or.inl (Or.inr (Or.inr (Or.inr (Or.inr (Or.inl ⟨c25, f54, a55, v57, e64, Or.inl ⟨nc66, Or.inl ⟨nc68, rfl, rfl⟩⟩⟩)))))))⟩) d_Txp_flow_236
        · have nc68 : (18 : Int) = p0.toInt := (i_eq (x := 18) (y := p0)).mp c68
          refine lv_aload_n S.x S.b d_Txp_flow_130 rfl (lv_at hl 1 rfl) ?_
          refine lv_iload_n S.x S.b d_Txp_flow_131 rfl (lv_at hl 2 rfl) ?_
          refine lv_bipush (v := 19) S.x S.b d_Txp_flow_132 (by decide) ?_
          refine lv_icmp_ne (tgt := 141) S.x S.b d_Txp_flow_134 (by decide) (fun c70 => ?_) (fun c70 => ?_)
          · have nc70 : ¬ p0.toInt = (19 : Int) := mt (i_eq (x := p0) (y := 19)).mpr c70
            refine lv_iconst (v := 0) S.x S.b d_Txp_flow_141 (by decide) ?_
            refine px_callv (pr := [wd_Prg cs hp rp (fun k => if k = 2 then of else none) fp (fun _ _ => 0) (fun _ _ => none), nA cs of fn fd]) (px_runV (As := [.int 0]) (rest := []) S (c_Txp_push l D cs h r g hp f54 a55 0  (show TxOk (f54 4) (f54 5) (f54 8) (f54 9) (f54 17) (f54 21) (a55 2) from ⟨lk, ⟨by first | exact i2 | omega, by first | exact i3 | omega⟩, ⟨by first | exact i4 | omega, by first | exact i5 | omega⟩, ⟨by first | exact i6 | omega, by first | exact i7 | omega⟩, by first | exact i8 | omega, ⟨by first | exact i9 | omega, by first | exact i11 | omega⟩, by first | exact i10 | omega, hrt⟩) _) hT (pr := [wd_Prg cs hp rp (fun k => if k = 2 then of else none) fp (fun _ _ => 0) (fun _ _ => none), nA cs of fn fd]) (pcs := [wd_Txp cs h r (fun k => if k = 3 then (some hp) else none) f54 a55 g]) hw px_X.tt (px_recv hT hw 2 0 rfl rfl rfl) m8_47 m8_44 m8_46 ms_5_6 m1_35 q_Txp_push ⟨Nat.le_of_ble_eq_true rfl, Nat.le_of_ble_eq_true rfl⟩ hl.1 rfl (Nat.le_of_ble_eq_true rfl) d_Txp_flow_142 ⟨Nat.le_of_ble_eq_true rfl, Nat.le_of_ble_eq_true rfl⟩) hw hA (fun p74 H locs hp74 hw => ?_)
            obtain ⟨f72, a73, rfl, h83, e76, e77, e78, e79, e80, e81, e82⟩ := hp74
            obtain ⟨lk, ⟨i2, i3⟩, ⟨i4, i5⟩, ⟨i6, i7⟩, i8, ⟨i9, i11⟩, i10, hrt⟩ := h83
            have e76 : (f72 9).toInt = (f54 9).toInt := e76
            have e77 : (f72 17).toInt = (f54 17).toInt := e77
            have e78 : (f72 21).toInt = (f54 21).toInt := e78
            have e79 : (f72 15).toInt = (f54 15).toInt := e79
            have e80 : (f72 20).toInt = (f54 20).toInt := e80
            have e81 : (f72 4).toInt = (f54 4).toInt := e81
            have e82 : R_Txp_push (0 : Int32) f54 a55 f72 a73 := e82
            have hw : pw D A s.heap H locs [wd_Prg cs hp rp (fun k => if k = 2 then of else none) fp (fun _ _ => 0) (fun _ _ => none), nA cs of fn fd, wd_Txp cs h r (fun k => if k = 3 then (some hp) else none) f72 a73 g] := hw
            refine lv_aload_n S.x S.b d_Txp_flow_145 rfl (lv_at hl 1 rfl) ?_
            refine lv_iload_n S.x S.b d_Txp_flow_146 rfl (lv_at hl 3 rfl) ?_
            refine px_put S k_Txp hT hw 2 0 4 rfl rfl (by decide) m6_217 rfl rfl rfl (Nat.le_of_ble_eq_true rfl) d_Txp_flow_147 (w' := wd_Txp cs h r (fun k => if k = 3 then (some hp) else none) (upd f72 4 p1) a73 g) (ps' := [wd_Prg cs hp rp (fun k => if k = 2 then of else none) fp (fun _ _ => 0) (fun _ _ => none), nA cs of fn fd, wd_Txp cs h r (fun k => if k = 3 then (some hp) else none) (upd f72 4 p1) a73 g]) rfl rfl (fun H locs hw => ?_)
            refine lv_goto (tgt := 236) S.x S.b d_Txp_flow_150 (by decide) ?_
            have hw : pw D A s.heap _ _ [wd_Txp cs h r (fun k => if k = 3 then (some hp) else none) (upd f72 4 p1) a73 g, wd_Prg cs hp rp (fun k => if k = 2 then of else none) fp (fun _ _ => 0) (fun _ _ => none), nA cs of fn fd] := hw.sub [2, 0, 1] rfl rfl
            exact px_vret S hr hlk hAe hw (Nat.le_of_ble_eq_true rfl) (Nat.le_of_ble_eq_true rfl) (⟨(upd f72 4 p1), a73, rfl, (show TxOk p1 (f72 5) (f72 8) (f72 9) (f72 17) (f72 21) (a73 2) from ⟨hlka (by omega) (by omega), ⟨by first | exact i2 | omega, by first | exact i3 | omega⟩, ⟨by first | exact i4 | omega, by first | exact i5 | omega⟩, ⟨by first | exact i6 | omega, by first | exact i7 | omega⟩, by first | exact i8 | omega, ⟨by first | exact i9 | omega, by first | exact i11 | omega⟩, by first | exact i10 | omega, hrt⟩), (show (f72 17).toInt = (f 17).toInt from by first | exact oz_1687f4cc65 e59 e77 | omega), (show (f72 15).toInt = (f 15).toInt from by first | exact oz_1687f4cc65 e61 e79 | omega), (show (f72 20).toInt = (f 20).toInt from by first | exact oz_1687f4cc65 e62 e80 | omega), (show R_Txp_flow of fn fd p0 p1 p2 f a (upd f72 4 p1) a73 from (Or.inl (Or.inr (Or.inr (Or.inr (Or.inr (Or.inl ⟨c25, f54, a55, v57, e64, Or.inl ⟨nc66, Or.inr ⟨nc68, Or.inl ⟨nc70, f72, a73, e82, rfl, rfl⟩⟩⟩⟩)))))))⟩) d_Txp_flow_236
          · have nc70 : p0.toInt = (19 : Int) := (i_eq (x := p0) (y := 19)).mp c70
            refine lv_iconst (v := 1) S.x S.b d_Txp_flow_137 (by decide) ?_
            refine lv_goto (tgt := 142) S.x S.b d_Txp_flow_138 (by decide) ?_
            refine px_callv (pr := [wd_Prg cs hp rp (fun k => if k = 2 then of else none) fp (fun _ _ => 0) (fun _ _ => none), nA cs of fn fd]) (px_runV (As := [.int 1]) (rest := []) S (c_Txp_push l D cs h r g hp f54 a55 1  (show TxOk (f54 4) (f54 5) (f54 8) (f54 9) (f54 17) (f54 21) (a55 2) from ⟨lk, ⟨by first | exact i2 | omega, by first | exact i3 | omega⟩, ⟨by first | exact i4 | omega, by first | exact i5 | omega⟩, ⟨by first | exact i6 | omega, by first | exact i7 | omega⟩, by first | exact i8 | omega, ⟨by first | exact i9 | omega, by first | exact i11 | omega⟩, by first | exact i10 | omega, hrt⟩) _) hT (pr := [wd_Prg cs hp rp (fun k => if k = 2 then of else none) fp (fun _ _ => 0) (fun _ _ => none), nA cs of fn fd]) (pcs := [wd_Txp cs h r (fun k => if k = 3 then (some hp) else none) f54 a55 g]) hw px_X.tt (px_recv hT hw 2 0 rfl rfl rfl) m8_47 m8_44 m8_46 ms_5_6 m1_35 q_Txp_push ⟨Nat.le_of_ble_eq_true rfl, Nat.le_of_ble_eq_true rfl⟩ hl.1 rfl (Nat.le_of_ble_eq_true rfl) d_Txp_flow_142 ⟨Nat.le_of_ble_eq_true rfl, Nat.le_of_ble_eq_true rfl⟩) hw hA (fun p86 H locs hp86 hw => ?_)
            obtain ⟨f84, a85, rfl, h95, e88, e89, e90, e91, e92, e93, e94⟩ := hp86
            obtain ⟨lk, ⟨i2, i3⟩, ⟨i4, i5⟩, ⟨i6, i7⟩, i8, ⟨i9, i11⟩, i10, hrt⟩ := h95
            have e88 : (f84 9).toInt = (f54 9).toInt := e88
            have e89 : (f84 17).toInt = (f54 17).toInt := e89
            have e90 : (f84 21).toInt = (f54 21).toInt := e90
            have e91 : (f84 15).toInt = (f54 15).toInt := e91
            have e92 : (f84 20).toInt = (f54 20).toInt := e92
            have e93 : (f84 4).toInt = (f54 4).toInt := e93
            have e94 : R_Txp_push (1 : Int32) f54 a55 f84 a85 := e94
            have hw : pw D A s.heap H locs [wd_Prg cs hp rp (fun k => if k = 2 then of else none) fp (fun _ _ => 0) (fun _ _ => none), nA cs of fn fd, wd_Txp cs h r (fun k => if k = 3 then (some hp) else none) f84 a85 g] := hw
            refine lv_aload_n S.x S.b d_Txp_flow_145 rfl (lv_at hl 1 rfl) ?_
            refine lv_iload_n S.x S.b d_Txp_flow_146 rfl (lv_at hl 3 rfl) ?_
            refine px_put S k_Txp hT hw 2 0 4 rfl rfl (by decide) m6_217 rfl rfl rfl (Nat.le_of_ble_eq_true rfl) d_Txp_flow_147 (w' := wd_Txp cs h r (fun k => if k = 3 then (some hp) else none) (upd f84 4 p1) a85 g) (ps' := [wd_Prg cs hp rp (fun k => if k = 2 then of else none) fp (fun _ _ => 0) (fun _ _ => none), nA cs of fn fd, wd_Txp cs h r (fun k => if k = 3 then (some hp) else none) (upd f84 4 p1) a85 g]) rfl rfl (fun H locs hw => ?_)
            refine lv_goto (tgt := 236) S.x S.b d_Txp_flow_150 (by decide) ?_
            have hw : pw D A s.heap _ _ [wd_Txp cs h r (fun k => if k = 3 then (some hp) else none) (upd f84 4 p1) a85 g, wd_Prg cs hp rp (fun k => if k = 2 then of else none) fp (fun _ _ => 0) (fun _ _ => none), nA cs of fn fd] := hw.sub [2, 0, 1] rfl rfl
            exact px_vret S hr hlk hAe hw (Nat.le_of_ble_eq_true rfl) (Nat.le_of_ble_eq_true rfl) (⟨(upd f84 4 p1), a85, rfl, (show TxOk p1 (f84 5) (f84 8) (f84 9) (f84 17) (f84 21) (a85 2) from ⟨hlka (by omega) (by omega), ⟨by first | exact i2 | omega, by first | exact i3 | omega⟩, ⟨by first | exact i4 | omega, by first | exact i5 | omega⟩, ⟨by first | exact i6 | omega, by first | exact i7 | omega⟩, by first | exact i8 | omega, ⟨by first | exact i9 | omega, by first | exact i11 | omega⟩, by first | exact i10 | omega, hrt⟩), (show (f84 17).toInt = (f 17).toInt from by first | exact oz_1687f4cc65 e59 e89 | omega), (show (f84 15).toInt = (f 15).toInt from by first | exact oz_1687f4cc65 e61 e91 | omega), (show (f84 20).toInt = (f 20).toInt from by first | exact oz_1687f4cc65 e62 e92 | omega), (show R_Txp_flow of fn fd p0 p1 p2 f a (upd f84 4 p1) a85 from (Or.inl (Or.inr (Or.inr (Or.inr (Or.inr (Or.inl ⟨c25, f54, a55, v57, e64, Or.inl ⟨nc66, Or.inr ⟨nc68, Or.inr ⟨nc70, f84, a85, e94, rfl, rfl⟩⟩⟩⟩)))))))⟩) d_Txp_flow_236
      · have nc66 : ¬ v57.toInt = (0 : Int) := mt (i_eq (x := v57) (y := 0)).mpr c66
        refine lv_bipush (v := 19) S.x S.b d_Txp_flow_115 (by decide) ?_
        refine lv_goto (tgt := 122) S.x S.b d_Txp_flow_117 (by decide) ?_
        refine lv_istore (lv' := [(4, .int 19), (0, .ref h), (1, .int p0), (2, .int p1), (3, .int p2)]) S.x S.b d_Txp_flow_122 hl (by decide) rfl (fun ls hl => ?_)
        refine lv_iload S.x S.b d_Txp_flow_124 (lv_at hl 0 rfl) ?_
        refine lv_iload_n S.x S.b d_Txp_flow_126 rfl (lv_at hl 2 rfl) ?_
        refine lv_icmp_ne (tgt := 236) S.x S.b d_Txp_flow_127 (by decide) (fun c96 => ?_) (fun c96 => ?_)
        · have nc96 : ¬ (19 : Int) = p0.toInt := mt (i_eq (x := 19) (y := p0)).mpr c96
          have hw : pw D A s.heap _ _ [wd_Txp cs h r (fun k => if k = 3 then (some hp) else none) f54 a55 g, wd_Prg cs hp rp (fun k => if k = 2 then of else none) fp (fun _ _ => 0) (fun _ _ => none), nA cs of fn fd] := hw.sub [2, 0, 1] rfl rfl
          exact px_vret S hr hlk hAe hw (Nat.le_of_ble_eq_true rfl) (Nat.le_of_ble_eq_true rfl) (⟨f54, a55, rfl, (show TxOk (f54 4) (f54 5) (f54 8) (f54 9) (f54 17) (f54 21) (a55 2) from ⟨lk, ⟨by first | exact i2 | omega, by first | exact i3 | omega⟩, ⟨by first | exact i4 | omega, by first | exact i5 | omega⟩, ⟨by first | exact i6 | omega, by first | exact i7 | omega⟩, by first | exact i8 | omega, ⟨by first | exact i9 | omega, by first | exact i11 | omega⟩, by first | exact i10 | omega, hrt⟩), (show (f54 17).toInt = (f 17).toInt from by first | exact e59 | omega), (show (f54 15).toInt = (f 15).toInt from by first | exact e61 | omega), (show (f54 20).toInt = (f 20).toInt from by first | exact e62 | omega), (show R_Txp_flow of fn fd p0 p1 p2 f a f54 a55 from (Or.inl (Or.inr (Or.inr (Or.inr (Or.inr (Or.inl ⟨c25, f54, a55, v57, e64, Or.inr ⟨nc66, Or.inl ⟨nc96, rfl, rfl⟩⟩⟩)))))))⟩) d_Txp_flow_236
        · have nc96 : (19 : Int) = p0.toInt := (i_eq (x := 19) (y := p0)).mp c96
          refine lv_aload_n S.x S.b d_Txp_flow_130 rfl (lv_at hl 1 rfl) ?_
          refine lv_iload_n S.x S.b d_Txp_flow_131 rfl (lv_at hl 2 rfl) ?_
          refine lv_bipush (v := 19) S.x S.b d_Txp_flow_132 (by decide) ?_
          refine lv_icmp_ne (tgt := 141) S.x S.b d_Txp_flow_134 (by decide) (fun c98 => ?_) (fun c98 => ?_)
          · have nc98 : ¬ p0.toInt = (19 : Int) := mt (i_eq (x := p0) (y := 19)).mpr c98
            refine lv_iconst (v := 0) S.x S.b d_Txp_flow_141 (by decide) ?_
            refine px_callv (pr := [wd_Prg cs hp rp (fun k => if k = 2 then of else none) fp (fun _ _ => 0) (fun _ _ => none), nA cs of fn fd]) (px_runV (As := [.int 0]) (rest := []) S (c_Txp_push l D cs h r g hp f54 a55 0  (show TxOk (f54 4) (f54 5) (f54 8) (f54 9) (f54 17) (f54 21) (a55 2) from ⟨lk, ⟨by first | exact i2 | omega, by first | exact i3 | omega⟩, ⟨by first | exact i4 | omega, by first | exact i5 | omega⟩, ⟨by first | exact i6 | omega, by first | exact i7 | omega⟩, by first | exact i8 | omega, ⟨by first | exact i9 | omega, by first | exact i11 | omega⟩, by first | exact i10 | omega, hrt⟩) _) hT (pr := [wd_Prg cs hp rp (fun k => if k = 2 then of else none) fp (fun _ _ => 0) (fun _ _ => none), nA cs of fn fd]) (pcs := [wd_Txp cs h r (fun k => if k = 3 then (some hp) else none) f54 a55 g]) hw px_X.tt (px_recv hT hw 2 0 rfl rfl rfl) m8_47 m8_44 m8_46 ms_5_6 m1_35 q_Txp_push ⟨Nat.le_of_ble_eq_true rfl, Nat.le_of_ble_eq_true rfl⟩ hl.1 rfl (Nat.le_of_ble_eq_true rfl) d_Txp_flow_142 ⟨Nat.le_of_ble_eq_true rfl, Nat.le_of_ble_eq_true rfl⟩) hw hA (fun p102 H locs hp102 hw => ?_)
            obtain ⟨f100, a101, rfl, h111, e104, e105, e106, e107, e108, e109, e110⟩ := hp102
            obtain ⟨lk, ⟨i2, i3⟩, ⟨i4, i5⟩, ⟨i6, i7⟩, i8, ⟨i9, i11⟩, i10, hrt⟩ := h111
            have e104 : (f100 9).toInt = (f54 9).toInt := e104
            have e105 : (f100 17).toInt = (f54 17).toInt := e105
            have e106 : (f100 21).toInt = (f54 21).toInt := e106
            have e107 : (f100 15).toInt = (f54 15).toInt := e107
            have e108 : (f100 20).toInt = (f54 20).toInt := e108
            have e109 : (f100 4).toInt = (f54 4).toInt := e109
            have e110 : R_Txp_push (0 : Int32) f54 a55 f100 a101 := e110
            have hw : pw D A s.heap H locs [wd_Prg cs hp rp (fun k => if k = 2 then of else none) fp (fun _ _ => 0) (fun _ _ => none), nA cs of fn fd, wd_Txp cs h r (fun k => if k = 3 then (some hp) else none) f100 a101 g] := hw
            refine lv_aload_n S.x S.b d_Txp_flow_145 rfl (lv_at hl 1 rfl) ?_
            refine lv_iload_n S.x S.b d_Txp_flow_146 rfl (lv_at hl 3 rfl) ?_
            refine px_put S k_Txp hT hw 2 0 4 rfl rfl (by decide) m6_217 rfl rfl rfl (Nat.le_of_ble_eq_true rfl) d_Txp_flow_147 (w' := wd_Txp cs h r (fun k => if k = 3 then (some hp) else none) (upd f100 4 p1) a101 g) (ps' := [wd_Prg cs hp rp (fun k => if k = 2 then of else none) fp (fun _ _ => 0) (fun _ _ => none), nA cs of fn fd, wd_Txp cs h r (fun k => if k = 3 then (some hp) else none) (upd f100 4 p1) a101 g]) rfl rfl (fun H locs hw => ?_)
            refine lv_goto (tgt := 236) S.x S.b d_Txp_flow_150 (by decide) ?_
            have hw : pw D A s.heap _ _ [wd_Txp cs h r (fun k => if k = 3 then (some hp) else none) (upd f100 4 p1) a101 g, wd_Prg cs hp rp (fun k => if k = 2 then of else none) fp (fun _ _ => 0) (fun _ _ => none), nA cs of fn fd] := hw.sub [2, 0, 1] rfl rfl
            exact px_vret S hr hlk hAe hw (Nat.le_of_ble_eq_true rfl) (Nat.le_of_ble_eq_true rfl) (⟨(upd f100 4 p1), a101, rfl, (show TxOk p1 (f100 5) (f100 8) (f100 9) (f100 17) (f100 21) (a101 2) from ⟨hlka (by omega) (by omega), ⟨by first | exact i2 | omega, by first | exact i3 | omega⟩, ⟨by first | exact i4 | omega, by first | exact i5 | omega⟩, ⟨by first | exact i6 | omega, by first | exact i7 | omega⟩, by first | exact i8 | omega, ⟨by first | exact i9 | omega, by first | exact i11 | omega⟩, by first | exact i10 | omega, hrt⟩), (show (f100 17).toInt = (f 17).toInt from by first | exact oz_1687f4cc65 e59 e105 | omega), (show (f100 15).toInt = (f 15).toInt from by first | exact oz_1687f4cc65 e61 e107 | omega), (show (f100 20).toInt = (f 20).toInt from by first | exact oz_1687f4cc65 e62 e108 | omega), (show R_Txp_flow of fn fd p0 p1 p2 f a (upd f100 4 p1) a101 from (Or.inl (Or.inr (Or.inr (Or.inr (Or.inr (Or.inl ⟨c25, f54, a55, v57, e64, Or.inr ⟨nc66, Or.inr ⟨nc96, Or.inl ⟨nc98, f100, a101, e110, rfl, rfl⟩⟩⟩⟩)))))))⟩) d_Txp_flow_236
          · have nc98 : p0.toInt = (19 : Int) := (i_eq (x := p0) (y := 19)).mp c98
            refine lv_iconst (v := 1) S.x S.b d_Txp_flow_137 (by decide) ?_
            refine lv_goto (tgt := 142) S.x S.b d_Txp_flow_138 (by decide) ?_
            refine px_callv (pr := [wd_Prg cs hp rp (fun k => if k = 2 then of else none) fp (fun _ _ => 0) (fun _ _ => none), nA cs of fn fd]) (px_runV (As := [.int 1]) (rest := []) S (c_Txp_push l D cs h r g hp f54 a55 1  (show TxOk (f54 4) (f54 5) (f54 8) (f54 9) (f54 17) (f54 21) (a55 2) from ⟨lk, ⟨by first | exact i2 | omega, by first | exact i3 | omega⟩, ⟨by first | exact i4 | omega, by first | exact i5 | omega⟩, ⟨by first | exact i6 | omega, by first | exact i7 | omega⟩, by first | exact i8 | omega, ⟨by first | exact i9 | omega, by first | exact i11 | omega⟩, by first | exact i10 | omega, hrt⟩) _) hT (pr := [wd_Prg cs hp rp (fun k => if k = 2 then of else none) fp (fun _ _ => 0) (fun _ _ => none), nA cs of fn fd]) (pcs := [wd_Txp cs h r (fun k => if k = 3 then (some hp) else none) f54 a55 g]) hw px_X.tt (px_recv hT hw 2 0 rfl rfl rfl) m8_47 m8_44 m8_46 ms_5_6 m1_35 q_Txp_push ⟨Nat.le_of_ble_eq_true rfl, Nat.le_of_ble_eq_true rfl⟩ hl.1 rfl (Nat.le_of_ble_eq_true rfl) d_Txp_flow_142 ⟨Nat.le_of_ble_eq_true rfl, Nat.le_of_ble_eq_true rfl⟩) hw hA (fun p114 H locs hp114 hw => ?_)
            obtain ⟨f112, a113, rfl, h123, e116, e117, e118, e119, e120, e121, e122⟩ := hp114
            obtain ⟨lk, ⟨i2, i3⟩, ⟨i4, i5⟩, ⟨i6, i7⟩, i8, ⟨i9, i11⟩, i10, hrt⟩ := h123
            have e116 : (f112 9).toInt = (f54 9).toInt := e116
            have e117 : (f112 17).toInt = (f54 17).toInt := e117
            have e118 : (f112 21).toInt = (f54 21).toInt := e118
            have e119 : (f112 15).toInt = (f54 15).toInt := e119
            have e120 : (f112 20).toInt = (f54 20).toInt := e120
            have e121 : (f112 4).toInt = (f54 4).toInt := e121
            have e122 : R_Txp_push (1 : Int32) f54 a55 f112 a113 := e122
            have hw : pw D A s.heap H locs [wd_Prg cs hp rp (fun k => if k = 2 then of else none) fp (fun _ _ => 0) (fun _ _ => none), nA cs of fn fd, wd_Txp cs h r (fun k => if k = 3 then (some hp) else none) f112 a113 g] := hw
            refine lv_aload_n S.x S.b d_Txp_flow_145 rfl (lv_at hl 1 rfl) ?_
            refine lv_iload_n S.x S.b d_Txp_flow_146 rfl (lv_at hl 3 rfl) ?_
            refine px_put S k_Txp hT hw 2 0 4 rfl rfl (by decide) m6_217 rfl rfl rfl (Nat.le_of_ble_eq_true rfl) d_Txp_flow_147 (w' := wd_Txp cs h r (fun k => if k = 3 then (some hp) else none) (upd f112 4 p1) a113 g) (ps' := [wd_Prg cs hp rp (fun k => if k = 2 then of else none) fp (fun _ _ => 0) (fun _ _ => none), nA cs of fn fd, wd_Txp cs h r (fun k => if k = 3 then (some hp) else none) (upd f112 4 p1) a113 g]) rfl rfl (fun H locs hw => ?_)
            refine lv_goto (tgt := 236) S.x S.b d_Txp_flow_150 (by decide) ?_
            have hw : pw D A s.heap _ _ [wd_Txp cs h r (fun k => if k = 3 then (some hp) else none) (upd f112 4 p1) a113 g, wd_Prg cs hp rp (fun k => if k = 2 then of else none) fp (fun _ _ => 0) (fun _ _ => none), nA cs of fn fd] := hw.sub [2, 0, 1] rfl rfl
            exact px_vret S hr hlk hAe hw (Nat.le_of_ble_eq_true rfl) (Nat.le_of_ble_eq_true rfl) (⟨(upd f112 4 p1), a113, rfl, (show TxOk p1 (f112 5) (f112 8) (f112 9) (f112 17) (f112 21) (a113 2) from ⟨hlka (by omega) (by omega), ⟨by first | exact i2 | omega, by first | exact i3 | omega⟩, ⟨by first | exact i4 | omega, by first | exact i5 | omega⟩, ⟨by first | exact i6 | omega, by first | exact i7 | omega⟩, by first | exact i8 | omega, ⟨by first | exact i9 | omega, by first | exact i11 | omega⟩, by first | exact i10 | omega, hrt⟩), (show (f112 17).toInt = (f 17).toInt from by first | exact oz_1687f4cc65 e59 e117 | omega), (show (f112 15).toInt = (f 15).toInt from by first | exact oz_1687f4cc65 e61 e119 | omega), (show (f112 20).toInt = (f 20).toInt from by first | exact oz_1687f4cc65 e62 e120 | omega), (show R_Txp_flow of fn fd p0 p1 p2 f a (upd f112 4 p1) a113 from (Or.inl (Or.inr (Or.inr (Or.inr (Or.inr (Or.inl ⟨c25, f54, a55, v57, e64, Or.inr ⟨nc66, Or.inr ⟨nc96, Or.inr ⟨nc98, f112, a113, e122, rfl, rfl⟩⟩⟩⟩)))))))⟩) d_Txp_flow_236
    · simp only [List.mem_cons, List.not_mem_nil, or_false] at c25
      refine lv_aload_n S.x S.b d_Txp_flow_153 rfl (lv_at hl 0 rfl) ?_
      have hw : pw D A s.heap _ _ [wd_Prg cs hp rp (fun k => if k = 2 then of else none) fp (fun _ _ => 0) (fun _ _ => none), nA cs of fn fd, wd_Txp cs h r (fun k => if k = 3 then (some hp) else none) f a g] := hw.sub [1, 2, 0] rfl rfl
      refine px_calli (pr := [wd_Prg cs hp rp (fun k => if k = 2 then of else none) fp (fun _ _ => 0) (fun _ _ => none), nA cs of fn fd]) (px_runV (As := []) (rest := []) S (c_Txp_pop l D cs h r g hp f a   (show TxOk (f 4) (f 5) (f 8) (f 9) (f 17) (f 21) (a 2) from ⟨lk, ⟨by first | exact i2 | omega, by first | exact i3 | omega⟩, ⟨by first | exact i4 | omega, by first | exact i5 | omega⟩, ⟨by first | exact i6 | omega, by first | exact i7 | omega⟩, by first | exact i8 | omega, ⟨by first | exact i9 | omega, by first | exact i11 | omega⟩, by first | exact i10 | omega, hrt⟩) _) hT (pr := [wd_Prg cs hp rp (fun k => if k = 2 then of else none) fp (fun _ _ => 0) (fun _ _ => none), nA cs of fn fd]) (pcs := [wd_Txp cs h r (fun k => if k = 3 then (some hp) else none) f a g]) hw px_X.tt (px_recv hT hw 2 0 rfl rfl rfl) m9_15 m9_12 m9_14 ms_7_0 m1_35 q_Txp_pop ⟨Nat.le_of_ble_eq_true rfl, Nat.le_of_ble_eq_true rfl⟩ hl.1 rfl (Nat.le_of_ble_eq_true rfl) d_Txp_flow_154 ⟨Nat.le_of_ble_eq_true rfl, Nat.le_of_ble_eq_true rfl⟩) hw hA (fun v127 p126 H locs hp126 hw => ?_)
      obtain ⟨f124, a125, rfl, h135, e128, e129, e130, e131, e132, e133, e134⟩ := hp126
      obtain ⟨lk, ⟨i2, i3⟩, ⟨i4, i5⟩, ⟨i6, i7⟩, i8, ⟨i9, i11⟩, i10, hrt⟩ := h135
      have e128 : (f124 9).toInt = (f 9).toInt := e128
      have e129 : (f124 17).toInt = (f 17).toInt := e129
      have e130 : (f124 21).toInt = (f 21).toInt := e130
      have e131 : (f124 15).toInt = (f 15).toInt := e131
      have e132 : (f124 20).toInt = (f 20).toInt := e132
      have e133 : (f124 4).toInt = (f 4).toInt := e133
      have e134 : R_Txp_pop f a f124 a125 v127 := e134
      have hw : pw D A s.heap H locs [wd_Prg cs hp rp (fun k => if k = 2 then of else none) fp (fun _ _ => 0) (fun _ _ => none), nA cs of fn fd, wd_Txp cs h r (fun k => if k = 3 then (some hp) else none) f124 a125 g] := hw
      have lv127 := Int32.le_toInt v127
      have uv127 := Int32.toInt_lt v127
      refine lv_istore (lv' := [(5, .int v127), (0, .ref h), (1, .int p0), (2, .int p1), (3, .int p2)]) S.x S.b d_Txp_flow_157 hl (by decide) rfl (fun ls hl => ?_)
      refine lv_iload S.x S.b d_Txp_flow_159 (lv_at hl 0 rfl) ?_
      refine lv_iload_n S.x S.b d_Txp_flow_161 rfl (lv_at hl 4 rfl) ?_
      refine lv_icmp_ne (tgt := 173) S.x S.b d_Txp_flow_162 (by decide) (fun c136 => ?_) (fun c136 => ?_)
      · have nc136 : ¬ v127.toInt = p2.toInt := mt (i_eq (x := v127) (y := p2)).mpr c136
        refine lv_aload_n S.x S.b d_Txp_flow_173 rfl (lv_at hl 1 rfl) ?_
        refine lv_iload S.x S.b d_Txp_flow_174 (lv_at hl 0 rfl) ?_
        refine px_callv (pr := [wd_Prg cs hp rp (fun k => if k = 2 then of else none) fp (fun _ _ => 0) (fun _ _ => none), nA cs of fn fd]) (px_runV (As := [.int v127]) (rest := []) S (c_Txp_push l D cs h r g hp f124 a125 v127  (show TxOk (f124 4) (f124 5) (f124 8) (f124 9) (f124 17) (f124 21) (a125 2) from ⟨lk, ⟨by first | exact i2 | omega, by first | exact i3 | omega⟩, ⟨by first | exact i4 | omega, by first | exact i5 | omega⟩, ⟨by first | exact i6 | omega, by first | exact i7 | omega⟩, by first | exact i8 | omega, ⟨by first | exact i9 | omega, by first | exact i11 | omega⟩, by first | exact i10 | omega, hrt⟩) _) hT (pr := [wd_Prg cs hp rp (fun k => if k = 2 then of else none) fp (fun _ _ => 0) (fun _ _ => none), nA cs of fn fd]) (pcs := [wd_Txp cs h r (fun k => if k = 3 then (some hp) else none) f124 a125 g]) hw px_X.tt (px_recv hT hw 2 0 rfl rfl rfl) m8_47 m8_44 m8_46 ms_5_6 m1_35 q_Txp_push ⟨Nat.le_of_ble_eq_true rfl, Nat.le_of_ble_eq_true rfl⟩ hl.1 rfl (Nat.le_of_ble_eq_true rfl) d_Txp_flow_176 ⟨Nat.le_of_ble_eq_true rfl, Nat.le_of_ble_eq_true rfl⟩) hw hA (fun p140 H locs hp140 hw => ?_)
        obtain ⟨f138, a139, rfl, h149, e142, e143, e144, e145, e146, e147, e148⟩ := hp140
        obtain ⟨lk, ⟨i2, i3⟩, ⟨i4, i5⟩, ⟨i6, i7⟩, i8, ⟨i9, i11⟩, i10, hrt⟩ := h149
        have e142 : (f138 9).toInt = (f124 9).toInt := e142
        have e143 : (f138 17).toInt = (f124 17).toInt := e143
        have e144 : (f138 21).toInt = (f124 21).toInt := e144
        have e145 : (f138 15).toInt = (f124 15).toInt := e145
        have e146 : (f138 20).toInt = (f124 20).toInt := e146
        have e147 : (f138 4).toInt = (f124 4).toInt := e147
        have e148 : R_Txp_push v127 f124 a125 f138 a139 := e148
        have hw : pw D A s.heap H locs [wd_Prg cs hp rp (fun k => if k = 2 then of else none) fp (fun _ _ => 0) (fun _ _ => none), nA cs of fn fd, wd_Txp cs h r (fun k => if k = 3 then (some hp) else none) f138 a139 g] := hw
        refine lv_goto (tgt := 236) S.x S.b d_Txp_flow_179 (by decide) ?_
        have hw : pw D A s.heap _ _ [wd_Txp cs h r (fun k => if k = 3 then (some hp) else none) f138 a139 g, wd_Prg cs hp rp (fun k => if k = 2 then of else none) fp (fun _ _ => 0) (fun _ _ => none), nA cs of fn fd] := hw.sub [2, 0, 1] rfl rfl
        exact px_vret S hr hlk hAe hw (Nat.le_of_ble_eq_true rfl) (Nat.le_of_ble_eq_true rfl) (⟨f138, a139, rfl, (show TxOk (f138 4) (f138 5) (f138 8) (f138 9) (f138 17) (f138 21) (a139 2) from ⟨lk, ⟨by first | exact i2 | omega, by first | exact i3 | omega⟩, ⟨by first | exact i4 | omega, by first | exact i5 | omega⟩, ⟨by first | exact i6 | omega, by first | exact i7 | omega⟩, by first | exact i8 | omega, ⟨by first | exact i9 | omega, by first | exact i11 | omega⟩, by first | exact i10 | omega, hrt⟩), (show (f138 17).toInt = (f 17).toInt from by first | exact oz_1687f4cc65 e129 e143 | omega), (show (f138 15).toInt = (f 15).toInt from by first | exact oz_1687f4cc65 e131 e145 | omega), (show (f138 20).toInt = (f 20).toInt from by first | exact oz_1687f4cc65 e132 e146 | omega), (show R_Txp_flow of fn fd p0 p1 p2 f a f138 a139 from (Or.inl (Or.inr (Or.inr (Or.inr (Or.inr (Or.inr (Or.inl ⟨c25, f124, a125, v127, e134, Or.inl ⟨nc136, f138, a139, e148, rfl, rfl⟩⟩))))))))⟩) d_Txp_flow_236
      · have nc136 : v127.toInt = p2.toInt := (i_eq (x := v127) (y := p2)).mp c136
        refine lv_aload_n S.x S.b d_Txp_flow_165 rfl (lv_at hl 1 rfl) ?_
        refine lv_iload_n S.x S.b d_Txp_flow_166 rfl (lv_at hl 3 rfl) ?_
        refine px_put S k_Txp hT hw 2 0 4 rfl rfl (by decide) m6_217 rfl rfl rfl (Nat.le_of_ble_eq_true rfl) d_Txp_flow_167 (w' := wd_Txp cs h r (fun k => if k = 3 then (some hp) else none) (upd f124 4 p1) a125 g) (ps' := [wd_Prg cs hp rp (fun k => if k = 2 then of else none) fp (fun _ _ => 0) (fun _ _ => none), nA cs of fn fd, wd_Txp cs h r (fun k => if k = 3 then (some hp) else none) (upd f124 4 p1) a125 g]) rfl rfl (fun H locs hw => ?_)
        refine lv_goto (tgt := 236) S.x S.b d_Txp_flow_170 (by decide) ?_
        have hw : pw D A s.heap _ _ [wd_Txp cs h r (fun k => if k = 3 then (some hp) else none) (upd f124 4 p1) a125 g, wd_Prg cs hp rp (fun k => if k = 2 then of else none) fp (fun _ _ => 0) (fun _ _ => none), nA cs of fn fd] := hw.sub [2, 0, 1] rfl rfl
        exact px_vret S hr hlk hAe hw (Nat.le_of_ble_eq_true rfl) (Nat.le_of_ble_eq_true rfl) (⟨(upd f124 4 p1), a125, rfl, (show TxOk p1 (f124 5) (f124 8) (f124 9) (f124 17) (f124 21) (a125 2) from ⟨hlka (by omega) (by omega), ⟨by first | exact i2 | omega, by first | exact i3 | omega⟩, ⟨by first | exact i4 | omega, by first | exact i5 | omega⟩, ⟨by first | exact i6 | omega, by first | exact i7 | omega⟩, by first | exact i8 | omega, ⟨by first | exact i9 | omega, by first | exact i11 | omega⟩, by first | exact i10 | omega, hrt⟩), (show (f124 17).toInt = (f 17).toInt from by first | exact e129 | omega), (show (f124 15).toInt = (f 15).toInt from by first | exact e131 | omega), (show (f124 20).toInt = (f 20).toInt from by first | exact e132 | omega), (show R_Txp_flow of fn fd p0 p1 p2 f a (upd f124 4 p1) a125 from (Or.inl (Or.inr (Or.inr (Or.inr (Or.inr (Or.inr (Or.inl ⟨c25, f124, a125, v127, e134, Or.inr ⟨nc136, rfl, rfl⟩⟩))))))))⟩) d_Txp_flow_236
    · simp only [List.mem_cons, List.not_mem_nil, or_false] at c25
      refine lv_aload_n S.x S.b d_Txp_flow_182 rfl (lv_at hl 0 rfl) ?_
      have hw : pw D A s.heap _ _ [wd_Prg cs hp rp (fun k => if k = 2 then of else none) fp (fun _ _ => 0) (fun _ _ => none), nA cs of fn fd, wd_Txp cs h r (fun k => if k = 3 then (some hp) else none) f a g] := hw.sub [1, 2, 0] rfl rfl
      refine px_calli (pr := [wd_Prg cs hp rp (fun k => if k = 2 then of else none) fp (fun _ _ => 0) (fun _ _ => none), nA cs of fn fd]) (px_runV (As := []) (rest := []) S (c_Txp_pay l D cs h r g hp f a   (show TxOk (f 4) (f 5) (f 8) (f 9) (f 17) (f 21) (a 2) from ⟨lk, ⟨by first | exact i2 | omega, by first | exact i3 | omega⟩, ⟨by first | exact i4 | omega, by first | exact i5 | omega⟩, ⟨by first | exact i6 | omega, by first | exact i7 | omega⟩, by first | exact i8 | omega, ⟨by first | exact i9 | omega, by first | exact i11 | omega⟩, by first | exact i10 | omega, hrt⟩) (show (f 21).toInt = 0 from by first | exact g0 | omega) _) hT (pr := [wd_Prg cs hp rp (fun k => if k = 2 then of else none) fp (fun _ _ => 0) (fun _ _ => none), nA cs of fn fd]) (pcs := [wd_Txp cs h r (fun k => if k = 3 then (some hp) else none) f a g]) hw px_X.tt (px_recv hT hw 2 0 rfl rfl rfl) m9_19 m9_16 m9_18 ms_7_1 m1_35 q_Txp_pay ⟨Nat.le_of_ble_eq_true rfl, Nat.le_of_ble_eq_true rfl⟩ hl.1 rfl (Nat.le_of_ble_eq_true rfl) d_Txp_flow_183 ⟨Nat.le_of_ble_eq_true rfl, Nat.le_of_ble_eq_true rfl⟩) hw hA (fun v153 p152 H locs hp152 hw => ?_)
      obtain ⟨f150, a151, rfl, h162, e154, e155, e156, e157, e158, e159, e160, e161⟩ := hp152
      obtain ⟨lk, ⟨i2, i3⟩, ⟨i4, i5⟩, ⟨i6, i7⟩, i8, ⟨i9, i11⟩, i10, hrt⟩ := h162
      have e154 := z_rng e154
      have e155 : v153.toInt = 1 → (f150 9).toInt = (f 9).toInt - 1 := e155
      have e156 : (f150 17).toInt = (f 17).toInt := e156
      have e157 : (f150 21).toInt = 0 := e157
      have e158 : (f150 15).toInt = (f 15).toInt := e158
      have e159 : (f150 20).toInt = (f 20).toInt := e159
      have e160 : (f150 9).toInt ≤ (f 9).toInt := e160
      have e161 : R_Txp_pay f a f150 a151 v153 := e161
      have hw : pw D A s.heap H locs [wd_Prg cs hp rp (fun k => if k = 2 then of else none) fp (fun _ _ => 0) (fun _ _ => none), nA cs of fn fd, wd_Txp cs h r (fun k => if k = 3 then (some hp) else none) f150 a151 g] := hw
      have lv153 := Int32.le_toInt v153
      have uv153 := Int32.toInt_lt v153
      refine lv_pop S.x S.b d_Txp_flow_186 rfl ?_
      refine lv_goto (tgt := 236) S.x S.b d_Txp_flow_187 (by decide) ?_
      have hw : pw D A s.heap _ _ [wd_Txp cs h r (fun k => if k = 3 then (some hp) else none) f150 a151 g, wd_Prg cs hp rp (fun k => if k = 2 then of else none) fp (fun _ _ => 0) (fun _ _ => none), nA cs of fn fd] := hw.sub [2, 0, 1] rfl rfl
      exact px_vret S hr hlk hAe hw (Nat.le_of_ble_eq_true rfl) (Nat.le_of_ble_eq_true rfl) (⟨f150, a151, rfl, (show TxOk (f150 4) (f150 5) (f150 8) (f150 9) (f150 17) (f150 21) (a151 2) from ⟨lk, ⟨by first | exact i2 | omega, by first | exact i3 | omega⟩, ⟨by first | exact i4 | omega, by first | exact i5 | omega⟩, ⟨by first | exact i6 | omega, by first | exact i7 | omega⟩, by first | exact i8 | omega, ⟨by first | exact i9 | omega, by first | exact i11 | omega⟩, by first | exact i10 | omega, hrt⟩), (show (f150 17).toInt = (f 17).toInt from by first | exact e156 | omega), (show (f150 15).toInt = (f 15).toInt from by first | exact e158 | omega), (show (f150 20).toInt = (f 20).toInt from by first | exact e159 | omega), (show R_Txp_flow of fn fd p0 p1 p2 f a f150 a151 from (Or.inl (Or.inr (Or.inr (Or.inr (Or.inr (Or.inr (Or.inr (Or.inl ⟨c25, f150, a151, v153, e161, rfl, rfl⟩)))))))))⟩) d_Txp_flow_236
    · simp only [List.mem_cons, List.not_mem_nil, or_false] at c25
      refine lv_aload_n S.x S.b d_Txp_flow_190 rfl (lv_at hl 0 rfl) ?_
      have hw : pw D A s.heap _ _ [wd_Prg cs hp rp (fun k => if k = 2 then of else none) fp (fun _ _ => 0) (fun _ _ => none), nA cs of fn fd, wd_Txp cs h r (fun k => if k = 3 then (some hp) else none) f a g] := hw.sub [1, 2, 0] rfl rfl
      refine px_calli (pr := [wd_Prg cs hp rp (fun k => if k = 2 then of else none) fp (fun _ _ => 0) (fun _ _ => none), nA cs of fn fd]) (px_runV (As := []) (rest := []) S (c_Txp_pay l D cs h r g hp f a   (show TxOk (f 4) (f 5) (f 8) (f 9) (f 17) (f 21) (a 2) from ⟨lk, ⟨by first | exact i2 | omega, by first | exact i3 | omega⟩, ⟨by first | exact i4 | omega, by first | exact i5 | omega⟩, ⟨by first | exact i6 | omega, by first | exact i7 | omega⟩, by first | exact i8 | omega, ⟨by first | exact i9 | omega, by first | exact i11 | omega⟩, by first | exact i10 | omega, hrt⟩) (show (f 21).toInt = 0 from by first | exact g0 | omega) _) hT (pr := [wd_Prg cs hp rp (fun k => if k = 2 then of else none) fp (fun _ _ => 0) (fun _ _ => none), nA cs of fn fd]) (pcs := [wd_Txp cs h r (fun k => if k = 3 then (some hp) else none) f a g]) hw px_X.tt (px_recv hT hw 2 0 rfl rfl rfl) m9_19 m9_16 m9_18 ms_7_1 m1_35 q_Txp_pay ⟨Nat.le_of_ble_eq_true rfl, Nat.le_of_ble_eq_true rfl⟩ hl.1 rfl (Nat.le_of_ble_eq_true rfl) d_Txp_flow_191 ⟨Nat.le_of_ble_eq_true rfl, Nat.le_of_ble_eq_true rfl⟩) hw hA (fun v166 p165 H locs hp165 hw => ?_)
      obtain ⟨f163, a164, rfl, h175, e167, e168, e169, e170, e171, e172, e173, e174⟩ := hp165
      obtain ⟨lk, ⟨i2, i3⟩, ⟨i4, i5⟩, ⟨i6, i7⟩, i8, ⟨i9, i11⟩, i10, hrt⟩ := h175
      have e167 := z_rng e167
      have e168 : v166.toInt = 1 → (f163 9).toInt = (f 9).toInt - 1 := e168
      have e169 : (f163 17).toInt = (f 17).toInt := e169
      have e170 : (f163 21).toInt = 0 := e170
      have e171 : (f163 15).toInt = (f 15).toInt := e171
      have e172 : (f163 20).toInt = (f 20).toInt := e172
      have e173 : (f163 9).toInt ≤ (f 9).toInt := e173
      have e174 : R_Txp_pay f a f163 a164 v166 := e174
      have hw : pw D A s.heap H locs [wd_Prg cs hp rp (fun k => if k = 2 then of else none) fp (fun _ _ => 0) (fun _ _ => none), nA cs of fn fd, wd_Txp cs h r (fun k => if k = 3 then (some hp) else none) f163 a164 g] := hw
      have lv166 := Int32.le_toInt v166
      have uv166 := Int32.toInt_lt v166
      refine lv_if_eq (tgt := 236) S.x S.b d_Txp_flow_194 (by decide) (fun c176 => ?_) (fun c176 => ?_)
      · have nc176 : v166.toInt = (0 : Int) := (i_eq (x := v166) (y := 0)).mp c176
        have hw : pw D A s.heap _ _ [wd_Txp cs h r (fun k => if k = 3 then (some hp) else none) f163 a164 g, wd_Prg cs hp rp (fun k => if k = 2 then of else none) fp (fun _ _ => 0) (fun _ _ => none), nA cs of fn fd] := hw.sub [2, 0, 1] rfl rfl
        exact px_vret S hr hlk hAe hw (Nat.le_of_ble_eq_true rfl) (Nat.le_of_ble_eq_true rfl) (⟨f163, a164, rfl, (show TxOk (f163 4) (f163 5) (f163 8) (f163 9) (f163 17) (f163 21) (a164 2) from ⟨lk, ⟨by first | exact i2 | omega, by first | exact i3 | omega⟩, ⟨by first | exact i4 | omega, by first | exact i5 | omega⟩, ⟨by first | exact i6 | omega, by first | exact i7 | omega⟩, by first | exact i8 | omega, ⟨by first | exact i9 | omega, by first | exact i11 | omega⟩, by first | exact i10 | omega, hrt⟩), (show (f163 17).toInt = (f 17).toInt from by first | exact e169 | omega), (show (f163 15).toInt = (f 15).toInt from by first | exact e171 | omega), (show (f163 20).toInt = (f 20).toInt from by first | exact e172 | omega), (show R_Txp_flow of fn fd p0 p1 p2 f a f163 a164 from (Or.inl (Or.inr (Or.inr (Or.inr (Or.inr (Or.inr (Or.inr (Or.inr (Or.inl ⟨c25, f163, a164, v166, e174, Or.inl ⟨nc176, rfl, rfl⟩⟩))))))))))⟩) d_Txp_flow_236
      · have nc176 : ¬ v166.toInt = (0 : Int) := mt (i_eq (x := v166) (y := 0)).mpr c176
        refine lv_aload_n S.x S.b d_Txp_flow_197 rfl (lv_at hl 0 rfl) ?_
        refine lv_iload_n S.x S.b d_Txp_flow_198 rfl (lv_at hl 2 rfl) ?_
        have hw : pw D A s.heap _ _ [wd_Txp cs h r (fun k => if k = 3 then (some hp) else none) f163 a164 g, wd_Prg cs hp rp (fun k => if k = 2 then of else none) fp (fun _ _ => 0) (fun _ _ => none), nA cs of fn fd] := hw.sub [2, 0, 1] rfl rfl
        refine px_callv (pr := []) (px_runV (As := [.int p1]) (rest := []) S (c_Txp_call l D cs h r g hp f163 a164 rp of fp fn fd p1  (show TxOk (f163 4) (f163 5) (f163 8) (f163 9) (f163 17) (f163 21) (a164 2) from ⟨lk, ⟨by first | exact i2 | omega, by first | exact i3 | omega⟩, ⟨by first | exact i4 | omega, by first | exact i5 | omega⟩, ⟨by first | exact i6 | omega, by first | exact i7 | omega⟩, by first | exact i8 | omega, ⟨by first | exact i9 | omega, by first | exact i11 | omega⟩, by first | exact i10 | omega, hrt⟩) (show (f163 21).toInt = 0 from by first | exact e170 | omega) (show 0 ≤ p1.toInt from by omega) (show p1.toInt ≤ 1000000 from by omega) (show fn ≤ 1000000 from by first | exact g1 | omega) hfd _) hT (pr := []) (pcs := [wd_Txp cs h r (fun k => if k = 3 then (some hp) else none) f163 a164 g, wd_Prg cs hp rp (fun k => if k = 2 then of else none) fp (fun _ _ => 0) (fun _ _ => none), nA cs of fn fd]) hw px_X.tt (px_recv hT hw 0 0 rfl rfl rfl) m9_23 m9_20 m9_22 ms_7_2 m1_35 q_Txp_call ⟨Nat.le_of_ble_eq_true rfl, Nat.le_of_ble_eq_true rfl⟩ hl.1 rfl (Nat.le_of_ble_eq_true rfl) d_Txp_flow_199 ⟨Nat.le_of_ble_eq_true rfl, Nat.le_of_ble_eq_true rfl⟩) hw hA (fun p180 H locs hp180 hw => ?_)
        obtain ⟨f178, a179, rfl, h188, e182, e183, e184, e185, e186, e187⟩ := hp180
        obtain ⟨lk, ⟨i2, i3⟩, ⟨i4, i5⟩, ⟨i6, i7⟩, i8, ⟨i9, i11⟩, i10, hrt⟩ := h188
        have e182 : (f178 9).toInt = (f163 9).toInt := e182
        have e183 : (f178 17).toInt = (f163 17).toInt := e183
        have e184 : (f178 21).toInt = 0 := e184
        have e185 : (f178 15).toInt = (f163 15).toInt := e185
        have e186 : (f178 20).toInt = (f163 20).toInt := e186
        have e187 : R_Txp_call of fn fd p1 f163 a164 f178 a179 := e187
        have hw : pw D A s.heap H locs [wd_Txp cs h r (fun k => if k = 3 then (some hp) else none) f178 a179 g, wd_Prg cs hp rp (fun k => if k = 2 then of else none) fp (fun _ _ => 0) (fun _ _ => none), nA cs of fn fd] := hw
        refine lv_goto (tgt := 236) S.x S.b d_Txp_flow_202 (by decide) ?_
        exact px_vret S hr hlk hAe hw (Nat.le_of_ble_eq_true rfl) (Nat.le_of_ble_eq_true rfl) (⟨f178, a179, rfl, (show TxOk (f178 4) (f178 5) (f178 8) (f178 9) (f178 17) (f178 21) (a179 2) from ⟨lk, ⟨by first | exact i2 | omega, by first | exact i3 | omega⟩, ⟨by first | exact i4 | omega, by first | exact i5 | omega⟩, ⟨by first | exact i6 | omega, by first | exact i7 | omega⟩, by first | exact i8 | omega, ⟨by first | exact i9 | omega, by first | exact i11 | omega⟩, by first | exact i10 | omega, hrt⟩), (show (f178 17).toInt = (f 17).toInt from by first | exact oz_1687f4cc65 e169 e183 | omega), (show (f178 15).toInt = (f 15).toInt from by first | exact oz_1687f4cc65 e171 e185 | omega), (show (f178 20).toInt = (f 20).toInt from by first | exact oz_1687f4cc65 e172 e186 | omega), (show R_Txp_flow of fn fd p0 p1 p2 f a f178 a179 from (Or.inl (Or.inr (Or.inr (Or.inr (Or.inr (Or.inr (Or.inr (Or.inr (Or.inl ⟨c25, f163, a164, v166, e174, Or.inr ⟨nc176, f178, a179, e187, rfl, rfl⟩⟩))))))))))⟩) d_Txp_flow_236
    · simp only [List.mem_cons, List.not_mem_nil, or_false] at c25
      refine lv_aload_n S.x S.b d_Txp_flow_205 rfl (lv_at hl 0 rfl) ?_
      have hw : pw D A s.heap _ _ [wd_Prg cs hp rp (fun k => if k = 2 then of else none) fp (fun _ _ => 0) (fun _ _ => none), nA cs of fn fd, wd_Txp cs h r (fun k => if k = 3 then (some hp) else none) f a g] := hw.sub [1, 2, 0] rfl rfl
      refine px_calli (pr := [wd_Prg cs hp rp (fun k => if k = 2 then of else none) fp (fun _ _ => 0) (fun _ _ => none), nA cs of fn fd]) (px_runV (As := []) (rest := []) S (c_Txp_pay l D cs h r g hp f a   (show TxOk (f 4) (f 5) (f 8) (f 9) (f 17) (f 21) (a 2) from ⟨lk, ⟨by first | exact i2 | omega, by first | exact i3 | omega⟩, ⟨by first | exact i4 | omega, by first | exact i5 | omega⟩, ⟨by first | exact i6 | omega, by first | exact i7 | omega⟩, by first | exact i8 | omega, ⟨by first | exact i9 | omega, by first | exact i11 | omega⟩, by first | exact i10 | omega, hrt⟩) (show (f 21).toInt = 0 from by first | exact g0 | omega) _) hT (pr := [wd_Prg cs hp rp (fun k => if k = 2 then of else none) fp (fun _ _ => 0) (fun _ _ => none), nA cs of fn fd]) (pcs := [wd_Txp cs h r (fun k => if k = 3 then (some hp) else none) f a g]) hw px_X.tt (px_recv hT hw 2 0 rfl rfl rfl) m9_19 m9_16 m9_18 ms_7_1 m1_35 q_Txp_pay ⟨Nat.le_of_ble_eq_true rfl, Nat.le_of_ble_eq_true rfl⟩ hl.1 rfl (Nat.le_of_ble_eq_true rfl) d_Txp_flow_206 ⟨Nat.le_of_ble_eq_true rfl, Nat.le_of_ble_eq_true rfl⟩) hw hA (fun v192 p191 H locs hp191 hw => ?_)
      obtain ⟨f189, a190, rfl, h201, e193, e194, e195, e196, e197, e198, e199, e200⟩ := hp191
      obtain ⟨lk, ⟨i2, i3⟩, ⟨i4, i5⟩, ⟨i6, i7⟩, i8, ⟨i9, i11⟩, i10, hrt⟩ := h201
      have e193 := z_rng e193
      have e194 : v192.toInt = 1 → (f189 9).toInt = (f 9).toInt - 1 := e194
      have e195 : (f189 17).toInt = (f 17).toInt := e195
      have e196 : (f189 21).toInt = 0 := e196
      have e197 : (f189 15).toInt = (f 15).toInt := e197
      have e198 : (f189 20).toInt = (f 20).toInt := e198
      have e199 : (f189 9).toInt ≤ (f 9).toInt := e199
      have e200 : R_Txp_pay f a f189 a190 v192 := e200
      have hw : pw D A s.heap H locs [wd_Prg cs hp rp (fun k => if k = 2 then of else none) fp (fun _ _ => 0) (fun _ _ => none), nA cs of fn fd, wd_Txp cs h r (fun k => if k = 3 then (some hp) else none) f189 a190 g] := hw
      have lv192 := Int32.le_toInt v192
      have uv192 := Int32.toInt_lt v192
      refine lv_if_eq (tgt := 236) S.x S.b d_Txp_flow_209 (by decide) (fun c202 => ?_) (fun c202 => ?_)
      · have nc202 : v192.toInt = (0 : Int) := (i_eq (x := v192) (y := 0)).mp c202
        have hw : pw D A s.heap _ _ [wd_Txp cs h r (fun k => if k = 3 then (some hp) else none) f189 a190 g, wd_Prg cs hp rp (fun k => if k = 2 then of else none) fp (fun _ _ => 0) (fun _ _ => none), nA cs of fn fd] := hw.sub [2, 0, 1] rfl rfl
        exact px_vret S hr hlk hAe hw (Nat.le_of_ble_eq_true rfl) (Nat.le_of_ble_eq_true rfl) (⟨f189, a190, rfl, (show TxOk (f189 4) (f189 5) (f189 8) (f189 9) (f189 17) (f189 21) (a190 2) from ⟨lk, ⟨by first | exact i2 | omega, by first | exact i3 | omega⟩, ⟨by first | exact i4 | omega, by first | exact i5 | omega⟩, ⟨by first | exact i6 | omega, by first | exact i7 | omega⟩, by first | exact i8 | omega, ⟨by first | exact i9 | omega, by first | exact i11 | omega⟩, by first | exact i10 | omega, hrt⟩), (show (f189 17).toInt = (f 17).toInt from by first | exact e195 | omega), (show (f189 15).toInt = (f 15).toInt from by first | exact e197 | omega), (show (f189 20).toInt = (f 20).toInt from by first | exact e198 | omega), (show R_Txp_flow of fn fd p0 p1 p2 f a f189 a190 from (Or.inl (Or.inr (Or.inr (Or.inr (Or.inr (Or.inr (Or.inr (Or.inr (Or.inr (Or.inl ⟨c25, f189, a190, v192, e200, Or.inl ⟨nc202, rfl, rfl⟩⟩)))))))))))⟩) d_Txp_flow_236
      · have nc202 : ¬ v192.toInt = (0 : Int) := mt (i_eq (x := v192) (y := 0)).mpr c202
        refine lv_aload_n S.x S.b d_Txp_flow_212 rfl (lv_at hl 0 rfl) ?_
        refine lv_iload_n S.x S.b d_Txp_flow_213 rfl (lv_at hl 2 rfl) ?_
        refine px_callv (pr := [wd_Prg cs hp rp (fun k => if k = 2 then of else none) fp (fun _ _ => 0) (fun _ _ => none), nA cs of fn fd]) (px_runV (As := [.int p1]) (rest := []) S (c_Txp_ask l D cs h r g hp f189 a190 p1  (show TxOk (f189 4) (f189 5) (f189 8) (f189 9) (f189 17) (f189 21) (a190 2) from ⟨lk, ⟨by first | exact i2 | omega, by first | exact i3 | omega⟩, ⟨by first | exact i4 | omega, by first | exact i5 | omega⟩, ⟨by first | exact i6 | omega, by first | exact i7 | omega⟩, by first | exact i8 | omega, ⟨by first | exact i9 | omega, by first | exact i11 | omega⟩, by first | exact i10 | omega, hrt⟩) (show (f189 21).toInt = 0 from by first | exact e196 | omega) (show (f189 17).toInt + (f189 9).toInt ≤ 99 from by omega) _) hT (pr := [wd_Prg cs hp rp (fun k => if k = 2 then of else none) fp (fun _ _ => 0) (fun _ _ => none), nA cs of fn fd]) (pcs := [wd_Txp cs h r (fun k => if k = 3 then (some hp) else none) f189 a190 g]) hw px_X.tt (px_recv hT hw 2 0 rfl rfl rfl) m9_31 m9_28 m9_30 ms_7_3 m1_35 q_Txp_ask ⟨Nat.le_of_ble_eq_true rfl, Nat.le_of_ble_eq_true rfl⟩ hl.1 rfl (Nat.le_of_ble_eq_true rfl) d_Txp_flow_214 ⟨Nat.le_of_ble_eq_true rfl, Nat.le_of_ble_eq_true rfl⟩) hw hA (fun p206 H locs hp206 hw => ?_)
        obtain ⟨f204, a205, rfl, h214, e208, e209, e210, e211, e212, e213⟩ := hp206
        obtain ⟨lk, ⟨i2, i3⟩, ⟨i4, i5⟩, ⟨i6, i7⟩, i8, ⟨i9, i11⟩, i10, hrt⟩ := h214
        have e208 : (f204 9).toInt = (f189 9).toInt := e208
        have e209 : (f204 17).toInt = (f189 17).toInt := e209
        have e210 : (f204 21).toInt = 1 := e210
        have e211 : (f204 15).toInt = (f189 15).toInt := e211
        have e212 : (f204 20).toInt = (f189 20).toInt := e212
        have e213 : R_Txp_ask p1 f189 a190 f204 a205 := e213
        have hw : pw D A s.heap H locs [wd_Prg cs hp rp (fun k => if k = 2 then of else none) fp (fun _ _ => 0) (fun _ _ => none), nA cs of fn fd, wd_Txp cs h r (fun k => if k = 3 then (some hp) else none) f204 a205 g] := hw
        refine lv_goto (tgt := 236) S.x S.b d_Txp_flow_217 (by decide) ?_
        have hw : pw D A s.heap _ _ [wd_Txp cs h r (fun k => if k = 3 then (some hp) else none) f204 a205 g, wd_Prg cs hp rp (fun k => if k = 2 then of else none) fp (fun _ _ => 0) (fun _ _ => none), nA cs of fn fd] := hw.sub [2, 0, 1] rfl rfl
        exact px_vret S hr hlk hAe hw (Nat.le_of_ble_eq_true rfl) (Nat.le_of_ble_eq_true rfl) (⟨f204, a205, rfl, (show TxOk (f204 4) (f204 5) (f204 8) (f204 9) (f204 17) (f204 21) (a205 2) from ⟨lk, ⟨by first | exact i2 | omega, by first | exact i3 | omega⟩, ⟨by first | exact i4 | omega, by first | exact i5 | omega⟩, ⟨by first | exact i6 | omega, by first | exact i7 | omega⟩, by first | exact i8 | omega, ⟨by first | exact i9 | omega, by first | exact i11 | omega⟩, by first | exact i10 | omega, hrt⟩), (show (f204 17).toInt = (f 17).toInt from by first | exact oz_1687f4cc65 e195 e209 | omega), (show (f204 15).toInt = (f 15).toInt from by first | exact oz_1687f4cc65 e197 e211 | omega), (show (f204 20).toInt = (f 20).toInt from by first | exact oz_1687f4cc65 e198 e212 | omega), (show R_Txp_flow of fn fd p0 p1 p2 f a f204 a205 from (Or.inl (Or.inr (Or.inr (Or.inr (Or.inr (Or.inr (Or.inr (Or.inr (Or.inr (Or.inl ⟨c25, f189, a190, v192, e200, Or.inr ⟨nc202, f204, a205, e213, rfl, rfl⟩⟩)))))))))))⟩) d_Txp_flow_236
    · simp only [List.mem_cons, List.not_mem_nil, or_false] at c25
      refine lv_aload_n S.x S.b d_Txp_flow_220 rfl (lv_at hl 0 rfl) ?_
      have hw : pw D A s.heap _ _ [wd_Prg cs hp rp (fun k => if k = 2 then of else none) fp (fun _ _ => 0) (fun _ _ => none), nA cs of fn fd, wd_Txp cs h r (fun k => if k = 3 then (some hp) else none) f a g] := hw.sub [1, 2, 0] rfl rfl
      refine px_callv (pr := [wd_Prg cs hp rp (fun k => if k = 2 then of else none) fp (fun _ _ => 0) (fun _ _ => none), nA cs of fn fd]) (px_runV (As := []) (rest := []) S (c_Txp_give l D cs h r g hp f a   (show TxOk (f 4) (f 5) (f 8) (f 9) (f 17) (f 21) (a 2) from ⟨lk, ⟨by first | exact i2 | omega, by first | exact i3 | omega⟩, ⟨by first | exact i4 | omega, by first | exact i5 | omega⟩, ⟨by first | exact i6 | omega, by first | exact i7 | omega⟩, by first | exact i8 | omega, ⟨by first | exact i9 | omega, by first | exact i11 | omega⟩, by first | exact i10 | omega, hrt⟩) _) hT (pr := [wd_Prg cs hp rp (fun k => if k = 2 then of else none) fp (fun _ _ => 0) (fun _ _ => none), nA cs of fn fd]) (pcs := [wd_Txp cs h r (fun k => if k = 3 then (some hp) else none) f a g]) hw px_X.tt (px_recv hT hw 2 0 rfl rfl rfl) m9_35 m9_32 m9_34 ms_7_4 m1_35 q_Txp_give ⟨Nat.le_of_ble_eq_true rfl, Nat.le_of_ble_eq_true rfl⟩ hl.1 rfl (Nat.le_of_ble_eq_true rfl) d_Txp_flow_221 ⟨Nat.le_of_ble_eq_true rfl, Nat.le_of_ble_eq_true rfl⟩) hw hA (fun p217 H locs hp217 hw => ?_)
      obtain ⟨f215, a216, rfl, h225, e219, e220, e221, e222, e223, e224⟩ := hp217
      obtain ⟨lk, ⟨i2, i3⟩, ⟨i4, i5⟩, ⟨i6, i7⟩, i8, ⟨i9, i11⟩, i10, hrt⟩ := h225
      have e219 : (f215 9).toInt = (f 9).toInt := e219
      have e220 : (f215 17).toInt = (f 17).toInt := e220
      have e221 : (f215 21).toInt = (f 21).toInt := e221
      have e222 : (f215 15).toInt = (f 15).toInt := e222
      have e223 : (f215 20).toInt = (f 20).toInt := e223
      have e224 : R_Txp_give f a f215 a216 := e224
      have hw : pw D A s.heap H locs [wd_Prg cs hp rp (fun k => if k = 2 then of else none) fp (fun _ _ => 0) (fun _ _ => none), nA cs of fn fd, wd_Txp cs h r (fun k => if k = 3 then (some hp) else none) f215 a216 g] := hw
      refine lv_goto (tgt := 236) S.x S.b d_Txp_flow_224 (by decide) ?_
      have hw : pw D A s.heap _ _ [wd_Txp cs h r (fun k => if k = 3 then (some hp) else none) f215 a216 g, wd_Prg cs hp rp (fun k => if k = 2 then of else none) fp (fun _ _ => 0) (fun _ _ => none), nA cs of fn fd] := hw.sub [2, 0, 1] rfl rfl
      exact px_vret S hr hlk hAe hw (Nat.le_of_ble_eq_true rfl) (Nat.le_of_ble_eq_true rfl) (⟨f215, a216, rfl, (show TxOk (f215 4) (f215 5) (f215 8) (f215 9) (f215 17) (f215 21) (a216 2) from ⟨lk, ⟨by first | exact i2 | omega, by first | exact i3 | omega⟩, ⟨by first | exact i4 | omega, by first | exact i5 | omega⟩, ⟨by first | exact i6 | omega, by first | exact i7 | omega⟩, by first | exact i8 | omega, ⟨by first | exact i9 | omega, by first | exact i11 | omega⟩, by first | exact i10 | omega, hrt⟩), (show (f215 17).toInt = (f 17).toInt from by first | exact e220 | omega), (show (f215 15).toInt = (f 15).toInt from by first | exact e222 | omega), (show (f215 20).toInt = (f 20).toInt from by first | exact e223 | omega), (show R_Txp_flow of fn fd p0 p1 p2 f a f215 a216 from (Or.inl (Or.inr (Or.inr (Or.inr (Or.inr (Or.inr (Or.inr (Or.inr (Or.inr (Or.inr ⟨c25, f215, a216, e224, rfl, rfl⟩)))))))))))⟩) d_Txp_flow_236
abbrev b_Txp_step : ByteArray := prog_11_method_12_code
def y_Txp_step : MethodName := ⟨"HomeSystem$TextProcess", "step", "()V"⟩
theorem d_Txp_step_0 : decode b_Txp_step 0 = .ok (.aload_n 0, 1) := by decide +kernel
theorem d_Txp_step_1 : decode b_Txp_step 1 = .ok (.getfield 41, 3) := by decide +kernel
theorem d_Txp_step_4 : decode b_Txp_step 4 = .ok (.istore_n 1, 1) := by decide +kernel
theorem d_Txp_step_5 : decode b_Txp_step 5 = .ok (.aload_n 0, 1) := by decide +kernel
theorem d_Txp_step_6 : decode b_Txp_step 6 = .ok (.getfield 25, 3) := by decide +kernel
theorem d_Txp_step_9 : decode b_Txp_step 9 = .ok (.ifnull 21, 3) := by decide +kernel
theorem d_Txp_step_12 : decode b_Txp_step 12 = .ok (.iload_n 1, 1) := by decide +kernel
theorem d_Txp_step_13 : decode b_Txp_step 13 = .ok (.ifCond .lt 17, 3) := by decide +kernel
theorem d_Txp_step_16 : decode b_Txp_step 16 = .ok (.iload_n 1, 1) := by decide +kernel
theorem d_Txp_step_17 : decode b_Txp_step 17 = .ok (.iconst 4, 1) := by decide +kernel
theorem d_Txp_step_18 : decode b_Txp_step 18 = .ok (.iadd, 1) := by decide +kernel
theorem d_Txp_step_19 : decode b_Txp_step 19 = .ok (.aload_n 0, 1) := by decide +kernel
theorem d_Txp_step_20 : decode b_Txp_step 20 = .ok (.getfield 25, 3) := by decide +kernel
theorem d_Txp_step_23 : decode b_Txp_step 23 = .ok (.getfield 102, 3) := by decide +kernel
theorem d_Txp_step_26 : decode b_Txp_step 26 = .ok (.arraylength, 1) := by decide +kernel
theorem d_Txp_step_27 : decode b_Txp_step 27 = .ok (.if_icmp .le 11, 3) := by decide +kernel
theorem d_Txp_step_30 : decode b_Txp_step 30 = .ok (.aload_n 0, 1) := by decide +kernel
theorem d_Txp_step_31 : decode b_Txp_step 31 = .ok (.bipush 7, 2) := by decide +kernel
theorem d_Txp_step_33 : decode b_Txp_step 33 = .ok (.iconst 0, 1) := by decide +kernel
theorem d_Txp_step_34 : decode b_Txp_step 34 = .ok (.invokevirtual 105, 3) := by decide +kernel
theorem d_Txp_step_37 : decode b_Txp_step 37 = .ok (.return_, 1) := by decide +kernel
theorem d_Txp_step_38 : decode b_Txp_step 38 = .ok (.aload_n 0, 1) := by decide +kernel
theorem d_Txp_step_39 : decode b_Txp_step 39 = .ok (.getfield 25, 3) := by decide +kernel
theorem d_Txp_step_42 : decode b_Txp_step 42 = .ok (.getfield 102, 3) := by decide +kernel
theorem d_Txp_step_45 : decode b_Txp_step 45 = .ok (.iload_n 1, 1) := by decide +kernel
theorem d_Txp_step_46 : decode b_Txp_step 46 = .ok (.iaload, 1) := by decide +kernel
theorem d_Txp_step_47 : decode b_Txp_step 47 = .ok (.sipush 255, 3) := by decide +kernel
theorem d_Txp_step_50 : decode b_Txp_step 50 = .ok (.iand, 1) := by decide +kernel
theorem d_Txp_step_51 : decode b_Txp_step 51 = .ok (.istore_n 2, 1) := by decide +kernel
theorem d_Txp_step_52 : decode b_Txp_step 52 = .ok (.aload_n 0, 1) := by decide +kernel
theorem d_Txp_step_53 : decode b_Txp_step 53 = .ok (.getfield 25, 3) := by decide +kernel
theorem d_Txp_step_56 : decode b_Txp_step 56 = .ok (.getfield 102, 3) := by decide +kernel
theorem d_Txp_step_59 : decode b_Txp_step 59 = .ok (.iload_n 1, 1) := by decide +kernel
theorem d_Txp_step_60 : decode b_Txp_step 60 = .ok (.iaload, 1) := by decide +kernel
theorem d_Txp_step_61 : decode b_Txp_step 61 = .ok (.bipush 8, 2) := by decide +kernel
theorem d_Txp_step_63 : decode b_Txp_step 63 = .ok (.iushr, 1) := by decide +kernel
theorem d_Txp_step_64 : decode b_Txp_step 64 = .ok (.istore_n 3, 1) := by decide +kernel
theorem d_Txp_step_65 : decode b_Txp_step 65 = .ok (.aload_n 0, 1) := by decide +kernel
theorem d_Txp_step_66 : decode b_Txp_step 66 = .ok (.getfield 25, 3) := by decide +kernel
theorem d_Txp_step_69 : decode b_Txp_step 69 = .ok (.getfield 102, 3) := by decide +kernel
theorem d_Txp_step_72 : decode b_Txp_step 72 = .ok (.iload_n 1, 1) := by decide +kernel
theorem d_Txp_step_73 : decode b_Txp_step 73 = .ok (.iconst 1, 1) := by decide +kernel
theorem d_Txp_step_74 : decode b_Txp_step 74 = .ok (.iadd, 1) := by decide +kernel
theorem d_Txp_step_75 : decode b_Txp_step 75 = .ok (.iaload, 1) := by decide +kernel
theorem d_Txp_step_76 : decode b_Txp_step 76 = .ok (.istore 4, 2) := by decide +kernel
theorem d_Txp_step_78 : decode b_Txp_step 78 = .ok (.aload_n 0, 1) := by decide +kernel
theorem d_Txp_step_79 : decode b_Txp_step 79 = .ok (.getfield 25, 3) := by decide +kernel
theorem d_Txp_step_82 : decode b_Txp_step 82 = .ok (.getfield 102, 3) := by decide +kernel
theorem d_Txp_step_85 : decode b_Txp_step 85 = .ok (.iload_n 1, 1) := by decide +kernel
theorem d_Txp_step_86 : decode b_Txp_step 86 = .ok (.iconst 2, 1) := by decide +kernel
theorem d_Txp_step_87 : decode b_Txp_step 87 = .ok (.iadd, 1) := by decide +kernel
theorem d_Txp_step_88 : decode b_Txp_step 88 = .ok (.iaload, 1) := by decide +kernel
theorem d_Txp_step_89 : decode b_Txp_step 89 = .ok (.istore 5, 2) := by decide +kernel
theorem d_Txp_step_91 : decode b_Txp_step 91 = .ok (.aload_n 0, 1) := by decide +kernel
theorem d_Txp_step_92 : decode b_Txp_step 92 = .ok (.getfield 25, 3) := by decide +kernel
theorem d_Txp_step_95 : decode b_Txp_step 95 = .ok (.getfield 102, 3) := by decide +kernel
theorem d_Txp_step_98 : decode b_Txp_step 98 = .ok (.iload_n 1, 1) := by decide +kernel
theorem d_Txp_step_99 : decode b_Txp_step 99 = .ok (.iconst 3, 1) := by decide +kernel
theorem d_Txp_step_100 : decode b_Txp_step 100 = .ok (.iadd, 1) := by decide +kernel
theorem d_Txp_step_101 : decode b_Txp_step 101 = .ok (.iaload, 1) := by decide +kernel
theorem d_Txp_step_102 : decode b_Txp_step 102 = .ok (.istore 6, 2) := by decide +kernel
theorem d_Txp_step_104 : decode b_Txp_step 104 = .ok (.aload_n 0, 1) := by decide +kernel
theorem d_Txp_step_105 : decode b_Txp_step 105 = .ok (.iload_n 1, 1) := by decide +kernel
theorem d_Txp_step_106 : decode b_Txp_step 106 = .ok (.iconst 4, 1) := by decide +kernel
theorem d_Txp_step_107 : decode b_Txp_step 107 = .ok (.iadd, 1) := by decide +kernel
theorem d_Txp_step_108 : decode b_Txp_step 108 = .ok (.putfield 41, 3) := by decide +kernel
theorem d_Txp_step_111 : decode b_Txp_step 111 = .ok (.iload_n 2, 1) := by decide +kernel
theorem d_Txp_step_112 : decode b_Txp_step 112 = .ok (.bipush 15, 2) := by decide +kernel
theorem d_Txp_step_114 : decode b_Txp_step 114 = .ok (.if_icmp .lt 15, 3) := by decide +kernel
theorem d_Txp_step_117 : decode b_Txp_step 117 = .ok (.aload_n 0, 1) := by decide +kernel
theorem d_Txp_step_118 : decode b_Txp_step 118 = .ok (.iload_n 2, 1) := by decide +kernel
theorem d_Txp_step_119 : decode b_Txp_step 119 = .ok (.iload 4, 2) := by decide +kernel
theorem d_Txp_step_121 : decode b_Txp_step 121 = .ok (.iload 5, 2) := by decide +kernel
theorem d_Txp_step_123 : decode b_Txp_step 123 = .ok (.invokevirtual 108, 3) := by decide +kernel
theorem d_Txp_step_126 : decode b_Txp_step 126 = .ok (.goto 40, 3) := by decide +kernel
theorem d_Txp_step_129 : decode b_Txp_step 129 = .ok (.iload_n 2, 1) := by decide +kernel
theorem d_Txp_step_130 : decode b_Txp_step 130 = .ok (.iconst 2, 1) := by decide +kernel
theorem d_Txp_step_131 : decode b_Txp_step 131 = .ok (.if_icmp .lt 23, 3) := by decide +kernel
theorem d_Txp_step_134 : decode b_Txp_step 134 = .ok (.iload_n 2, 1) := by decide +kernel
theorem d_Txp_step_135 : decode b_Txp_step 135 = .ok (.iconst 5, 1) := by decide +kernel
theorem d_Txp_step_136 : decode b_Txp_step 136 = .ok (.if_icmp .gt 18, 3) := by decide +kernel
theorem d_Txp_step_139 : decode b_Txp_step 139 = .ok (.aload_n 0, 1) := by decide +kernel
theorem d_Txp_step_140 : decode b_Txp_step 140 = .ok (.iload_n 2, 1) := by decide +kernel
theorem d_Txp_step_141 : decode b_Txp_step 141 = .ok (.iload_n 3, 1) := by decide +kernel
theorem d_Txp_step_142 : decode b_Txp_step 142 = .ok (.iload 4, 2) := by decide +kernel
theorem d_Txp_step_144 : decode b_Txp_step 144 = .ok (.iload 5, 2) := by decide +kernel
theorem d_Txp_step_146 : decode b_Txp_step 146 = .ok (.iload 6, 2) := by decide +kernel
theorem d_Txp_step_148 : decode b_Txp_step 148 = .ok (.invokevirtual 112, 3) := by decide +kernel
theorem d_Txp_step_151 : decode b_Txp_step 151 = .ok (.goto 15, 3) := by decide +kernel
theorem d_Txp_step_154 : decode b_Txp_step 154 = .ok (.aload_n 0, 1) := by decide +kernel
theorem d_Txp_step_155 : decode b_Txp_step 155 = .ok (.iload_n 2, 1) := by decide +kernel
theorem d_Txp_step_156 : decode b_Txp_step 156 = .ok (.iload_n 3, 1) := by decide +kernel
theorem d_Txp_step_157 : decode b_Txp_step 157 = .ok (.iload 4, 2) := by decide +kernel
theorem d_Txp_step_159 : decode b_Txp_step 159 = .ok (.iload 5, 2) := by decide +kernel
theorem d_Txp_step_161 : decode b_Txp_step 161 = .ok (.iload 6, 2) := by decide +kernel
theorem d_Txp_step_163 : decode b_Txp_step 163 = .ok (.invokevirtual 116, 3) := by decide +kernel
theorem d_Txp_step_166 : decode b_Txp_step 166 = .ok (.return_, 1) := by decide +kernel
theorem q_Txp_step : px_y y_Txp_step 0 := by unfold px_y; decide +kernel
set_option maxHeartbeats 4000000 in
set_option maxRecDepth 100000 in
theorem c_Txp_step (l : Launch) (D : va_G) (cs : Nat → ClassId) (h : Nat) (r : Nat → Nat) (g : Nat → Nat → Option Nat) (hp : Nat) (f : Nat → Int32) (a : Nat → Nat → Int32) (rp : Nat → Nat) (of : Option Nat) (fp : Nat → Int32) (fn : Nat) (fd : Nat → Int32) (cn : Nat) (cd : Nat → Int32)  (hinv0 : TxOk (f 4) (f 5) (f 8) (f 9) (f 17) (f 21) (a 2)) (g0 : (f 21).toInt = 0) (g1 : fn ≤ 1000000) (g2 : cn ≤ 100000) (hfd : RtOk fd) (hcd : CodeOk cd) : MetV l y_Txp_step b_Txp_step 7 D cs 3 130 (0) (0) [.ref h] [wd_Txp cs h r (fun k => if k = 3 then (some hp) else none) f a g, wd_Prg cs hp rp (fun k => if k = 2 then of else none) fp (fun _ _ => 0) (fun _ _ => none), nA cs of fn fd, [((rp 1), .inl (cs 0, cn, .inl cd))]] (fun _ => True) (fun ps => ∃ (f' : Nat → Int32) (a' : Nat → Nat → Int32), (ps = [wd_Txp cs h r (fun k => if k = 3 then (some hp) else none) f' a' g, wd_Prg cs hp rp (fun k => if k = 2 then of else none) fp (fun _ _ => 0) (fun _ _ => none), nA cs of fn fd, [((rp 1), .inl (cs 0, cn, .inl cd))]]) ∧ (TxOk (f' 4) (f' 5) (f' 8) (f' 9) (f' 17) (f' 21) (a' 2)) ∧ ((f' 17).toInt = (f 17).toInt) ∧ ((f' 15).toInt = (f 15).toInt) ∧ ((f' 20).toInt = (f 20).toInt) ∧ (R_Txp_step of fn fd cn cd f a f' a')) := by
  refine px_enter (by decide) (Nat.le_of_ble_eq_true rfl) ?_
  intro p e s m below meth c A ls hAe S hr hlk hnm hA hT hX hw hl
  have hl : lv_has ls 7 [(0, .ref h)] := hl
  have cst0 : (0 : Int32).toInt = 0 := rfl
  have cst1 : (1 : Int32).toInt = 1 := rfl
  have cst2 : (2 : Int32).toInt = 2 := rfl
  have cst3 : (3 : Int32).toInt = 3 := rfl
  have cst4 : (4 : Int32).toInt = 4 := rfl
  have cst5 : (5 : Int32).toInt = 5 := rfl
  have cst7 : (7 : Int32).toInt = 7 := rfl
  have cst8 : (8 : Int32).toInt = 8 := rfl
  have cst15 : (15 : Int32).toInt = 15 := rfl
  have cst255 : (255 : Int32).toInt = 255 := rfl
  obtain ⟨lk, ⟨i2, i3⟩, ⟨i4, i5⟩, ⟨i6, i7⟩, i8, ⟨i9, i11⟩, i10, hrt⟩ := hinv0
  have lk0 := lk
  unfold Lk at lk0
  have hcn : (nI cn).toInt = (cn : Int) := nI_toInt (by omega)
  refine lv_aload_n S.x S.b d_Txp_step_0 rfl (lv_at hl 0 rfl) ?_
  refine px_get S k_Txp hT hw 0 0 4 (v := .int (f 4)) rfl rfl rfl (by decide) m6_217 d_Txp_step_1 ?_
  refine lv_istore_n (lv' := [(1, .int (f 4)), (0, .ref h)]) S.x S.b d_Txp_step_4 rfl hl (by decide) rfl (fun ls hl => ?_)
  refine lv_aload_n S.x S.b d_Txp_step_5 rfl (lv_at hl 1 rfl) ?_
  refine px_get S k_Txp hT hw 0 0 3 (v := .ref hp) rfl rfl rfl (by decide) m6_216 d_Txp_step_6 ?_
  refine lv_ifnull S.x S.b d_Txp_step_9 ?_
  refine lv_iload_n S.x S.b d_Txp_step_12 rfl (lv_at hl 0 rfl) ?_
  refine lv_if_lt (tgt := 30) S.x S.b d_Txp_step_13 (by decide) (fun c1 => ?_) (fun c1 => ?_)
  · have nc1 : (f 4).toInt < (0 : Int) := (i_lt (x := (f 4)) (y := 0)).mp c1
    refine lv_aload_n S.x S.b d_Txp_step_30 rfl (lv_at hl 1 rfl) ?_
    refine lv_bipush (v := 7) S.x S.b d_Txp_step_31 (by decide) ?_
    refine lv_iconst (v := 0) S.x S.b d_Txp_step_33 (by decide) ?_
    have hw : pw D A s.heap _ _ [wd_Prg cs hp rp (fun k => if k = 2 then of else none) fp (fun _ _ => 0) (fun _ _ => none), nA cs of fn fd, [((rp 1), .inl (cs 0, cn, .inl cd))], wd_Txp cs h r (fun k => if k = 3 then (some hp) else none) f a g] := hw.sub [1, 2, 3, 0] rfl rfl
    refine px_callv (pr := [wd_Prg cs hp rp (fun k => if k = 2 then of else none) fp (fun _ _ => 0) (fun _ _ => none), nA cs of fn fd, [((rp 1), .inl (cs 0, cn, .inl cd))]]) (px_runU (As := [.int 7, .int 0]) (rest := []) S (c_finish_Txp l D cs h r g hp f a 7 0  (show TxOk (f 4) (f 5) (f 8) (f 9) (f 17) (f 21) (a 2) from ⟨lk, ⟨by first | exact i2 | omega, by first | exact i3 | omega⟩, ⟨by first | exact i4 | omega, by first | exact i5 | omega⟩, ⟨by first | exact i6 | omega, by first | exact i7 | omega⟩, by first | exact i8 | omega, ⟨by first | exact i9 | omega, by first | exact i11 | omega⟩, by first | exact i10 | omega, hrt⟩) _) hT (pr := [wd_Prg cs hp rp (fun k => if k = 2 then of else none) fp (fun _ _ => 0) (fun _ _ => none), nA cs of fn fd, [((rp 1), .inl (cs 0, cn, .inl cd))]]) (pcs := [wd_Txp cs h r (fun k => if k = 3 then (some hp) else none) f a g]) hw px_X.tt (C := "HomeSystem$TextProcess") (x := ⟨"HomeSystem$TextProcess", "finish", "(II)V"⟩) (px_recv hT hw 3 0 rfl rfl rfl) m8_89 m9_5 m9_6 m8_85 m9_7 m1_33 rfl q_HomeSystem_AnyProcess_finish ⟨Nat.le_of_ble_eq_true rfl, Nat.le_of_ble_eq_true rfl⟩ hl.1 rfl (Nat.le_of_ble_eq_true rfl) d_Txp_step_34 ⟨Nat.le_of_ble_eq_true rfl, Nat.le_of_ble_eq_true rfl⟩) hw hA (fun p5 H locs hp5 hw => ?_)
    obtain ⟨f3, a4, rfl, h13, e7, e8, e9, e10, e11, e12⟩ := hp5
    obtain ⟨lk, ⟨i2, i3⟩, ⟨i4, i5⟩, ⟨i6, i7⟩, i8, ⟨i9, i11⟩, i10, hrt⟩ := h13
    have e7 : (f3 9).toInt = (f 9).toInt := e7
    have e8 : (f3 17).toInt = (f 17).toInt := e8
    have e9 : (f3 21).toInt = 0 := e9
    have e10 : (f3 15).toInt = (f 15).toInt := e10
    have e11 : (f3 20).toInt = (f 20).toInt := e11
    have e12 : R_finish_Txp (7 : Int32) (0 : Int32) f a f3 a4 := e12
    have hw : pw D A s.heap H locs [wd_Prg cs hp rp (fun k => if k = 2 then of else none) fp (fun _ _ => 0) (fun _ _ => none), nA cs of fn fd, [((rp 1), .inl (cs 0, cn, .inl cd))], wd_Txp cs h r (fun k => if k = 3 then (some hp) else none) f3 a4 g] := hw
    have hw : pw D A s.heap _ _ [wd_Txp cs h r (fun k => if k = 3 then (some hp) else none) f3 a4 g, wd_Prg cs hp rp (fun k => if k = 2 then of else none) fp (fun _ _ => 0) (fun _ _ => none), nA cs of fn fd, [((rp 1), .inl (cs 0, cn, .inl cd))]] := hw.sub [3, 0, 1, 2] rfl rfl
    exact px_vret S hr hlk hAe hw (Nat.le_of_ble_eq_true rfl) (Nat.le_of_ble_eq_true rfl) (⟨f3, a4, rfl, (show TxOk (f3 4) (f3 5) (f3 8) (f3 9) (f3 17) (f3 21) (a4 2) from ⟨lk, ⟨by first | exact i2 | omega, by first | exact i3 | omega⟩, ⟨by first | exact i4 | omega, by first | exact i5 | omega⟩, ⟨by first | exact i6 | omega, by first | exact i7 | omega⟩, by first | exact i8 | omega, ⟨by first | exact i9 | omega, by first | exact i11 | omega⟩, by first | exact i10 | omega, hrt⟩), (show (f3 17).toInt = (f 17).toInt from by first | exact e8 | omega), (show (f3 15).toInt = (f 15).toInt from by first | exact e10 | omega), (show (f3 20).toInt = (f 20).toInt from by first | exact e11 | omega), (show R_Txp_step of fn fd cn cd f a f3 a4 from (Or.inl (Or.inl ⟨nc1, f3, a4, e12, rfl, rfl⟩)))⟩) d_Txp_step_37
  · have nc1 : ¬ (f 4).toInt < (0 : Int) := mt (i_lt (x := (f 4)) (y := 0)).mpr c1
    refine lv_iload_n S.x S.b d_Txp_step_16 rfl (lv_at hl 0 rfl) ?_
    refine lv_iconst (v := 4) S.x S.b d_Txp_step_17 (by decide) ?_
    refine lv_iadd S.x S.b d_Txp_step_18 ?_
    have lr14 := Int32.le_toInt (f 4)
    have ur14 := Int32.toInt_lt (f 4)
    refine lv_topi (fun z15 ez15 => ?_)
    have tz15 : z15.toInt = ((f 4).toInt + (4 : Int) + 2147483648) % 4294967296 - 2147483648 := by rw [ez15]; exact i_add (f 4) 4
    have lz15 := Int32.le_toInt z15
    have uz15 := Int32.toInt_lt z15
    try replace tz15 : z15.toInt = (f 4).toInt + (4 : Int) := by omega
    refine lv_aload_n S.x S.b d_Txp_step_19 rfl (lv_at hl 1 rfl) ?_
    refine px_get S k_Txp hT hw 0 0 3 (v := .ref hp) rfl rfl rfl (by decide) m6_216 d_Txp_step_20 ?_
    refine px_get S k_Prg hT hw 1 0 1 (v := .ref (rp 1)) rfl rfl rfl (by decide) m2_102 d_Txp_step_23 ?_
    refine px_len S hT hw 3 0 0 rfl rfl rfl (v := (nI cn)) rfl d_Txp_step_26 ?_
    refine lv_icmp_le (tgt := 38) S.x S.b d_Txp_step_27 (by decide) (fun c16 => ?_) (fun c16 => ?_)
    · have nc16 : z15.toInt ≤ (nI cn).toInt := (i_le (x := z15) (y := (nI cn))).mp c16
      refine lv_aload_n S.x S.b d_Txp_step_38 rfl (lv_at hl 1 rfl) ?_
      refine px_get S k_Txp hT hw 0 0 3 (v := .ref hp) rfl rfl rfl (by decide) m6_216 d_Txp_step_39 ?_
      refine px_get S k_Prg hT hw 1 0 1 (v := .ref (rp 1)) rfl rfl rfl (by decide) m2_102 d_Txp_step_42 ?_
      refine lv_iload_n S.x S.b d_Txp_step_45 rfl (lv_at hl 0 rfl) ?_
      refine px_iald S hT hw 3 0 (n := cn) (f := cd) rfl rfl (x := (f 4)) (vp_in_iff.mpr (by constructor <;> omega)) d_Txp_step_46 ?_
      refine lv_topi (fun z18 ez18 => ?_)
      have lz18 := Int32.le_toInt z18
      have uz18 := Int32.toInt_lt z18
      refine lv_sipush (v := 255) S.x S.b d_Txp_step_47 (by decide) ?_
      refine lv_iand S.x S.b d_Txp_step_50 ?_
      refine lv_topi (fun z19 ez19 => ?_)
      have lz19 := Int32.le_toInt z19
      have uz19 := Int32.toInt_lt z19
      have bz19 := i_andm z18 (m := 255) 8 (by decide) (by decide)
      rw [← ez19] at bz19
      have wz19 : 0 ≤ z19.toInt ∧ z19.toInt ≤ 255 := by simp only [Nat.reducePow, Int.reducePow] at bz19; omega
      refine lv_istore_n (lv' := [(2, .int z19), (1, .int (f 4)), (0, .ref h)]) S.x S.b d_Txp_step_51 rfl hl (by decide) rfl (fun ls hl => ?_)
      refine lv_aload_n S.x S.b d_Txp_step_52 rfl (lv_at hl 2 rfl) ?_
      refine px_get S k_Txp hT hw 0 0 3 (v := .ref hp) rfl rfl rfl (by decide) m6_216 d_Txp_step_53 ?_
      refine px_get S k_Prg hT hw 1 0 1 (v := .ref (rp 1)) rfl rfl rfl (by decide) m2_102 d_Txp_step_56 ?_
      refine lv_iload_n S.x S.b d_Txp_step_59 rfl (lv_at hl 1 rfl) ?_
      refine px_iald S hT hw 3 0 (n := cn) (f := cd) rfl rfl (x := (f 4)) (vp_in_iff.mpr (by constructor <;> omega)) d_Txp_step_60 ?_
      refine lv_topi (fun z20 ez20 => ?_)
      have lz20 := Int32.le_toInt z20
      have uz20 := Int32.toInt_lt z20
      refine lv_bipush (v := 8) S.x S.b d_Txp_step_61 (by decide) ?_
      refine lv_iushr S.x S.b d_Txp_step_63 rfl ?_
      refine lv_topi (fun z21 ez21 => ?_)
      have lz21 := Int32.le_toInt z21
      have uz21 := Int32.toInt_lt z21
      refine lv_istore_n (lv' := [(3, .int z21), (2, .int z19), (1, .int (f 4)), (0, .ref h)]) S.x S.b d_Txp_step_64 rfl hl (by decide) rfl (fun ls hl => ?_)
      refine lv_aload_n S.x S.b d_Txp_step_65 rfl (lv_at hl 3 rfl) ?_
      refine px_get S k_Txp hT hw 0 0 3 (v := .ref hp) rfl rfl rfl (by decide) m6_216 d_Txp_step_66 ?_
      refine px_get S k_Prg hT hw 1 0 1 (v := .ref (rp 1)) rfl rfl rfl (by decide) m2_102 d_Txp_step_69 ?_
      refine lv_iload_n S.x S.b d_Txp_step_72 rfl (lv_at hl 2 rfl) ?_
      refine lv_iconst (v := 1) S.x S.b d_Txp_step_73 (by decide) ?_
      refine lv_iadd S.x S.b d_Txp_step_74 ?_
      have lr22 := Int32.le_toInt (f 4)
      have ur22 := Int32.toInt_lt (f 4)
      refine lv_topi (fun z23 ez23 => ?_)
      have tz23 : z23.toInt = ((f 4).toInt + (1 : Int) + 2147483648) % 4294967296 - 2147483648 := by rw [ez23]; exact i_add (f 4) 1
      have lz23 := Int32.le_toInt z23
      have uz23 := Int32.toInt_lt z23
      try replace tz23 : z23.toInt = (f 4).toInt + (1 : Int) := by omega
      refine px_iald S hT hw 3 0 (n := cn) (f := cd) rfl rfl (x := z23) (vp_in_iff.mpr (by constructor <;> omega)) d_Txp_step_75 ?_
      refine lv_topi (fun z24 ez24 => ?_)
      have lz24 := Int32.le_toInt z24
      have uz24 := Int32.toInt_lt z24
      have hco := code_at hcd (x := (f 4)) (y := z23) (by omega) (by omega) (by omega) ez18 ez19 ez24
      refine lv_istore (lv' := [(4, .int z24), (3, .int z21), (2, .int z19), (1, .int (f 4)), (0, .ref h)]) S.x S.b d_Txp_step_76 hl (by decide) rfl (fun ls hl => ?_)
      refine lv_aload_n S.x S.b d_Txp_step_78 rfl (lv_at hl 4 rfl) ?_
      refine px_get S k_Txp hT hw 0 0 3 (v := .ref hp) rfl rfl rfl (by decide) m6_216 d_Txp_step_79 ?_
      refine px_get S k_Prg hT hw 1 0 1 (v := .ref (rp 1)) rfl rfl rfl (by decide) m2_102 d_Txp_step_82 ?_
      refine lv_iload_n S.x S.b d_Txp_step_85 rfl (lv_at hl 3 rfl) ?_
      refine lv_iconst (v := 2) S.x S.b d_Txp_step_86 (by decide) ?_
      refine lv_iadd S.x S.b d_Txp_step_87 ?_
      have lr25 := Int32.le_toInt (f 4)
      have ur25 := Int32.toInt_lt (f 4)
      refine lv_topi (fun z26 ez26 => ?_)
      have tz26 : z26.toInt = ((f 4).toInt + (2 : Int) + 2147483648) % 4294967296 - 2147483648 := by rw [ez26]; exact i_add (f 4) 2
      have lz26 := Int32.le_toInt z26
      have uz26 := Int32.toInt_lt z26
      try replace tz26 : z26.toInt = (f 4).toInt + (2 : Int) := by omega
      refine px_iald S hT hw 3 0 (n := cn) (f := cd) rfl rfl (x := z26) (vp_in_iff.mpr (by constructor <;> omega)) d_Txp_step_88 ?_
      refine lv_topi (fun z27 ez27 => ?_)
      have lz27 := Int32.le_toInt z27
      have uz27 := Int32.toInt_lt z27
      refine lv_istore (lv' := [(5, .int z27), (4, .int z24), (3, .int z21), (2, .int z19), (1, .int (f 4)), (0, .ref h)]) S.x S.b d_Txp_step_89 hl (by decide) rfl (fun ls hl => ?_)
      refine lv_aload_n S.x S.b d_Txp_step_91 rfl (lv_at hl 5 rfl) ?_
      refine px_get S k_Txp hT hw 0 0 3 (v := .ref hp) rfl rfl rfl (by decide) m6_216 d_Txp_step_92 ?_
      refine px_get S k_Prg hT hw 1 0 1 (v := .ref (rp 1)) rfl rfl rfl (by decide) m2_102 d_Txp_step_95 ?_
      refine lv_iload_n S.x S.b d_Txp_step_98 rfl (lv_at hl 4 rfl) ?_
      refine lv_iconst (v := 3) S.x S.b d_Txp_step_99 (by decide) ?_
      refine lv_iadd S.x S.b d_Txp_step_100 ?_
      have lr28 := Int32.le_toInt (f 4)
      have ur28 := Int32.toInt_lt (f 4)
      refine lv_topi (fun z29 ez29 => ?_)
      have tz29 : z29.toInt = ((f 4).toInt + (3 : Int) + 2147483648) % 4294967296 - 2147483648 := by rw [ez29]; exact i_add (f 4) 3
      have lz29 := Int32.le_toInt z29
      have uz29 := Int32.toInt_lt z29
      try replace tz29 : z29.toInt = (f 4).toInt + (3 : Int) := by omega
      refine px_iald S hT hw 3 0 (n := cn) (f := cd) rfl rfl (x := z29) (vp_in_iff.mpr (by constructor <;> omega)) d_Txp_step_101 ?_
      refine lv_topi (fun z30 ez30 => ?_)
      have lz30 := Int32.le_toInt z30
      have uz30 := Int32.toInt_lt z30
      refine lv_istore (lv' := [(6, .int z30), (5, .int z27), (4, .int z24), (3, .int z21), (2, .int z19), (1, .int (f 4)), (0, .ref h)]) S.x S.b d_Txp_step_102 hl (by decide) rfl (fun ls hl => ?_)
      refine lv_aload_n S.x S.b d_Txp_step_104 rfl (lv_at hl 6 rfl) ?_
      refine lv_iload_n S.x S.b d_Txp_step_105 rfl (lv_at hl 5 rfl) ?_
      refine lv_iconst (v := 4) S.x S.b d_Txp_step_106 (by decide) ?_
      refine lv_iadd S.x S.b d_Txp_step_107 ?_
      have lr31 := Int32.le_toInt (f 4)
      have ur31 := Int32.toInt_lt (f 4)
      refine lv_topi (fun z32 ez32 => ?_)
      have tz32 : z32.toInt = ((f 4).toInt + (4 : Int) + 2147483648) % 4294967296 - 2147483648 := by rw [ez32]; exact i_add (f 4) 4
      have lz32 := Int32.le_toInt z32
      have uz32 := Int32.toInt_lt z32
      try replace tz32 : z32.toInt = (f 4).toInt + (4 : Int) := by omega
      refine px_put S k_Txp hT hw 0 0 4 rfl rfl (by decide) m6_217 rfl rfl rfl (Nat.le_of_ble_eq_true rfl) d_Txp_step_108 (w' := wd_Txp cs h r (fun k => if k = 3 then (some hp) else none) (upd f 4 z32) a g) (ps' := [wd_Txp cs h r (fun k => if k = 3 then (some hp) else none) (upd f 4 z32) a g, wd_Prg cs hp rp (fun k => if k = 2 then of else none) fp (fun _ _ => 0) (fun _ _ => none), nA cs of fn fd, [((rp 1), .inl (cs 0, cn, .inl cd))]]) rfl rfl (fun H locs hw => ?_)
      refine lv_iload_n S.x S.b d_Txp_step_111 rfl (lv_at hl 4 rfl) ?_
      refine lv_bipush (v := 15) S.x S.b d_Txp_step_112 (by decide) ?_
      refine lv_icmp_lt (tgt := 129) S.x S.b d_Txp_step_114 (by decide) (fun c33 => ?_) (fun c33 => ?_)
      · have nc33 : z19.toInt < (15 : Int) := (i_lt (x := z19) (y := 15)).mp c33
        refine lv_iload_n S.x S.b d_Txp_step_129 rfl (lv_at hl 4 rfl) ?_
        refine lv_iconst (v := 2) S.x S.b d_Txp_step_130 (by decide) ?_
        refine lv_icmp_lt (tgt := 154) S.x S.b d_Txp_step_131 (by decide) (fun c35 => ?_) (fun c35 => ?_)
        · have nc35 : z19.toInt < (2 : Int) := (i_lt (x := z19) (y := 2)).mp c35
          refine lv_aload_n S.x S.b d_Txp_step_154 rfl (lv_at hl 6 rfl) ?_
          refine lv_iload_n S.x S.b d_Txp_step_155 rfl (lv_at hl 4 rfl) ?_
          refine lv_iload_n S.x S.b d_Txp_step_156 rfl (lv_at hl 3 rfl) ?_
          refine lv_iload S.x S.b d_Txp_step_157 (lv_at hl 2 rfl) ?_
          refine lv_iload S.x S.b d_Txp_step_159 (lv_at hl 1 rfl) ?_
          refine lv_iload S.x S.b d_Txp_step_161 (lv_at hl 0 rfl) ?_
          have hw : pw D A s.heap _ _ [wd_Prg cs hp rp (fun k => if k = 2 then of else none) fp (fun _ _ => 0) (fun _ _ => none), nA cs of fn fd, [((rp 1), .inl (cs 0, cn, .inl cd))], wd_Txp cs h r (fun k => if k = 3 then (some hp) else none) (upd f 4 z32) a g] := hw.sub [1, 2, 3, 0] rfl rfl
          refine px_callv (pr := [wd_Prg cs hp rp (fun k => if k = 2 then of else none) fp (fun _ _ => 0) (fun _ _ => none), nA cs of fn fd, [((rp 1), .inl (cs 0, cn, .inl cd))]]) (px_runV (As := [.int z19, .int z21, .int z24, .int z27, .int z30]) (rest := []) S (c_Txp_compute l D cs h r g hp (upd f 4 z32) a z19 z21 z24 z27 z30  (show TxOk z32 (f 5) (f 8) (f 9) (f 17) (f 21) (a 2) from ⟨lk_mk (by omega), ⟨by first | exact i2 | omega, by first | exact i3 | omega⟩, ⟨by first | exact i4 | omega, by first | exact i5 | omega⟩, ⟨by first | exact i6 | omega, by first | exact i7 | omega⟩, by first | exact i8 | omega, ⟨by first | exact i9 | omega, by first | exact i11 | omega⟩, by first | exact i10 | omega, hrt⟩) (show (f 21).toInt = 0 from by first | exact g0 | omega) _) hT (pr := [wd_Prg cs hp rp (fun k => if k = 2 then of else none) fp (fun _ _ => 0) (fun _ _ => none), nA cs of fn fd, [((rp 1), .inl (cs 0, cn, .inl cd))]]) (pcs := [wd_Txp cs h r (fun k => if k = 3 then (some hp) else none) (upd f 4 z32) a g]) hw px_X.tt (px_recv hT hw 3 0 rfl rfl rfl) m9_65 m9_62 m9_64 ms_7_11 m1_35 q_Txp_compute ⟨Nat.le_of_ble_eq_true rfl, Nat.le_of_ble_eq_true rfl⟩ hl.1 rfl (Nat.le_of_ble_eq_true rfl) d_Txp_step_163 ⟨Nat.le_of_ble_eq_true rfl, Nat.le_of_ble_eq_true rfl⟩) hw hA (fun p39 H locs hp39 hw => ?_)
          obtain ⟨f37, a38, rfl, h47, e41, e42, e43, e44, e45, e46⟩ := hp39
          obtain ⟨lk, ⟨i2, i3⟩, ⟨i4, i5⟩, ⟨i6, i7⟩, i8, ⟨i9, i11⟩, i10, hrt⟩ := h47
          have e41 : (f37 9).toInt = (f 9).toInt := e41
          have e42 : (f37 17).toInt = (f 17).toInt := e42
          have e43 : (f37 21).toInt = 0 := e43
          have e44 : (f37 15).toInt = (f 15).toInt := e44
          have e45 : (f37 20).toInt = (f 20).toInt := e45
          have e46 : R_Txp_compute z19 z21 z24 z27 z30 (upd f 4 z32) a f37 a38 := e46
          have hw : pw D A s.heap H locs [wd_Prg cs hp rp (fun k => if k = 2 then of else none) fp (fun _ _ => 0) (fun _ _ => none), nA cs of fn fd, [((rp 1), .inl (cs 0, cn, .inl cd))], wd_Txp cs h r (fun k => if k = 3 then (some hp) else none) f37 a38 g] := hw
          have hw : pw D A s.heap _ _ [wd_Txp cs h r (fun k => if k = 3 then (some hp) else none) f37 a38 g, wd_Prg cs hp rp (fun k => if k = 2 then of else none) fp (fun _ _ => 0) (fun _ _ => none), nA cs of fn fd, [((rp 1), .inl (cs 0, cn, .inl cd))]] := hw.sub [3, 0, 1, 2] rfl rfl
          exact px_vret S hr hlk hAe hw (Nat.le_of_ble_eq_true rfl) (Nat.le_of_ble_eq_true rfl) (⟨f37, a38, rfl, (show TxOk (f37 4) (f37 5) (f37 8) (f37 9) (f37 17) (f37 21) (a38 2) from ⟨lk, ⟨by first | exact i2 | omega, by first | exact i3 | omega⟩, ⟨by first | exact i4 | omega, by first | exact i5 | omega⟩, ⟨by first | exact i6 | omega, by first | exact i7 | omega⟩, by first | exact i8 | omega, ⟨by first | exact i9 | omega, by first | exact i11 | omega⟩, by first | exact i10 | omega, hrt⟩), (show (f37 17).toInt = (f 17).toInt from by first | exact e42 | omega), (show (f37 15).toInt = (f 15).toInt from by first | exact e44 | omega), (show (f37 20).toInt = (f 20).toInt from by first | exact e45 | omega), (show R_Txp_step of fn fd cn cd f a f37 a38 from (Or.inl (Or.inr ⟨nc1, z15, ez15, Or.inl ⟨nc16, z18, ez18, z19, ez19, z20, ez20, z21, ez21, z23, ez23, z24, ez24, z26, ez26, z27, ez27, z29, ez29, z30, ez30, z32, ez32, Or.inl ⟨nc33, Or.inl ⟨nc35, f37, a38, e46, rfl, rfl⟩⟩⟩⟩)))⟩) d_Txp_step_166
        · have nc35 : ¬ z19.toInt < (2 : Int) := mt (i_lt (x := z19) (y := 2)).mpr c35
          refine lv_iload_n S.x S.b d_Txp_step_134 rfl (lv_at hl 4 rfl) ?_
          refine lv_iconst (v := 5) S.x S.b d_Txp_step_135 (by decide) ?_
          refine lv_icmp_gt (tgt := 154) S.x S.b d_Txp_step_136 (by decide) (fun c48 => ?_) (fun c48 => ?_)
          · have nc48 : (5 : Int) < z19.toInt := (i_lt (x := 5) (y := z19)).mp c48
            refine lv_aload_n S.x S.b d_Txp_step_154 rfl (lv_at hl 6 rfl) ?_
            refine lv_iload_n S.x S.b d_Txp_step_155 rfl (lv_at hl 4 rfl) ?_
            refine lv_iload_n S.x S.b d_Txp_step_156 rfl (lv_at hl 3 rfl) ?_
            refine lv_iload S.x S.b d_Txp_step_157 (lv_at hl 2 rfl) ?_
            refine lv_iload S.x S.b d_Txp_step_159 (lv_at hl 1 rfl) ?_
            refine lv_iload S.x S.b d_Txp_step_161 (lv_at hl 0 rfl) ?_
            have hw : pw D A s.heap _ _ [wd_Prg cs hp rp (fun k => if k = 2 then of else none) fp (fun _ _ => 0) (fun _ _ => none), nA cs of fn fd, [((rp 1), .inl (cs 0, cn, .inl cd))], wd_Txp cs h r (fun k => if k = 3 then (some hp) else none) (upd f 4 z32) a g] := hw.sub [1, 2, 3, 0] rfl rfl
            refine px_callv (pr := [wd_Prg cs hp rp (fun k => if k = 2 then of else none) fp (fun _ _ => 0) (fun _ _ => none), nA cs of fn fd, [((rp 1), .inl (cs 0, cn, .inl cd))]]) (px_runV (As := [.int z19, .int z21, .int z24, .int z27, .int z30]) (rest := []) S (c_Txp_compute l D cs h r g hp (upd f 4 z32) a z19 z21 z24 z27 z30  (show TxOk z32 (f 5) (f 8) (f 9) (f 17) (f 21) (a 2) from ⟨lk_mk (by omega), ⟨by first | exact i2 | omega, by first | exact i3 | omega⟩, ⟨by first | exact i4 | omega, by first | exact i5 | omega⟩, ⟨by first | exact i6 | omega, by first | exact i7 | omega⟩, by first | exact i8 | omega, ⟨by first | exact i9 | omega, by first | exact i11 | omega⟩, by first | exact i10 | omega, hrt⟩) (show (f 21).toInt = 0 from by first | exact g0 | omega) _) hT (pr := [wd_Prg cs hp rp (fun k => if k = 2 then of else none) fp (fun _ _ => 0) (fun _ _ => none), nA cs of fn fd, [((rp 1), .inl (cs 0, cn, .inl cd))]]) (pcs := [wd_Txp cs h r (fun k => if k = 3 then (some hp) else none) (upd f 4 z32) a g]) hw px_X.tt (px_recv hT hw 3 0 rfl rfl rfl) m9_65 m9_62 m9_64 ms_7_11 m1_35 q_Txp_compute ⟨Nat.le_of_ble_eq_true rfl, Nat.le_of_ble_eq_true rfl⟩ hl.1 rfl (Nat.le_of_ble_eq_true rfl) d_Txp_step_163 ⟨Nat.le_of_ble_eq_true rfl, Nat.le_of_ble_eq_true rfl⟩) hw hA (fun p52 H locs hp52 hw => ?_)
            obtain ⟨f50, a51, rfl, h60, e54, e55, e56, e57, e58, e59⟩ := hp52
            obtain ⟨lk, ⟨i2, i3⟩, ⟨i4, i5⟩, ⟨i6, i7⟩, i8, ⟨i9, i11⟩, i10, hrt⟩ := h60
            have e54 : (f50 9).toInt = (f 9).toInt := e54
            have e55 : (f50 17).toInt = (f 17).toInt := e55
            have e56 : (f50 21).toInt = 0 := e56
            have e57 : (f50 15).toInt = (f 15).toInt := e57
            have e58 : (f50 20).toInt = (f 20).toInt := e58
            have e59 : R_Txp_compute z19 z21 z24 z27 z30 (upd f 4 z32) a f50 a51 := e59
            have hw : pw D A s.heap H locs [wd_Prg cs hp rp (fun k => if k = 2 then of else none) fp (fun _ _ => 0) (fun _ _ => none), nA cs of fn fd, [((rp 1), .inl (cs 0, cn, .inl cd))], wd_Txp cs h r (fun k => if k = 3 then (some hp) else none) f50 a51 g] := hw
            have hw : pw D A s.heap _ _ [wd_Txp cs h r (fun k => if k = 3 then (some hp) else none) f50 a51 g, wd_Prg cs hp rp (fun k => if k = 2 then of else none) fp (fun _ _ => 0) (fun _ _ => none), nA cs of fn fd, [((rp 1), .inl (cs 0, cn, .inl cd))]] := hw.sub [3, 0, 1, 2] rfl rfl
            exact px_vret S hr hlk hAe hw (Nat.le_of_ble_eq_true rfl) (Nat.le_of_ble_eq_true rfl) (⟨f50, a51, rfl, (show TxOk (f50 4) (f50 5) (f50 8) (f50 9) (f50 17) (f50 21) (a51 2) from ⟨lk, ⟨by first | exact i2 | omega, by first | exact i3 | omega⟩, ⟨by first | exact i4 | omega, by first | exact i5 | omega⟩, ⟨by first | exact i6 | omega, by first | exact i7 | omega⟩, by first | exact i8 | omega, ⟨by first | exact i9 | omega, by first | exact i11 | omega⟩, by first | exact i10 | omega, hrt⟩), (show (f50 17).toInt = (f 17).toInt from by first | exact e55 | omega), (show (f50 15).toInt = (f 15).toInt from by first | exact e57 | omega), (show (f50 20).toInt = (f 20).toInt from by first | exact e58 | omega), (show R_Txp_step of fn fd cn cd f a f50 a51 from (Or.inl (Or.inr ⟨nc1, z15, ez15, Or.inl ⟨nc16, z18, ez18, z19, ez19, z20, ez20, z21, ez21, z23, ez23, z24, ez24, z26, ez26, z27, ez27, z29, ez29, z30, ez30, z32, ez32, Or.inl ⟨nc33, Or.inr ⟨nc35, Or.inl ⟨nc48, f50, a51, e59, rfl, rfl⟩⟩⟩⟩⟩)))⟩) d_Txp_step_166
          · have nc48 : ¬ (5 : Int) < z19.toInt := mt (i_lt (x := 5) (y := z19)).mpr c48
            refine lv_aload_n S.x S.b d_Txp_step_139 rfl (lv_at hl 6 rfl) ?_
            refine lv_iload_n S.x S.b d_Txp_step_140 rfl (lv_at hl 4 rfl) ?_
            refine lv_iload_n S.x S.b d_Txp_step_141 rfl (lv_at hl 3 rfl) ?_
            refine lv_iload S.x S.b d_Txp_step_142 (lv_at hl 2 rfl) ?_
            refine lv_iload S.x S.b d_Txp_step_144 (lv_at hl 1 rfl) ?_
            refine lv_iload S.x S.b d_Txp_step_146 (lv_at hl 0 rfl) ?_
            have hw : pw D A s.heap _ _ [wd_Prg cs hp rp (fun k => if k = 2 then of else none) fp (fun _ _ => 0) (fun _ _ => none), nA cs of fn fd, [((rp 1), .inl (cs 0, cn, .inl cd))], wd_Txp cs h r (fun k => if k = 3 then (some hp) else none) (upd f 4 z32) a g] := hw.sub [1, 2, 3, 0] rfl rfl
            refine px_callv (pr := [wd_Prg cs hp rp (fun k => if k = 2 then of else none) fp (fun _ _ => 0) (fun _ _ => none), nA cs of fn fd, [((rp 1), .inl (cs 0, cn, .inl cd))]]) (px_runV (As := [.int z19, .int z21, .int z24, .int z27, .int z30]) (rest := []) S (c_Txp_access l D cs h r g hp (upd f 4 z32) a z19 z21 z24 z27 z30  (show TxOk z32 (f 5) (f 8) (f 9) (f 17) (f 21) (a 2) from ⟨lk_mk (by omega), ⟨by first | exact i2 | omega, by first | exact i3 | omega⟩, ⟨by first | exact i4 | omega, by first | exact i5 | omega⟩, ⟨by first | exact i6 | omega, by first | exact i7 | omega⟩, by first | exact i8 | omega, ⟨by first | exact i9 | omega, by first | exact i11 | omega⟩, by first | exact i10 | omega, hrt⟩) (show (f 21).toInt = 0 from by first | exact g0 | omega) _) hT (pr := [wd_Prg cs hp rp (fun k => if k = 2 then of else none) fp (fun _ _ => 0) (fun _ _ => none), nA cs of fn fd, [((rp 1), .inl (cs 0, cn, .inl cd))]]) (pcs := [wd_Txp cs h r (fun k => if k = 3 then (some hp) else none) (upd f 4 z32) a g]) hw px_X.tt (px_recv hT hw 3 0 rfl rfl rfl) m9_39 m9_36 m9_38 ms_7_5 m1_35 q_Txp_access ⟨Nat.le_of_ble_eq_true rfl, Nat.le_of_ble_eq_true rfl⟩ hl.1 rfl (Nat.le_of_ble_eq_true rfl) d_Txp_step_148 ⟨Nat.le_of_ble_eq_true rfl, Nat.le_of_ble_eq_true rfl⟩) hw hA (fun p63 H locs hp63 hw => ?_)
            obtain ⟨f61, a62, rfl, h71, e65, e66, e67, e68, e69, e70⟩ := hp63
            obtain ⟨lk, ⟨i2, i3⟩, ⟨i4, i5⟩, ⟨i6, i7⟩, i8, ⟨i9, i11⟩, i10, hrt⟩ := h71
            have e65 : (f61 9).toInt = (f 9).toInt := e65
            have e66 : (f61 17).toInt = (f 17).toInt := e66
            have e67 : (f61 21).toInt = 0 := e67
            have e68 : (f61 15).toInt = (f 15).toInt := e68
            have e69 : (f61 20).toInt = (f 20).toInt := e69
            have e70 : R_Txp_access z19 z21 z24 z27 z30 (upd f 4 z32) a f61 a62 := e70
            have hw : pw D A s.heap H locs [wd_Prg cs hp rp (fun k => if k = 2 then of else none) fp (fun _ _ => 0) (fun _ _ => none), nA cs of fn fd, [((rp 1), .inl (cs 0, cn, .inl cd))], wd_Txp cs h r (fun k => if k = 3 then (some hp) else none) f61 a62 g] := hw
            refine lv_goto (tgt := 166) S.x S.b d_Txp_step_151 (by decide) ?_
            have hw : pw D A s.heap _ _ [wd_Txp cs h r (fun k => if k = 3 then (some hp) else none) f61 a62 g, wd_Prg cs hp rp (fun k => if k = 2 then of else none) fp (fun _ _ => 0) (fun _ _ => none), nA cs of fn fd, [((rp 1), .inl (cs 0, cn, .inl cd))]] := hw.sub [3, 0, 1, 2] rfl rfl
            exact px_vret S hr hlk hAe hw (Nat.le_of_ble_eq_true rfl) (Nat.le_of_ble_eq_true rfl) (⟨f61, a62, rfl, (show TxOk (f61 4) (f61 5) (f61 8) (f61 9) (f61 17) (f61 21) (a62 2) from ⟨lk, ⟨by first | exact i2 | omega, by first | exact i3 | omega⟩, ⟨by first | exact i4 | omega, by first | exact i5 | omega⟩, ⟨by first | exact i6 | omega, by first | exact i7 | omega⟩, by first | exact i8 | omega, ⟨by first | exact i9 | omega, by first | exact i11 | omega⟩, by first | exact i10 | omega, hrt⟩), (show (f61 17).toInt = (f 17).toInt from by first | exact e66 | omega), (show (f61 15).toInt = (f 15).toInt from by first | exact e68 | omega), (show (f61 20).toInt = (f 20).toInt from by first | exact e69 | omega), (show R_Txp_step of fn fd cn cd f a f61 a62 from (Or.inl (Or.inr ⟨nc1, z15, ez15, Or.inl ⟨nc16, z18, ez18, z19, ez19, z20, ez20, z21, ez21, z23, ez23, z24, ez24, z26, ez26, z27, ez27, z29, ez29, z30, ez30, z32, ez32, Or.inl ⟨nc33, Or.inr ⟨nc35, Or.inr ⟨nc48, f61, a62, e70, rfl, rfl⟩⟩⟩⟩⟩)))⟩) d_Txp_step_166
      · have nc33 : ¬ z19.toInt < (15 : Int) := mt (i_lt (x := z19) (y := 15)).mpr c33
        refine lv_aload_n S.x S.b d_Txp_step_117 rfl (lv_at hl 6 rfl) ?_
        refine lv_iload_n S.x S.b d_Txp_step_118 rfl (lv_at hl 4 rfl) ?_
        refine lv_iload S.x S.b d_Txp_step_119 (lv_at hl 2 rfl) ?_
        refine lv_iload S.x S.b d_Txp_step_121 (lv_at hl 1 rfl) ?_
        have hw : pw D A s.heap _ _ [[((rp 1), .inl (cs 0, cn, .inl cd))], wd_Txp cs h r (fun k => if k = 3 then (some hp) else none) (upd f 4 z32) a g, wd_Prg cs hp rp (fun k => if k = 2 then of else none) fp (fun _ _ => 0) (fun _ _ => none), nA cs of fn fd] := hw.sub [3, 0, 1, 2] rfl rfl
        refine px_callv (pr := [[((rp 1), .inl (cs 0, cn, .inl cd))]]) (px_runV (As := [.int z19, .int z24, .int z27]) (rest := []) S (c_Txp_flow l D cs h r g hp (upd f 4 z32) a rp of fp fn fd z19 z24 z27  (show TxOk z32 (f 5) (f 8) (f 9) (f 17) (f 21) (a 2) from ⟨lk_mk (by omega), ⟨by first | exact i2 | omega, by first | exact i3 | omega⟩, ⟨by first | exact i4 | omega, by first | exact i5 | omega⟩, ⟨by first | exact i6 | omega, by first | exact i7 | omega⟩, by first | exact i8 | omega, ⟨by first | exact i9 | omega, by first | exact i11 | omega⟩, by first | exact i10 | omega, hrt⟩) (show (f 21).toInt = 0 from by first | exact g0 | omega) (show fn ≤ 1000000 from by first | exact g1 | omega) (show z19.toInt = 22 → 0 ≤ z24.toInt ∧ z24.toInt ≤ 1000000 from by omega) hfd hco.1 _) hT (pr := [[((rp 1), .inl (cs 0, cn, .inl cd))]]) (pcs := [wd_Txp cs h r (fun k => if k = 3 then (some hp) else none) (upd f 4 z32) a g, wd_Prg cs hp rp (fun k => if k = 2 then of else none) fp (fun _ _ => 0) (fun _ _ => none), nA cs of fn fd]) hw px_X.tt (px_recv hT hw 1 0 rfl rfl rfl) m9_11 m9_8 m9_10 ms_6_15 m1_35 q_Txp_flow ⟨Nat.le_of_ble_eq_true rfl, Nat.le_of_ble_eq_true rfl⟩ hl.1 rfl (Nat.le_of_ble_eq_true rfl) d_Txp_step_123 ⟨Nat.le_of_ble_eq_true rfl, Nat.le_of_ble_eq_true rfl⟩) hw hA (fun p74 H locs hp74 hw => ?_)
        obtain ⟨f72, a73, rfl, h80, e76, e77, e78, e79⟩ := hp74
        obtain ⟨lk, ⟨i2, i3⟩, ⟨i4, i5⟩, ⟨i6, i7⟩, i8, ⟨i9, i11⟩, i10, hrt⟩ := h80
        have e76 : (f72 17).toInt = (f 17).toInt := e76
        have e77 : (f72 15).toInt = (f 15).toInt := e77
        have e78 : (f72 20).toInt = (f 20).toInt := e78
        have e79 : R_Txp_flow of fn fd z19 z24 z27 (upd f 4 z32) a f72 a73 := e79
        have hw : pw D A s.heap H locs [[((rp 1), .inl (cs 0, cn, .inl cd))], wd_Txp cs h r (fun k => if k = 3 then (some hp) else none) f72 a73 g, wd_Prg cs hp rp (fun k => if k = 2 then of else none) fp (fun _ _ => 0) (fun _ _ => none), nA cs of fn fd] := hw
        refine lv_goto (tgt := 166) S.x S.b d_Txp_step_126 (by decide) ?_
        have hw : pw D A s.heap _ _ [wd_Txp cs h r (fun k => if k = 3 then (some hp) else none) f72 a73 g, wd_Prg cs hp rp (fun k => if k = 2 then of else none) fp (fun _ _ => 0) (fun _ _ => none), nA cs of fn fd, [((rp 1), .inl (cs 0, cn, .inl cd))]] := hw.sub [1, 2, 3, 0] rfl rfl
        exact px_vret S hr hlk hAe hw (Nat.le_of_ble_eq_true rfl) (Nat.le_of_ble_eq_true rfl) (⟨f72, a73, rfl, (show TxOk (f72 4) (f72 5) (f72 8) (f72 9) (f72 17) (f72 21) (a73 2) from ⟨lk, ⟨by first | exact i2 | omega, by first | exact i3 | omega⟩, ⟨by first | exact i4 | omega, by first | exact i5 | omega⟩, ⟨by first | exact i6 | omega, by first | exact i7 | omega⟩, by first | exact i8 | omega, ⟨by first | exact i9 | omega, by first | exact i11 | omega⟩, by first | exact i10 | omega, hrt⟩), (show (f72 17).toInt = (f 17).toInt from by first | exact e76 | omega), (show (f72 15).toInt = (f 15).toInt from by first | exact e77 | omega), (show (f72 20).toInt = (f 20).toInt from by first | exact e78 | omega), (show R_Txp_step of fn fd cn cd f a f72 a73 from (Or.inl (Or.inr ⟨nc1, z15, ez15, Or.inl ⟨nc16, z18, ez18, z19, ez19, z20, ez20, z21, ez21, z23, ez23, z24, ez24, z26, ez26, z27, ez27, z29, ez29, z30, ez30, z32, ez32, Or.inr ⟨nc33, f72, a73, e79, rfl, rfl⟩⟩⟩)))⟩) d_Txp_step_166
    · have nc16 : ¬ z15.toInt ≤ (nI cn).toInt := mt (i_le (x := z15) (y := (nI cn))).mpr c16
      refine lv_aload_n S.x S.b d_Txp_step_30 rfl (lv_at hl 1 rfl) ?_
      refine lv_bipush (v := 7) S.x S.b d_Txp_step_31 (by decide) ?_
      refine lv_iconst (v := 0) S.x S.b d_Txp_step_33 (by decide) ?_
      have hw : pw D A s.heap _ _ [wd_Prg cs hp rp (fun k => if k = 2 then of else none) fp (fun _ _ => 0) (fun _ _ => none), nA cs of fn fd, [((rp 1), .inl (cs 0, cn, .inl cd))], wd_Txp cs h r (fun k => if k = 3 then (some hp) else none) f a g] := hw.sub [1, 2, 3, 0] rfl rfl
      refine px_callv (pr := [wd_Prg cs hp rp (fun k => if k = 2 then of else none) fp (fun _ _ => 0) (fun _ _ => none), nA cs of fn fd, [((rp 1), .inl (cs 0, cn, .inl cd))]]) (px_runU (As := [.int 7, .int 0]) (rest := []) S (c_finish_Txp l D cs h r g hp f a 7 0  (show TxOk (f 4) (f 5) (f 8) (f 9) (f 17) (f 21) (a 2) from ⟨lk, ⟨by first | exact i2 | omega, by first | exact i3 | omega⟩, ⟨by first | exact i4 | omega, by first | exact i5 | omega⟩, ⟨by first | exact i6 | omega, by first | exact i7 | omega⟩, by first | exact i8 | omega, ⟨by first | exact i9 | omega, by first | exact i11 | omega⟩, by first | exact i10 | omega, hrt⟩) _) hT (pr := [wd_Prg cs hp rp (fun k => if k = 2 then of else none) fp (fun _ _ => 0) (fun _ _ => none), nA cs of fn fd, [((rp 1), .inl (cs 0, cn, .inl cd))]]) (pcs := [wd_Txp cs h r (fun k => if k = 3 then (some hp) else none) f a g]) hw px_X.tt (C := "HomeSystem$TextProcess") (x := ⟨"HomeSystem$TextProcess", "finish", "(II)V"⟩) (px_recv hT hw 3 0 rfl rfl rfl) m8_89 m9_5 m9_6 m8_85 m9_7 m1_33 rfl q_HomeSystem_AnyProcess_finish ⟨Nat.le_of_ble_eq_true rfl, Nat.le_of_ble_eq_true rfl⟩ hl.1 rfl (Nat.le_of_ble_eq_true rfl) d_Txp_step_34 ⟨Nat.le_of_ble_eq_true rfl, Nat.le_of_ble_eq_true rfl⟩) hw hA (fun p83 H locs hp83 hw => ?_)
      obtain ⟨f81, a82, rfl, h91, e85, e86, e87, e88, e89, e90⟩ := hp83
      obtain ⟨lk, ⟨i2, i3⟩, ⟨i4, i5⟩, ⟨i6, i7⟩, i8, ⟨i9, i11⟩, i10, hrt⟩ := h91
      have e85 : (f81 9).toInt = (f 9).toInt := e85
      have e86 : (f81 17).toInt = (f 17).toInt := e86
      have e87 : (f81 21).toInt = 0 := e87
      have e88 : (f81 15).toInt = (f 15).toInt := e88
      have e89 : (f81 20).toInt = (f 20).toInt := e89
      have e90 : R_finish_Txp (7 : Int32) (0 : Int32) f a f81 a82 := e90
      have hw : pw D A s.heap H locs [wd_Prg cs hp rp (fun k => if k = 2 then of else none) fp (fun _ _ => 0) (fun _ _ => none), nA cs of fn fd, [((rp 1), .inl (cs 0, cn, .inl cd))], wd_Txp cs h r (fun k => if k = 3 then (some hp) else none) f81 a82 g] := hw
      have hw : pw D A s.heap _ _ [wd_Txp cs h r (fun k => if k = 3 then (some hp) else none) f81 a82 g, wd_Prg cs hp rp (fun k => if k = 2 then of else none) fp (fun _ _ => 0) (fun _ _ => none), nA cs of fn fd, [((rp 1), .inl (cs 0, cn, .inl cd))]] := hw.sub [3, 0, 1, 2] rfl rfl
      exact px_vret S hr hlk hAe hw (Nat.le_of_ble_eq_true rfl) (Nat.le_of_ble_eq_true rfl) (⟨f81, a82, rfl, (show TxOk (f81 4) (f81 5) (f81 8) (f81 9) (f81 17) (f81 21) (a82 2) from ⟨lk, ⟨by first | exact i2 | omega, by first | exact i3 | omega⟩, ⟨by first | exact i4 | omega, by first | exact i5 | omega⟩, ⟨by first | exact i6 | omega, by first | exact i7 | omega⟩, by first | exact i8 | omega, ⟨by first | exact i9 | omega, by first | exact i11 | omega⟩, by first | exact i10 | omega, hrt⟩), (show (f81 17).toInt = (f 17).toInt from by first | exact e86 | omega), (show (f81 15).toInt = (f 15).toInt from by first | exact e88 | omega), (show (f81 20).toInt = (f 20).toInt from by first | exact e89 | omega), (show R_Txp_step of fn fd cn cd f a f81 a82 from (Or.inl (Or.inr ⟨nc1, z15, ez15, Or.inr ⟨nc16, f81, a82, e90, rfl, rfl⟩⟩)))⟩) d_Txp_step_37
abbrev b_Txp_go : ByteArray := prog_11_method_3_code
def y_Txp_go : MethodName := ⟨"HomeSystem$TextProcess", "go", "()V"⟩
theorem d_Txp_go_0 : decode b_Txp_go 0 = .ok (.iconst 0, 1) := by decide +kernel
theorem d_Txp_go_1 : decode b_Txp_go 1 = .ok (.istore_n 1, 1) := by decide +kernel
theorem d_Txp_go_2 : decode b_Txp_go 2 = .ok (.iload_n 1, 1) := by decide +kernel
theorem d_Txp_go_3 : decode b_Txp_go 3 = .ok (.ldc 77, 2) := by decide +kernel
theorem d_Txp_go_5 : decode b_Txp_go 5 = .ok (.if_icmp .ge 29, 3) := by decide +kernel
theorem d_Txp_go_8 : decode b_Txp_go 8 = .ok (.aload_n 0, 1) := by decide +kernel
theorem d_Txp_go_9 : decode b_Txp_go 9 = .ok (.getfield 78, 3) := by decide +kernel
theorem d_Txp_go_12 : decode b_Txp_go 12 = .ok (.bipush (-2), 2) := by decide +kernel
theorem d_Txp_go_14 : decode b_Txp_go 14 = .ok (.if_icmp .ne 20, 3) := by decide +kernel
theorem d_Txp_go_17 : decode b_Txp_go 17 = .ok (.aload_n 0, 1) := by decide +kernel
theorem d_Txp_go_18 : decode b_Txp_go 18 = .ok (.getfield 81, 3) := by decide +kernel
theorem d_Txp_go_21 : decode b_Txp_go 21 = .ok (.ifCond .ne 13, 3) := by decide +kernel
theorem d_Txp_go_24 : decode b_Txp_go 24 = .ok (.aload_n 0, 1) := by decide +kernel
theorem d_Txp_go_25 : decode b_Txp_go 25 = .ok (.invokevirtual 85, 3) := by decide +kernel
theorem d_Txp_go_28 : decode b_Txp_go 28 = .ok (.iinc 1 1, 3) := by decide +kernel
theorem d_Txp_go_31 : decode b_Txp_go 31 = .ok (.goto (-29), 3) := by decide +kernel
theorem d_Txp_go_34 : decode b_Txp_go 34 = .ok (.return_, 1) := by decide +kernel
theorem q_Txp_go : px_y y_Txp_go 0 := by unfold px_y; decide +kernel
set_option maxHeartbeats 4000000 in
set_option maxRecDepth 100000 in
theorem c_Txp_go (l : Launch) (D : va_G) (cs : Nat → ClassId) (h : Nat) (r : Nat → Nat) (g : Nat → Nat → Option Nat) (hp : Nat) (f : Nat → Int32) (a : Nat → Nat → Int32) (rp : Nat → Nat) (of : Option Nat) (fp : Nat → Int32) (fn : Nat) (fd : Nat → Int32) (cn : Nat) (cd : Nat → Int32)  (hinv0 : TxOk (f 4) (f 5) (f 8) (f 9) (f 17) (f 21) (a 2)) (g0 : fn ≤ 1000000) (g1 : cn ≤ 100000) (hfd : RtOk fd) (hcd : CodeOk cd) : MetV l y_Txp_go b_Txp_go 2 D cs 4 160 (0) (0) [.ref h] [wd_Txp cs h r (fun k => if k = 3 then (some hp) else none) f a g, wd_Prg cs hp rp (fun k => if k = 2 then of else none) fp (fun _ _ => 0) (fun _ _ => none), nA cs of fn fd, [((rp 1), .inl (cs 0, cn, .inl cd))]] (fun _ => True) (fun ps => ∃ (f' : Nat → Int32) (a' : Nat → Nat → Int32), (ps = [wd_Txp cs h r (fun k => if k = 3 then (some hp) else none) f' a' g, wd_Prg cs hp rp (fun k => if k = 2 then of else none) fp (fun _ _ => 0) (fun _ _ => none), nA cs of fn fd, [((rp 1), .inl (cs 0, cn, .inl cd))]]) ∧ (TxOk (f' 4) (f' 5) (f' 8) (f' 9) (f' 17) (f' 21) (a' 2)) ∧ ((f' 17).toInt = (f 17).toInt) ∧ ((f' 15).toInt = (f 15).toInt) ∧ ((f' 20).toInt = (f 20).toInt) ∧ (R_Txp_go of fn fd cn cd f a f' a')) := by
  refine px_enter (by decide) (Nat.le_of_ble_eq_true rfl) ?_
  intro p e s m below meth c A ls hAe S hr hlk hnm hA hT hX hw hl
  have hl : lv_has ls 2 [(0, .ref h)] := hl
  have cstm2 : ((-2) : Int32).toInt = (-2) := rfl
  have cst0 : (0 : Int32).toInt = 0 := rfl
  obtain ⟨lk, ⟨i2, i3⟩, ⟨i4, i5⟩, ⟨i6, i7⟩, i8, ⟨i9, i11⟩, i10, hrt⟩ := hinv0
  have J2 : ∀ (n_2 : Nat) (f_2 : Nat → Int32) (a_2 : Nat → Nat → Int32) (x2_1 : Int32) (H : Heap) (locs : List Loc) (ls : Array Slot), (TxOk (f_2 4) (f_2 5) (f_2 8) (f_2 9) (f_2 17) (f_2 21) (a_2 2)) → ((f_2 17).toInt = (f 17).toInt) → ((f_2 15).toInt = (f 15).toInt) → ((f_2 20).toInt = (f 20).toInt) → (0 ≤ x2_1.toInt) → (x2_1.toInt ≤ 1000000) → (K_Txp_go_2 of fn fd cn cd f a f_2 a_2 x2_1) → 1000001-x2_1.toInt < (n_2 : Int) → pw D A s.heap H locs [wd_Txp cs h r (fun k => if k = 3 then (some hp) else none) f_2 a_2 g, wd_Prg cs hp rp (fun k => if k = 2 then of else none) fp (fun _ _ => 0) (fun _ _ => none), nA cs of fn fd, [((rp 1), .inl (cs 0, cn, .inl cd))]] → lv_has ls 2 [(0, .ref h), (1, .int x2_1)] → W p l e { frames := 4, cells := 0, slots := 0, locals := 160 } s m [.ref h].toArray below meth c H locs 0 0 (MQ below (va_Qv (fun ps => ∃ (f' : Nat → Int32) (a' : Nat → Nat → Int32), (ps = [wd_Txp cs h r (fun k => if k = 3 then (some hp) else none) f' a' g, wd_Prg cs hp rp (fun k => if k = 2 then of else none) fp (fun _ _ => 0) (fun _ _ => none), nA cs of fn fd, [((rp 1), .inl (cs 0, cn, .inl cd))]]) ∧ (TxOk (f' 4) (f' 5) (f' 8) (f' 9) (f' 17) (f' 21) (a' 2)) ∧ ((f' 17).toInt = (f 17).toInt) ∧ ((f' 15).toInt = (f 15).toInt) ∧ ((f' 20).toInt = (f 20).toInt) ∧ (R_Txp_go of fn fd cn cd f a f' a')) (pc_B D (va_A ([wd_Txp cs h r (fun k => if k = 3 then (some hp) else none) f a g, wd_Prg cs hp rp (fun k => if k = 2 then of else none) fp (fun _ _ => 0) (fun _ _ => none), nA cs of fn fd, [((rp 1), .inl (cs 0, cn, .inl cd))]] : List va_W).flatten s.heap.size)) (va_A ([wd_Txp cs h r (fun k => if k = 3 then (some hp) else none) f a g, wd_Prg cs hp rp (fun k => if k = 2 then of else none) fp (fun _ _ => 0) (fun _ _ => none), nA cs of fn fd, [((rp 1), .inl (cs 0, cn, .inl cd))]] : List va_W).flatten s.heap.size)) [.ref h].toArray s 0 0 A) (F0 m 2 ls []) := by
    intro n_2
    induction n_2 with
    | zero =>
      intro f_2 a_2 x2_1 H locs ls hi2_0 k2_0 k2_1 k2_2 k2_3 k2_4 k2_5 hm hw hl
      obtain ⟨lk, ⟨i2, i3⟩, ⟨i4, i5⟩, ⟨i6, i7⟩, i8, ⟨i9, i11⟩, i10, hrt⟩ := hi2_0
      have lx2_1 := Int32.le_toInt x2_1
      have ux2_1 := Int32.toInt_lt x2_1
      exact absurd hm (by omega)
    | succ n_2 ih2 =>
      intro f_2 a_2 x2_1 H locs ls hi2_0 k2_0 k2_1 k2_2 k2_3 k2_4 k2_5 hm hw hl
      obtain ⟨lk, ⟨i2, i3⟩, ⟨i4, i5⟩, ⟨i6, i7⟩, i8, ⟨i9, i11⟩, i10, hrt⟩ := hi2_0
      have lx2_1 := Int32.le_toInt x2_1
      have ux2_1 := Int32.toInt_lt x2_1
      refine lv_iload_n S.x S.b d_Txp_go_2 rfl (lv_at hl 1 rfl) ?_
      refine lv_ldc (v := 1000000) S.x S.b S.own (S.w m9_0) d_Txp_go_3 ?_
      refine lv_icmp_ge (tgt := 34) S.x S.b d_Txp_go_5 (by decide) (fun c1 => ?_) (fun c1 => ?_)
      · have nc1 : (1000000 : Int) ≤ x2_1.toInt := (i_le (x := 1000000) (y := x2_1)).mp c1
        exact px_vret S hr hlk hAe hw (Nat.le_of_ble_eq_true rfl) (Nat.le_of_ble_eq_true rfl) (⟨f_2, a_2, rfl, (show TxOk (f_2 4) (f_2 5) (f_2 8) (f_2 9) (f_2 17) (f_2 21) (a_2 2) from ⟨lk, ⟨by first | exact i2 | omega, by first | exact i3 | omega⟩, ⟨by first | exact i4 | omega, by first | exact i5 | omega⟩, ⟨by first | exact i6 | omega, by first | exact i7 | omega⟩, by first | exact i8 | omega, ⟨by first | exact i9 | omega, by first | exact i11 | omega⟩, by first | exact i10 | omega, hrt⟩), (show (f_2 17).toInt = (f 17).toInt from by first | exact k2_0 | omega), (show (f_2 15).toInt = (f 15).toInt from by first | exact k2_1 | omega), (show (f_2 20).toInt = (f 20).toInt from by first | exact k2_2 | omega), (show R_Txp_go of fn fd cn cd f a f_2 a_2 from (k2_5 _ _ 1 (Or.inr (Or.inl ⟨rfl, x2_1, rfl, rfl, rfl, rfl, rfl, Or.inl ⟨nc1, rfl, rfl⟩⟩))))⟩) d_Txp_go_34
      · have nc1 : ¬ (1000000 : Int) ≤ x2_1.toInt := mt (i_le (x := 1000000) (y := x2_1)).mpr c1
        refine lv_aload_n S.x S.b d_Txp_go_8 rfl (lv_at hl 0 rfl) ?_
        refine px_getS S k_Txp hT hw 0 0 18 (v := .int (f_2 18)) rfl rfl rfl (by decide) m6_142 m6_143 d_Txp_go_9 ?_
        refine lv_bipush (v := (-2)) S.x S.b d_Txp_go_12 (by decide) ?_
        refine lv_icmp_ne (tgt := 34) S.x S.b d_Txp_go_14 (by decide) (fun c3 => ?_) (fun c3 => ?_)
        · have nc3 : ¬ (f_2 18).toInt = (-2 : Int) := mt (i_eq (x := (f_2 18)) (y := (-2))).mpr c3
          exact px_vret S hr hlk hAe hw (Nat.le_of_ble_eq_true rfl) (Nat.le_of_ble_eq_true rfl) (⟨f_2, a_2, rfl, (show TxOk (f_2 4) (f_2 5) (f_2 8) (f_2 9) (f_2 17) (f_2 21) (a_2 2) from ⟨lk, ⟨by first | exact i2 | omega, by first | exact i3 | omega⟩, ⟨by first | exact i4 | omega, by first | exact i5 | omega⟩, ⟨by first | exact i6 | omega, by first | exact i7 | omega⟩, by first | exact i8 | omega, ⟨by first | exact i9 | omega, by first | exact i11 | omega⟩, by first | exact i10 | omega, hrt⟩), (show (f_2 17).toInt = (f 17).toInt from by first | exact k2_0 | omega), (show (f_2 15).toInt = (f 15).toInt from by first | exact k2_1 | omega), (show (f_2 20).toInt = (f 20).toInt from by first | exact k2_2 | omega), (show R_Txp_go of fn fd cn cd f a f_2 a_2 from (k2_5 _ _ 1 (Or.inr (Or.inl ⟨rfl, x2_1, rfl, rfl, rfl, rfl, rfl, Or.inr ⟨nc1, Or.inl ⟨nc3, rfl, rfl⟩⟩⟩))))⟩) d_Txp_go_34
        · have nc3 : (f_2 18).toInt = (-2 : Int) := (i_eq (x := (f_2 18)) (y := (-2))).mp c3
          refine lv_aload_n S.x S.b d_Txp_go_17 rfl (lv_at hl 0 rfl) ?_
          refine px_getS S k_Txp hT hw 0 0 21 (v := .int (f_2 21)) rfl rfl rfl (by decide) m6_153 m6_154 d_Txp_go_18 ?_
          refine lv_if_ne (tgt := 34) S.x S.b d_Txp_go_21 (by decide) (fun c5 => ?_) (fun c5 => ?_)
          · have nc5 : ¬ (f_2 21).toInt = (0 : Int) := mt (i_eq (x := (f_2 21)) (y := 0)).mpr c5
            exact px_vret S hr hlk hAe hw (Nat.le_of_ble_eq_true rfl) (Nat.le_of_ble_eq_true rfl) (⟨f_2, a_2, rfl, (show TxOk (f_2 4) (f_2 5) (f_2 8) (f_2 9) (f_2 17) (f_2 21) (a_2 2) from ⟨lk, ⟨by first | exact i2 | omega, by first | exact i3 | omega⟩, ⟨by first | exact i4 | omega, by first | exact i5 | omega⟩, ⟨by first | exact i6 | omega, by first | exact i7 | omega⟩, by first | exact i8 | omega, ⟨by first | exact i9 | omega, by first | exact i11 | omega⟩, by first | exact i10 | omega, hrt⟩), (show (f_2 17).toInt = (f 17).toInt from by first | exact k2_0 | omega), (show (f_2 15).toInt = (f 15).toInt from by first | exact k2_1 | omega), (show (f_2 20).toInt = (f 20).toInt from by first | exact k2_2 | omega), (show R_Txp_go of fn fd cn cd f a f_2 a_2 from (k2_5 _ _ 1 (Or.inr (Or.inl ⟨rfl, x2_1, rfl, rfl, rfl, rfl, rfl, Or.inr ⟨nc1, Or.inr ⟨nc3, Or.inl ⟨nc5, rfl, rfl⟩⟩⟩⟩))))⟩) d_Txp_go_34
          · have nc5 : (f_2 21).toInt = (0 : Int) := (i_eq (x := (f_2 21)) (y := 0)).mp c5
            refine lv_aload_n S.x S.b d_Txp_go_24 rfl (lv_at hl 0 rfl) ?_
            refine px_callv (pr := []) (px_runV (As := []) (rest := []) S (c_Txp_step l D cs h r g hp f_2 a_2 rp of fp fn fd cn cd   (show TxOk (f_2 4) (f_2 5) (f_2 8) (f_2 9) (f_2 17) (f_2 21) (a_2 2) from ⟨lk, ⟨by first | exact i2 | omega, by first | exact i3 | omega⟩, ⟨by first | exact i4 | omega, by first | exact i5 | omega⟩, ⟨by first | exact i6 | omega, by first | exact i7 | omega⟩, by first | exact i8 | omega, ⟨by first | exact i9 | omega, by first | exact i11 | omega⟩, by first | exact i10 | omega, hrt⟩) (show (f_2 21).toInt = 0 from by first | exact oz_a15db6296b nc5 i9 | omega) (show fn ≤ 1000000 from by first | exact g0 | omega) (show cn ≤ 100000 from by first | exact g1 | omega) hfd hcd _) hT (pr := []) (pcs := [wd_Txp cs h r (fun k => if k = 3 then (some hp) else none) f_2 a_2 g, wd_Prg cs hp rp (fun k => if k = 2 then of else none) fp (fun _ _ => 0) (fun _ _ => none), nA cs of fn fd, [((rp 1), .inl (cs 0, cn, .inl cd))]]) hw px_X.tt (px_recv hT hw 0 0 rfl rfl rfl) m9_4 m9_1 m9_3 ms_6_14 m1_35 q_Txp_step ⟨Nat.le_of_ble_eq_true rfl, Nat.le_of_ble_eq_true rfl⟩ hl.1 rfl (Nat.le_of_ble_eq_true rfl) d_Txp_go_25 ⟨Nat.le_of_ble_eq_true rfl, Nat.le_of_ble_eq_true rfl⟩) hw hA (fun p9 H locs hp9 hw => ?_)
            obtain ⟨f7, a8, rfl, h15, e11, e12, e13, e14⟩ := hp9
            obtain ⟨lk, ⟨i2, i3⟩, ⟨i4, i5⟩, ⟨i6, i7⟩, i8, ⟨i9, i11⟩, i10, hrt⟩ := h15
            have e11 : (f7 17).toInt = (f_2 17).toInt := e11
            have e12 : (f7 15).toInt = (f_2 15).toInt := e12
            have e13 : (f7 20).toInt = (f_2 20).toInt := e13
            have e14 : R_Txp_step of fn fd cn cd f_2 a_2 f7 a8 := e14
            have hw : pw D A s.heap H locs [wd_Txp cs h r (fun k => if k = 3 then (some hp) else none) f7 a8 g, wd_Prg cs hp rp (fun k => if k = 2 then of else none) fp (fun _ _ => 0) (fun _ _ => none), nA cs of fn fd, [((rp 1), .inl (cs 0, cn, .inl cd))]] := hw
            obtain ⟨z16, ez16⟩ : ∃ y : Int32, y = x2_1 + 1 := ⟨_, rfl⟩
            have tz16 : z16.toInt = (x2_1.toInt + 1 + 2147483648) % 4294967296 - 2147483648 := by rw [ez16]; exact i_add x2_1 1
            have lz16 := Int32.le_toInt z16
            have uz16 := Int32.toInt_lt z16
            try replace tz16 : z16.toInt = x2_1.toInt + 1 := by omega
            refine lv_iinc (v := z16) (lv' := [(1, .int z16), (0, .ref h)]) S.x S.b d_Txp_go_28 hl (k := 1) rfl (by rw [ez16]; rfl) (by decide) rfl (fun ls hl => ?_)
            refine lv_goto (tgt := 2) S.x S.b d_Txp_go_31 (by decide) ?_
            exact ih2 f7 a8 z16 _ _ ls (show TxOk (f7 4) (f7 5) (f7 8) (f7 9) (f7 17) (f7 21) (a8 2) from ⟨lk, ⟨by first | exact i2 | omega, by first | exact i3 | omega⟩, ⟨by first | exact i4 | omega, by first | exact i5 | omega⟩, ⟨by first | exact i6 | omega, by first | exact i7 | omega⟩, by first | exact i8 | omega, ⟨by first | exact i9 | omega, by first | exact i11 | omega⟩, by first | exact i10 | omega, hrt⟩) (show (f7 17).toInt = (f 17).toInt from by first | exact oz_1687f4cc65 k2_0 e11 | omega) (show (f7 15).toInt = (f 15).toInt from by first | exact oz_1687f4cc65 k2_1 e12 | omega) (show (f7 20).toInt = (f 20).toInt from by first | exact oz_1687f4cc65 k2_2 e13 | omega) (show 0 ≤ z16.toInt from by first | exact oz_ae613611c0 tz16 k2_3 | omega) (show z16.toInt ≤ 1000000 from by first | exact oz_596acb4ef1 tz16 nc1 | omega) (show K_Txp_go_2 of fn fd cn cd f a f7 a8 z16 from (fun y_f0 y_f1 k hE => k2_5 y_f0 y_f1 (k + 1) (Or.inr (Or.inl ⟨rfl, x2_1, rfl, rfl, rfl, rfl, rfl, Or.inr ⟨nc1, Or.inr ⟨nc3, Or.inr ⟨nc5, f7, a8, e14, z16, ez16, hE⟩⟩⟩⟩)))) (show 1000001-z16.toInt < (n_2 : Int) from by first | exact oz_0f57f76235 hm tz16 | omega) hw (lv_sub hl [1, 0] rfl)
  refine lv_iconst (v := 0) S.x S.b d_Txp_go_0 (by decide) ?_
  refine lv_istore_n (lv' := [(1, .int 0), (0, .ref h)]) S.x S.b d_Txp_go_1 rfl hl (by decide) rfl (fun ls hl => ?_)
  exact J2 ((1000001-(0 : Int)).toNat + 1) f a (0 : Int32) _ _ ls (show TxOk (f 4) (f 5) (f 8) (f 9) (f 17) (f 21) (a 2) from ⟨lk, ⟨by first | exact i2 | omega, by first | exact i3 | omega⟩, ⟨by first | exact i4 | omega, by first | exact i5 | omega⟩, ⟨by first | exact i6 | omega, by first | exact i7 | omega⟩, by first | exact i8 | omega, ⟨by first | exact i9 | omega, by first | exact i11 | omega⟩, by first | exact i10 | omega, hrt⟩) (show (f 17).toInt = (f 17).toInt from rfl) (show (f 15).toInt = (f 15).toInt from rfl) (show (f 20).toInt = (f 20).toInt from rfl) (show 0 ≤ (0 : Int) from by first | exact oz_5a341f00aa | omega) (show (0 : Int) ≤ 1000000 from by first | exact oz_302d31b646 | omega) (show K_Txp_go_2 of fn fd cn cd f a f a 0 from (fun y_f0 y_f1 k hE => Exists.intro (k + 1) (Or.inl ⟨rfl, hE⟩))) (show 1000001-(0 : Int) < ((((1000001-(0 : Int)).toNat + 1 : Nat) : Int) : Int) from by first | exact oz_natlt | omega) hw (lv_sub hl [1, 0] rfl)
