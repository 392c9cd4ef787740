theorem oz_69ce8a9dfa {a0 : Int} (h0 : (19 : Int) = (15 : Int) + 4 → 0 ≤ a0 ∧ a0 < 32) : 0 ≤ a0 ∧ a0 < ((32 : Nat) : Int) := by omega
theorem oz_a5cd21ebd3 {a0 : Int} (h0 : (24 : Int) = (20 : Int) + 4 → 0 ≤ a0 ∧ a0 < 32) : 0 ≤ a0 ∧ a0 < ((32 : Nat) : Int) := by omega
theorem oz_befba0f6bd {a0 : Int} (h0 : (11 : Int) = (7 : Int) + 4 → 0 ≤ a0 ∧ a0 < 32) : 0 ≤ a0 := by omega
theorem oz_80c12faf1e {a0 : Int} (h0 : (11 : Int) = (7 : Int) + 4 → 0 ≤ a0 ∧ a0 < 32) : a0 < 32 := by omega
theorem m13_218 : Cond.methodLink "HomeSystemModel$Process" 272 ⟨"HomeSystemModel$Process", "jump", "(II)I"⟩ ∈ AL := AL_13 (List.mem_of_getElem? (i := 218) rfl) rfl
theorem m13_221 : Cond.code ⟨"HomeSystemModel$Process", "jump", "(II)I"⟩ prog_15_method_35_code 3 (Option.some FieldType.int) ∈ AL := AL_13 (List.mem_of_getElem? (i := 221) rfl) rfl
theorem ms_15_5 : Cond.selects "HomeSystemModel$Process" ⟨"HomeSystemModel$Process", "jump", "(II)I"⟩ ⟨"HomeSystemModel$Process", "jump", "(II)I"⟩ ∈ AL := AL_p (q := (⟨"HomeSystemModel$Process", "jump", "(II)I"⟩, 26)) (by unfold lw_privs; exact List.mem_append_right _ (List.mem_append_right _ (List.mem_append_right _ (List.mem_append_right _ (List.mem_append_right _ (List.mem_append_right _ (List.mem_append_right _ (List.mem_append_right _ (List.mem_append_right _ (List.mem_append_right _ (List.mem_append_right _ (List.mem_append_right _ (List.mem_append_right _ (List.mem_append_right _ (List.mem_append_left _ (List.mem_of_getElem? (i := 5) rfl))))))))))))))))
theorem m13_220 : Cond.instanceMethod ⟨"HomeSystemModel$Process", "jump", "(II)I"⟩ ∈ AL := AL_13 (List.mem_of_getElem? (i := 220) rfl) rfl
theorem m13_234 : Cond.methodLink "HomeSystemModel$Process" 295 ⟨"HomeSystemModel$Process", "canRead", "(I)Z"⟩ ∈ AL := AL_13 (List.mem_of_getElem? (i := 234) rfl) rfl
theorem m13_237 : Cond.code ⟨"HomeSystemModel$Process", "canRead", "(I)Z"⟩ prog_15_method_26_code 2 (Option.some FieldType.boolean) ∈ AL := AL_13 (List.mem_of_getElem? (i := 237) rfl) rfl
theorem m13_236 : Cond.selects "HomeSystemModel$Process" ⟨"HomeSystemModel$Process", "canRead", "(I)Z"⟩ ⟨"HomeSystemModel$Process", "canRead", "(I)Z"⟩ ∈ AL := AL_13 (List.mem_of_getElem? (i := 236) rfl) rfl
theorem m13_235 : Cond.instanceMethod ⟨"HomeSystemModel$Process", "canRead", "(I)Z"⟩ ∈ AL := AL_13 (List.mem_of_getElem? (i := 235) rfl) rfl
theorem m13_194 : Cond.methodLink "HomeSystemModel$Process" 258 ⟨"HomeSystemModel$Process", "wordAt", "(I)I"⟩ ∈ AL := AL_13 (List.mem_of_getElem? (i := 194) rfl) rfl
theorem m13_197 : Cond.code ⟨"HomeSystemModel$Process", "wordAt", "(I)I"⟩ prog_15_method_28_code 3 (Option.some FieldType.int) ∈ AL := AL_13 (List.mem_of_getElem? (i := 197) rfl) rfl
theorem m13_196 : Cond.selects "HomeSystemModel$Process" ⟨"HomeSystemModel$Process", "wordAt", "(I)I"⟩ ⟨"HomeSystemModel$Process", "wordAt", "(I)I"⟩ ∈ AL := AL_13 (List.mem_of_getElem? (i := 196) rfl) rfl
theorem m13_195 : Cond.instanceMethod ⟨"HomeSystemModel$Process", "wordAt", "(I)I"⟩ ∈ AL := AL_13 (List.mem_of_getElem? (i := 195) rfl) rfl
theorem m14_2 : Cond.methodLink "HomeSystemModel$Process" 298 ⟨"HomeSystemModel$Process", "canWrite", "(I)Z"⟩ ∈ AL := AL_14 (List.mem_of_getElem? (i := 2) rfl) rfl
theorem m14_5 : Cond.code ⟨"HomeSystemModel$Process", "canWrite", "(I)Z"⟩ prog_15_method_27_code 2 (Option.some FieldType.boolean) ∈ AL := AL_14 (List.mem_of_getElem? (i := 5) rfl) rfl
theorem m14_4 : Cond.selects "HomeSystemModel$Process" ⟨"HomeSystemModel$Process", "canWrite", "(I)Z"⟩ ⟨"HomeSystemModel$Process", "canWrite", "(I)Z"⟩ ∈ AL := AL_14 (List.mem_of_getElem? (i := 4) rfl) rfl
theorem m14_3 : Cond.instanceMethod ⟨"HomeSystemModel$Process", "canWrite", "(I)Z"⟩ ∈ AL := AL_14 (List.mem_of_getElem? (i := 3) rfl) rfl
theorem m14_6 : Cond.methodLink "HomeSystemModel$Process" 301 ⟨"HomeSystemModel$Process", "setWord", "(II)V"⟩ ∈ AL := AL_14 (List.mem_of_getElem? (i := 6) rfl) rfl
theorem m14_9 : Cond.code ⟨"HomeSystemModel$Process", "setWord", "(II)V"⟩ prog_15_method_29_code 3 (Option.none : Option Jvm.ClassFile.FieldType) ∈ AL := AL_14 (List.mem_of_getElem? (i := 9) rfl) rfl
theorem m14_8 : Cond.selects "HomeSystemModel$Process" ⟨"HomeSystemModel$Process", "setWord", "(II)V"⟩ ⟨"HomeSystemModel$Process", "setWord", "(II)V"⟩ ∈ AL := AL_14 (List.mem_of_getElem? (i := 8) rfl) rfl
theorem m14_7 : Cond.instanceMethod ⟨"HomeSystemModel$Process", "setWord", "(II)V"⟩ ∈ AL := AL_14 (List.mem_of_getElem? (i := 7) rfl) rfl
theorem m14_17 : Cond.methodLink "HomeSystemModel$Process" 308 ⟨"HomeSystemModel$Process", "simple", "(III)I"⟩ ∈ AL := AL_14 (List.mem_of_getElem? (i := 17) rfl) rfl
theorem m14_19 : Cond.code ⟨"HomeSystemModel$Process", "simple", "(III)I"⟩ prog_15_method_40_code 3 (Option.some FieldType.int) ∈ AL := AL_14 (List.mem_of_getElem? (i := 19) rfl) rfl
theorem m14_18 : Cond.static ⟨"HomeSystemModel$Process", "simple", "(III)I"⟩ ∈ AL := AL_14 (List.mem_of_getElem? (i := 18) rfl) rfl
theorem m14_14 : Cond.methodLink "HomeSystemModel$Process" 304 ⟨"HomeSystemModel$Process", "right", "(IIZ)I"⟩ ∈ AL := AL_14 (List.mem_of_getElem? (i := 14) rfl) rfl
theorem m14_16 : Cond.code ⟨"HomeSystemModel$Process", "right", "(IIZ)I"⟩ prog_15_method_39_code 5 (Option.some FieldType.int) ∈ AL := AL_14 (List.mem_of_getElem? (i := 16) rfl) rfl
theorem m14_15 : Cond.static ⟨"HomeSystemModel$Process", "right", "(IIZ)I"⟩ ∈ AL := AL_14 (List.mem_of_getElem? (i := 15) rfl) rfl
theorem m14_28 : Cond.methodLink "HomeSystemModel$Process" 314 ⟨"HomeSystemModel$Process", "quotient", "(III)I"⟩ ∈ AL := AL_14 (List.mem_of_getElem? (i := 28) rfl) rfl
theorem m14_30 : Cond.code ⟨"HomeSystemModel$Process", "quotient", "(III)I"⟩ prog_15_method_44_code 8 (Option.some FieldType.int) ∈ AL := AL_14 (List.mem_of_getElem? (i := 30) rfl) rfl
theorem m14_29 : Cond.static ⟨"HomeSystemModel$Process", "quotient", "(III)I"⟩ ∈ AL := AL_14 (List.mem_of_getElem? (i := 29) rfl) rfl
theorem m14_24 : Cond.methodLink "HomeSystemModel$Process" 311 ⟨"HomeSystemModel$Process", "product", "(III)I"⟩ ∈ AL := AL_14 (List.mem_of_getElem? (i := 24) rfl) rfl
theorem m14_26 : Cond.code ⟨"HomeSystemModel$Process", "product", "(III)I"⟩ prog_15_method_43_code 14 (Option.some FieldType.int) ∈ AL := AL_14 (List.mem_of_getElem? (i := 26) rfl) rfl
theorem m14_25 : Cond.static ⟨"HomeSystemModel$Process", "product", "(III)I"⟩ ∈ AL := AL_14 (List.mem_of_getElem? (i := 25) rfl) rfl
theorem m13_230 : Cond.methodLink "HomeSystemModel$Process" 282 ⟨"HomeSystemModel$Process", "load", "(III)I"⟩ ∈ AL := AL_13 (List.mem_of_getElem? (i := 230) rfl) rfl
theorem m13_233 : Cond.code ⟨"HomeSystemModel$Process", "load", "(III)I"⟩ prog_15_method_37_code 8 (Option.some FieldType.int) ∈ AL := AL_13 (List.mem_of_getElem? (i := 233) rfl) rfl
theorem ms_15_8 : Cond.selects "HomeSystemModel$Process" ⟨"HomeSystemModel$Process", "load", "(III)I"⟩ ⟨"HomeSystemModel$Process", "load", "(III)I"⟩ ∈ AL := AL_p (q := (⟨"HomeSystemModel$Process", "load", "(III)I"⟩, 26)) (by unfold lw_privs; exact List.mem_append_right _ (List.mem_append_right _ (List.mem_append_right _ (List.mem_append_right _ (List.mem_append_right _ (List.mem_append_right _ (List.mem_append_right _ (List.mem_append_right _ (List.mem_append_right _ (List.mem_append_right _ (List.mem_append_right _ (List.mem_append_right _ (List.mem_append_right _ (List.mem_append_right _ (List.mem_append_left _ (List.mem_of_getElem? (i := 8) rfl))))))))))))))))
theorem m13_232 : Cond.instanceMethod ⟨"HomeSystemModel$Process", "load", "(III)I"⟩ ∈ AL := AL_13 (List.mem_of_getElem? (i := 232) rfl) rfl
theorem m14_10 : Cond.methodLink "HomeSystemModel$Process" 288 ⟨"HomeSystemModel$Process", "withNumber", "(IIIII)I"⟩ ∈ AL := AL_14 (List.mem_of_getElem? (i := 10) rfl) rfl
theorem m14_13 : Cond.code ⟨"HomeSystemModel$Process", "withNumber", "(IIIII)I"⟩ prog_15_method_41_code 8 (Option.some FieldType.int) ∈ AL := AL_14 (List.mem_of_getElem? (i := 13) rfl) rfl
theorem ms_15_10 : Cond.selects "HomeSystemModel$Process" ⟨"HomeSystemModel$Process", "withNumber", "(IIIII)I"⟩ ⟨"HomeSystemModel$Process", "withNumber", "(IIIII)I"⟩ ∈ AL := AL_p (q := (⟨"HomeSystemModel$Process", "withNumber", "(IIIII)I"⟩, 26)) (by unfold lw_privs; exact List.mem_append_right _ (List.mem_append_right _ (List.mem_append_right _ (List.mem_append_right _ (List.mem_append_right _ (List.mem_append_right _ (List.mem_append_right _ (List.mem_append_right _ (List.mem_append_right _ (List.mem_append_right _ (List.mem_append_right _ (List.mem_append_right _ (List.mem_append_right _ (List.mem_append_right _ (List.mem_append_left _ (List.mem_of_getElem? (i := 10) rfl))))))))))))))))
theorem m14_12 : Cond.instanceMethod ⟨"HomeSystemModel$Process", "withNumber", "(IIIII)I"⟩ ∈ AL := AL_14 (List.mem_of_getElem? (i := 12) rfl) rfl
theorem m13_238 : Cond.methodLink "HomeSystemModel$Process" 285 ⟨"HomeSystemModel$Process", "store", "(III)I"⟩ ∈ AL := AL_13 (List.mem_of_getElem? (i := 238) rfl) rfl
theorem m14_1 : Cond.code ⟨"HomeSystemModel$Process", "store", "(III)I"⟩ prog_15_method_38_code 10 (Option.some FieldType.int) ∈ AL := AL_14 (List.mem_of_getElem? (i := 1) rfl) rfl
theorem ms_15_9 : Cond.selects "HomeSystemModel$Process" ⟨"HomeSystemModel$Process", "store", "(III)I"⟩ ⟨"HomeSystemModel$Process", "store", "(III)I"⟩ ∈ AL := AL_p (q := (⟨"HomeSystemModel$Process", "store", "(III)I"⟩, 26)) (by unfold lw_privs; exact List.mem_append_right _ (List.mem_append_right _ (List.mem_append_right _ (List.mem_append_right _ (List.mem_append_right _ (List.mem_append_right _ (List.mem_append_right _ (List.mem_append_right _ (List.mem_append_right _ (List.mem_append_right _ (List.mem_append_right _ (List.mem_append_right _ (List.mem_append_right _ (List.mem_append_right _ (List.mem_append_left _ (List.mem_of_getElem? (i := 9) rfl))))))))))))))))
theorem m14_0 : Cond.instanceMethod ⟨"HomeSystemModel$Process", "store", "(III)I"⟩ ∈ AL := AL_14 (List.mem_of_getElem? (i := 0) rfl) rfl
theorem m14_20 : Cond.methodLink "HomeSystemModel$Process" 292 ⟨"HomeSystemModel$Process", "withTwo", "(IIIII)I"⟩ ∈ AL := AL_14 (List.mem_of_getElem? (i := 20) rfl) rfl
theorem m14_23 : Cond.code ⟨"HomeSystemModel$Process", "withTwo", "(IIIII)I"⟩ prog_15_method_42_code 8 (Option.some FieldType.int) ∈ AL := AL_14 (List.mem_of_getElem? (i := 23) rfl) rfl
theorem ms_15_11 : Cond.selects "HomeSystemModel$Process" ⟨"HomeSystemModel$Process", "withTwo", "(IIIII)I"⟩ ⟨"HomeSystemModel$Process", "withTwo", "(IIIII)I"⟩ ∈ AL := AL_p (q := (⟨"HomeSystemModel$Process", "withTwo", "(IIIII)I"⟩, 26)) (by unfold lw_privs; exact List.mem_append_right _ (List.mem_append_right _ (List.mem_append_right _ (List.mem_append_right _ (List.mem_append_right _ (List.mem_append_right _ (List.mem_append_right _ (List.mem_append_right _ (List.mem_append_right _ (List.mem_append_right _ (List.mem_append_right _ (List.mem_append_right _ (List.mem_append_right _ (List.mem_append_right _ (List.mem_append_left _ (List.mem_of_getElem? (i := 11) rfl))))))))))))))))
theorem m14_22 : Cond.instanceMethod ⟨"HomeSystemModel$Process", "withTwo", "(IIIII)I"⟩ ∈ AL := AL_14 (List.mem_of_getElem? (i := 22) rfl) rfl
theorem m13_226 : Cond.methodLink "HomeSystemModel$Process" 278 ⟨"HomeSystemModel$Process", "branch", "(IIII)I"⟩ ∈ AL := AL_13 (List.mem_of_getElem? (i := 226) rfl) rfl
theorem m13_229 : Cond.code ⟨"HomeSystemModel$Process", "branch", "(IIII)I"⟩ prog_15_method_36_code 7 (Option.some FieldType.int) ∈ AL := AL_13 (List.mem_of_getElem? (i := 229) rfl) rfl
theorem ms_15_7 : Cond.selects "HomeSystemModel$Process" ⟨"HomeSystemModel$Process", "branch", "(IIII)I"⟩ ⟨"HomeSystemModel$Process", "branch", "(IIII)I"⟩ ∈ AL := AL_p (q := (⟨"HomeSystemModel$Process", "branch", "(IIII)I"⟩, 26)) (by unfold lw_privs; exact List.mem_append_right _ (List.mem_append_right _ (List.mem_append_right _ (List.mem_append_right _ (List.mem_append_right _ (List.mem_append_right _ (List.mem_append_right _ (List.mem_append_right _ (List.mem_append_right _ (List.mem_append_right _ (List.mem_append_right _ (List.mem_append_right _ (List.mem_append_right _ (List.mem_append_right _ (List.mem_append_left _ (List.mem_of_getElem? (i := 7) rfl))))))))))))))))
theorem m13_228 : Cond.instanceMethod ⟨"HomeSystemModel$Process", "branch", "(IIII)I"⟩ ∈ AL := AL_13 (List.mem_of_getElem? (i := 228) rfl) rfl
theorem m13_217 : Cond.constant "HomeSystemModel$Process" 271 (1048576) ∈ AL := AL_13 (List.mem_of_getElem? (i := 217) rfl) rfl
theorem m13_206 : Cond.methodLink "HomeSystemModel$Process" 261 ⟨"HomeSystemModel$Process", "perform", "(I)I"⟩ ∈ AL := AL_13 (List.mem_of_getElem? (i := 206) rfl) rfl
theorem m13_209 : Cond.code ⟨"HomeSystemModel$Process", "perform", "(I)I"⟩ prog_15_method_33_code 8 (Option.some FieldType.int) ∈ AL := AL_13 (List.mem_of_getElem? (i := 209) rfl) rfl
theorem ms_15_3 : Cond.selects "HomeSystemModel$Process" ⟨"HomeSystemModel$Process", "perform", "(I)I"⟩ ⟨"HomeSystemModel$Process", "perform", "(I)I"⟩ ∈ AL := AL_p (q := (⟨"HomeSystemModel$Process", "perform", "(I)I"⟩, 26)) (by unfold lw_privs; exact List.mem_append_right _ (List.mem_append_right _ (List.mem_append_right _ (List.mem_append_right _ (List.mem_append_right _ (List.mem_append_right _ (List.mem_append_right _ (List.mem_append_right _ (List.mem_append_right _ (List.mem_append_right _ (List.mem_append_right _ (List.mem_append_right _ (List.mem_append_right _ (List.mem_append_right _ (List.mem_append_left _ (List.mem_of_getElem? (i := 3) rfl))))))))))))))))
theorem m13_208 : Cond.instanceMethod ⟨"HomeSystemModel$Process", "perform", "(I)I"⟩ ∈ AL := AL_13 (List.mem_of_getElem? (i := 208) rfl) rfl
abbrev b_Mpr_branch : ByteArray := prog_15_method_36_code
def y_Mpr_branch : MethodName := ⟨"HomeSystemModel$Process", "branch", "(IIII)I"⟩
theorem d_Mpr_branch_0 : decode b_Mpr_branch 0 = .ok (.iload_n 2, 1) := by decide +kernel
theorem d_Mpr_branch_1 : decode b_Mpr_branch 1 = .ok (.iconst 2, 1) := by decide +kernel
theorem d_Mpr_branch_2 : decode b_Mpr_branch 2 = .ok (.if_icmp .eq 8, 3) := by decide +kernel
theorem d_Mpr_branch_5 : decode b_Mpr_branch 5 = .ok (.iload_n 2, 1) := by decide +kernel
theorem d_Mpr_branch_6 : decode b_Mpr_branch 6 = .ok (.iconst 3, 1) := by decide +kernel
theorem d_Mpr_branch_7 : decode b_Mpr_branch 7 = .ok (.if_icmp .ne 8, 3) := by decide +kernel
theorem d_Mpr_branch_10 : decode b_Mpr_branch 10 = .ok (.aload_n 0, 1) := by decide +kernel
theorem d_Mpr_branch_11 : decode b_Mpr_branch 11 = .ok (.invokevirtual 275, 3) := by decide +kernel
theorem d_Mpr_branch_14 : decode b_Mpr_branch 14 = .ok (.ireturn, 1) := by decide +kernel
theorem d_Mpr_branch_15 : decode b_Mpr_branch 15 = .ok (.iload_n 2, 1) := by decide +kernel
theorem d_Mpr_branch_16 : decode b_Mpr_branch 16 = .ok (.iconst 2, 1) := by decide +kernel
theorem d_Mpr_branch_17 : decode b_Mpr_branch 17 = .ok (.if_icmp .ge 17, 3) := by decide +kernel
theorem d_Mpr_branch_20 : decode b_Mpr_branch 20 = .ok (.iload_n 3, 1) := by decide +kernel
theorem d_Mpr_branch_21 : decode b_Mpr_branch 21 = .ok (.iload 4, 2) := by decide +kernel
theorem d_Mpr_branch_23 : decode b_Mpr_branch 23 = .ok (.if_icmp .ne 7, 3) := by decide +kernel
theorem d_Mpr_branch_26 : decode b_Mpr_branch 26 = .ok (.iconst 1, 1) := by decide +kernel
theorem d_Mpr_branch_27 : decode b_Mpr_branch 27 = .ok (.goto 45, 3) := by decide +kernel
theorem d_Mpr_branch_30 : decode b_Mpr_branch 30 = .ok (.iconst 0, 1) := by decide +kernel
theorem d_Mpr_branch_31 : decode b_Mpr_branch 31 = .ok (.goto 41, 3) := by decide +kernel
theorem d_Mpr_branch_34 : decode b_Mpr_branch 34 = .ok (.iload_n 2, 1) := by decide +kernel
theorem d_Mpr_branch_35 : decode b_Mpr_branch 35 = .ok (.bipush 6, 2) := by decide +kernel
theorem d_Mpr_branch_37 : decode b_Mpr_branch 37 = .ok (.if_icmp .ge 17, 3) := by decide +kernel
theorem d_Mpr_branch_40 : decode b_Mpr_branch 40 = .ok (.iload_n 3, 1) := by decide +kernel
theorem d_Mpr_branch_41 : decode b_Mpr_branch 41 = .ok (.iload 4, 2) := by decide +kernel
theorem d_Mpr_branch_43 : decode b_Mpr_branch 43 = .ok (.if_icmp .ge 7, 3) := by decide +kernel
theorem d_Mpr_branch_46 : decode b_Mpr_branch 46 = .ok (.iconst 1, 1) := by decide +kernel
theorem d_Mpr_branch_47 : decode b_Mpr_branch 47 = .ok (.goto 25, 3) := by decide +kernel
theorem d_Mpr_branch_50 : decode b_Mpr_branch 50 = .ok (.iconst 0, 1) := by decide +kernel
theorem d_Mpr_branch_51 : decode b_Mpr_branch 51 = .ok (.goto 21, 3) := by decide +kernel
theorem d_Mpr_branch_54 : decode b_Mpr_branch 54 = .ok (.iload_n 3, 1) := by decide +kernel
theorem d_Mpr_branch_55 : decode b_Mpr_branch 55 = .ok (.invokestatic 223, 3) := by decide +kernel
theorem d_Mpr_branch_58 : decode b_Mpr_branch 58 = .ok (.iload 4, 2) := by decide +kernel
theorem d_Mpr_branch_60 : decode b_Mpr_branch 60 = .ok (.invokestatic 223, 3) := by decide +kernel
theorem d_Mpr_branch_63 : decode b_Mpr_branch 63 = .ok (.lcmp, 1) := by decide +kernel
theorem d_Mpr_branch_64 : decode b_Mpr_branch 64 = .ok (.ifCond .ge 7, 3) := by decide +kernel
theorem d_Mpr_branch_67 : decode b_Mpr_branch 67 = .ok (.iconst 1, 1) := by decide +kernel
theorem d_Mpr_branch_68 : decode b_Mpr_branch 68 = .ok (.goto 4, 3) := by decide +kernel
theorem d_Mpr_branch_71 : decode b_Mpr_branch 71 = .ok (.iconst 0, 1) := by decide +kernel
theorem d_Mpr_branch_72 : decode b_Mpr_branch 72 = .ok (.istore 5, 2) := by decide +kernel
theorem d_Mpr_branch_74 : decode b_Mpr_branch 74 = .ok (.iload_n 1, 1) := by decide +kernel
theorem d_Mpr_branch_75 : decode b_Mpr_branch 75 = .ok (.bipush 31, 2) := by decide +kernel
theorem d_Mpr_branch_77 : decode b_Mpr_branch 77 = .ok (.ishr, 1) := by decide +kernel
theorem d_Mpr_branch_78 : decode b_Mpr_branch 78 = .ok (.sipush 4096, 3) := by decide +kernel
theorem d_Mpr_branch_81 : decode b_Mpr_branch 81 = .ok (.imul, 1) := by decide +kernel
theorem d_Mpr_branch_82 : decode b_Mpr_branch 82 = .ok (.iload_n 1, 1) := by decide +kernel
theorem d_Mpr_branch_83 : decode b_Mpr_branch 83 = .ok (.bipush 7, 2) := by decide +kernel
theorem d_Mpr_branch_85 : decode b_Mpr_branch 85 = .ok (.bipush 7, 2) := by decide +kernel
theorem d_Mpr_branch_87 : decode b_Mpr_branch 87 = .ok (.invokestatic 264, 3) := by decide +kernel
theorem d_Mpr_branch_90 : decode b_Mpr_branch 90 = .ok (.sipush 2048, 3) := by decide +kernel
theorem d_Mpr_branch_93 : decode b_Mpr_branch 93 = .ok (.imul, 1) := by decide +kernel
theorem d_Mpr_branch_94 : decode b_Mpr_branch 94 = .ok (.iadd, 1) := by decide +kernel
theorem d_Mpr_branch_95 : decode b_Mpr_branch 95 = .ok (.iload_n 1, 1) := by decide +kernel
theorem d_Mpr_branch_96 : decode b_Mpr_branch 96 = .ok (.bipush 25, 2) := by decide +kernel
theorem d_Mpr_branch_98 : decode b_Mpr_branch 98 = .ok (.bipush 30, 2) := by decide +kernel
theorem d_Mpr_branch_100 : decode b_Mpr_branch 100 = .ok (.invokestatic 264, 3) := by decide +kernel
theorem d_Mpr_branch_103 : decode b_Mpr_branch 103 = .ok (.bipush 32, 2) := by decide +kernel
theorem d_Mpr_branch_105 : decode b_Mpr_branch 105 = .ok (.imul, 1) := by decide +kernel
theorem d_Mpr_branch_106 : decode b_Mpr_branch 106 = .ok (.iadd, 1) := by decide +kernel
theorem d_Mpr_branch_107 : decode b_Mpr_branch 107 = .ok (.iload_n 1, 1) := by decide +kernel
theorem d_Mpr_branch_108 : decode b_Mpr_branch 108 = .ok (.bipush 8, 2) := by decide +kernel
theorem d_Mpr_branch_110 : decode b_Mpr_branch 110 = .ok (.bipush 11, 2) := by decide +kernel
theorem d_Mpr_branch_112 : decode b_Mpr_branch 112 = .ok (.invokestatic 264, 3) := by decide +kernel
theorem d_Mpr_branch_115 : decode b_Mpr_branch 115 = .ok (.iconst 2, 1) := by decide +kernel
theorem d_Mpr_branch_116 : decode b_Mpr_branch 116 = .ok (.imul, 1) := by decide +kernel
theorem d_Mpr_branch_117 : decode b_Mpr_branch 117 = .ok (.iadd, 1) := by decide +kernel
theorem d_Mpr_branch_118 : decode b_Mpr_branch 118 = .ok (.istore 6, 2) := by decide +kernel
theorem d_Mpr_branch_120 : decode b_Mpr_branch 120 = .ok (.iload 5, 2) := by decide +kernel
theorem d_Mpr_branch_122 : decode b_Mpr_branch 122 = .ok (.iload_n 2, 1) := by decide +kernel
theorem d_Mpr_branch_123 : decode b_Mpr_branch 123 = .ok (.iconst 2, 1) := by decide +kernel
theorem d_Mpr_branch_124 : decode b_Mpr_branch 124 = .ok (.irem, 1) := by decide +kernel
theorem d_Mpr_branch_125 : decode b_Mpr_branch 125 = .ok (.ifCond .ne 7, 3) := by decide +kernel
theorem d_Mpr_branch_128 : decode b_Mpr_branch 128 = .ok (.iconst 1, 1) := by decide +kernel
theorem d_Mpr_branch_129 : decode b_Mpr_branch 129 = .ok (.goto 4, 3) := by decide +kernel
theorem d_Mpr_branch_132 : decode b_Mpr_branch 132 = .ok (.iconst 0, 1) := by decide +kernel
theorem d_Mpr_branch_133 : decode b_Mpr_branch 133 = .ok (.if_icmp .ne 18, 3) := by decide +kernel
theorem d_Mpr_branch_136 : decode b_Mpr_branch 136 = .ok (.aload_n 0, 1) := by decide +kernel
theorem d_Mpr_branch_137 : decode b_Mpr_branch 137 = .ok (.aload_n 0, 1) := by decide +kernel
theorem d_Mpr_branch_138 : decode b_Mpr_branch 138 = .ok (.getfield 95, 3) := by decide +kernel
theorem d_Mpr_branch_141 : decode b_Mpr_branch 141 = .ok (.iload 6, 2) := by decide +kernel
theorem d_Mpr_branch_143 : decode b_Mpr_branch 143 = .ok (.iadd, 1) := by decide +kernel
theorem d_Mpr_branch_144 : decode b_Mpr_branch 144 = .ok (.iconst 0, 1) := by decide +kernel
theorem d_Mpr_branch_145 : decode b_Mpr_branch 145 = .ok (.invokevirtual 272, 3) := by decide +kernel
theorem d_Mpr_branch_148 : decode b_Mpr_branch 148 = .ok (.goto 9, 3) := by decide +kernel
theorem d_Mpr_branch_151 : decode b_Mpr_branch 151 = .ok (.aload_n 0, 1) := by decide +kernel
theorem d_Mpr_branch_152 : decode b_Mpr_branch 152 = .ok (.getfield 95, 3) := by decide +kernel
theorem d_Mpr_branch_155 : decode b_Mpr_branch 155 = .ok (.iconst 4, 1) := by decide +kernel
theorem d_Mpr_branch_156 : decode b_Mpr_branch 156 = .ok (.iadd, 1) := by decide +kernel
theorem d_Mpr_branch_157 : decode b_Mpr_branch 157 = .ok (.ireturn, 1) := by decide +kernel
theorem q_Mpr_branch : px_y y_Mpr_branch 4 := by unfold px_y; decide +kernel
set_option maxHeartbeats 4000000 in
set_option maxRecDepth 100000 in
theorem c_mr_branch (l : Launch) (D : va_G) (cs : Nat → ClassId) (nf : Int) (q : Nat) (qr : Nat → Nat) (qg : Nat → Nat → Option Nat) (qf : Nat → Int32) (qa : Nat → Nat → Int32) (h : Nat) (r : Nat → Nat) (g : Nat → Nat → Option Nat) (tf : Nat → Int32) (ta : Nat → Nat → Int32) (pf : Nat → Int32) (na : Nat → Nat → Int32) (ma : Nat → Nat → Int32) (wa : Nat → Nat → Int32) (cf : Nat → Int32) (ca : Nat → Nat → Int32) (ef : Nat → Int32) (ea : Nat → Nat → Int32) (xf : Nat → Int32) (xa : Nat → Nat → Int32) (p0 p1 p2 p3 : Int32)   : MetI l y_Mpr_branch b_Mpr_branch 7 (.int) D cs 4 130 (0) (0) [.ref q, .int p0, .int p1, .int p2, .int p3] [wd_Mpr cs q qr (fun k => if k = 0 then (some h) else none) qf qa qg, wdP cs h r g tf ta pf na ma wa cf ca ef ea xf xa] (oX (fun A U H => (oP A g U H)) [wd_Mpr cs q qr (fun k => if k = 0 then (some h) else none) qf qa qg, wdP cs h r g tf ta pf na ma wa cf ca ef ea xf xa]) (fun v ps => ∃ (qf' : Nat → Int32) (qa' : Nat → Nat → Int32), (ps = [wd_Mpr cs q qr (fun k => if k = 0 then (some h) else none) qf' qa' qg, wdP cs h r g tf ta pf na ma wa cf ca ef ea xf xa]) ∧ ((qf' 2).toInt = (qf 2).toInt ∨ (qf' 2).toInt = 7) ∧ ((qf' 1).toInt = (qf 1).toInt) ∧ ((qf' 4).toInt = (qf 4).toInt) ∧ ((qf' 5).toInt = (qf 5).toInt) ∧ ((qf' 6).toInt = (qf 6).toInt) ∧ ((qf' 7).toInt = (qf 7).toInt) ∧ ((qf' 10).toInt = (qf 10).toInt) ∧ ((qf' 11).toInt = (qf 11).toInt) ∧ ((qf' 12).toInt = (qf 12).toInt) ∧ ((qf' 13).toInt = (qf 13).toInt) ∧ ((qf' 14).toInt = (qf 14).toInt) ∧ ((qf' 21).toInt = (qf 21).toInt) ∧ ((qf' 23).toInt = (qf 23).toInt) ∧ ((qf' 24).toInt = (qf 24).toInt)) := by
  refine px_enter (by decide) (Nat.le_of_ble_eq_true rfl) ?_
  intro p e s m below meth c A ls hAe S hr hlk hnm hA hT hX hw hl
  replace hl : lv_has ls 7 [(0, .ref q), (1, .int p0), (2, .int p1), (3, .int p2), (4, .int p3)] := hl
  have lp0 := Int32.le_toInt p0
  have up0 := Int32.toInt_lt p0
  have lp1 := Int32.le_toInt p1
  have up1 := Int32.toInt_lt p1
  have lp2 := Int32.le_toInt p2
  have up2 := Int32.toInt_lt p2
  have lp3 := Int32.le_toInt p3
  have up3 := Int32.toInt_lt p3
  have cst0 : (0 : Int32).toInt = 0 := rfl
  have cst1 : (1 : Int32).toInt = 1 := rfl
  have cst2 : (2 : Int32).toInt = 2 := rfl
  have cst3 : (3 : Int32).toInt = 3 := rfl
  have cst4 : (4 : Int32).toInt = 4 := rfl
  have cst6 : (6 : Int32).toInt = 6 := rfl
  have cst7 : (7 : Int32).toInt = 7 := rfl
  have cst8 : (8 : Int32).toInt = 8 := rfl
  have cst11 : (11 : Int32).toInt = 11 := rfl
  have cst25 : (25 : Int32).toInt = 25 := rfl
  have cst30 : (30 : Int32).toInt = 30 := rfl
  have cst31 : (31 : Int32).toInt = 31 := rfl
  have cst32 : (32 : Int32).toInt = 32 := rfl
  have cst2048 : (2048 : Int32).toInt = 2048 := rfl
  have cst4096 : (4096 : Int32).toInt = 4096 := rfl
  have hX : (fun A U H => (oP A g U H)) A s s.heap := by rw [hAe]; exact hX
  have hP := hX
  have hZ := hP.1
  have hF0 := hP.2.1
  have J74 : ∀  (x74_5 : Int32) (H : Heap) (locs : List Loc) (ls : Array Slot), (0 ≤ x74_5.toInt) → (x74_5.toInt ≤ 1) → pw D A s.heap H locs [wd_Mpr cs q qr (fun k => if k = 0 then (some h) else none) qf qa qg, wdP cs h r g tf ta pf na ma wa cf ca ef ea xf xa] → lv_has ls 7 [(0, .ref q), (1, .int p0), (2, .int p1), (3, .int p2), (4, .int p3), (5, .int x74_5)] → W p l e { frames := 4, cells := 0, slots := 0, locals := 130 } s m [.ref q, .int p0, .int p1, .int p2, .int p3].toArray below meth c H locs 0 0 (MQ below (va_Qi (fun v ps => ∃ (qf' : Nat → Int32) (qa' : Nat → Nat → Int32), (ps = [wd_Mpr cs q qr (fun k => if k = 0 then (some h) else none) qf' qa' qg, wdP cs h r g tf ta pf na ma wa cf ca ef ea xf xa]) ∧ ((qf' 2).toInt = (qf 2).toInt ∨ (qf' 2).toInt = 7) ∧ ((qf' 1).toInt = (qf 1).toInt) ∧ ((qf' 4).toInt = (qf 4).toInt) ∧ ((qf' 5).toInt = (qf 5).toInt) ∧ ((qf' 6).toInt = (qf 6).toInt) ∧ ((qf' 7).toInt = (qf 7).toInt) ∧ ((qf' 10).toInt = (qf 10).toInt) ∧ ((qf' 11).toInt = (qf 11).toInt) ∧ ((qf' 12).toInt = (qf 12).toInt) ∧ ((qf' 13).toInt = (qf 13).toInt) ∧ ((qf' 14).toInt = (qf 14).toInt) ∧ ((qf' 21).toInt = (qf 21).toInt) ∧ ((qf' 23).toInt = (qf 23).toInt) ∧ ((qf' 24).toInt = (qf 24).toInt)) (pc_B D (va_A ([wd_Mpr cs q qr (fun k => if k = 0 then (some h) else none) qf qa qg, wdP cs h r g tf ta pf na ma wa cf ca ef ea xf xa] : List va_W).flatten s.heap.size)) (va_A ([wd_Mpr cs q qr (fun k => if k = 0 then (some h) else none) qf qa qg, wdP cs h r g tf ta pf na ma wa cf ca ef ea xf xa] : List va_W).flatten s.heap.size)) [.ref q, .int p0, .int p1, .int p2, .int p3].toArray s 0 0 A) (F0 m 74 ls []) := by
    intro x74_5 H locs ls k74_0 k74_1 hw hl
    have lx74_5 := Int32.le_toInt x74_5
    have ux74_5 := Int32.toInt_lt x74_5
    refine lv_iload_n S.x S.b d_Mpr_branch_74 rfl (lv_at hl 1 rfl) ?_
    refine lv_bipush (v := 31) S.x S.b d_Mpr_branch_75 (by decide) ?_
    refine lv_ishr S.x S.b d_Mpr_branch_77 ?_
    refine lv_topi (fun z1 ez1 => ?_)
    have tz1 : z1.toInt = p0.toInt / 2147483648 := by rw [ez1]; exact i_shr p0 31 (k := 31) (d := 2147483648) (by decide) (by decide)
    have lz1 := Int32.le_toInt z1
    have uz1 := Int32.toInt_lt z1
    refine lv_sipush (v := 4096) S.x S.b d_Mpr_branch_78 (by decide) ?_
    refine lv_imul S.x S.b d_Mpr_branch_81 ?_
    refine lv_topi (fun z2 ez2 => ?_)
    have lz2 := Int32.le_toInt z2
    have uz2 := Int32.toInt_lt z2
    refine lv_iload_n S.x S.b d_Mpr_branch_82 rfl (lv_at hl 1 rfl) ?_
    refine lv_bipush (v := 7) S.x S.b d_Mpr_branch_83 (by decide) ?_
    refine lv_bipush (v := 7) S.x S.b d_Mpr_branch_85 (by decide) ?_
    refine px_calli (pr := [wd_Mpr cs q qr (fun k => if k = 0 then (some h) else none) qf qa qg, wdP cs h r g tf ta pf na ma wa cf ca ef ea xf xa]) (px_runS (As := [.int p0, .int 7, .int 7]) (rest := [.int z2]) S (c_mr_bits l D cs  p0 7 7   _) hT (pr := [wd_Mpr cs q qr (fun k => if k = 0 then (some h) else none) qf qa qg, wdP cs h r g tf ta pf na ma wa cf ca ef ea xf xa]) (pcs := []) hw px_X.tt m13_212 m13_210 m13_211 m1_22 q_Mpr_bits ⟨Nat.le_of_ble_eq_true rfl, Nat.le_of_ble_eq_true rfl⟩ hl.1 rfl (Nat.le_of_ble_eq_true rfl) d_Mpr_branch_87 ⟨Nat.le_of_ble_eq_true rfl, Nat.le_of_ble_eq_true rfl⟩) hw hA (fun v4 p3 H locs hp3 hw => ?_)
    obtain ⟨rfl, e5⟩ := hp3
    replace e5 : (7 : Int) = (7 : Int) + 4 → 0 ≤ v4.toInt ∧ v4.toInt < 32 := e5
    replace hw : pw D A s.heap H locs [wd_Mpr cs q qr (fun k => if k = 0 then (some h) else none) qf qa qg, wdP cs h r g tf ta pf na ma wa cf ca ef ea xf xa] := hw
    have lv4 := Int32.le_toInt v4
    have uv4 := Int32.toInt_lt v4
    refine lv_sipush (v := 2048) S.x S.b d_Mpr_branch_90 (by decide) ?_
    refine lv_imul S.x S.b d_Mpr_branch_93 ?_
    refine lv_topi (fun z6 ez6 => ?_)
    have lz6 := Int32.le_toInt z6
    have uz6 := Int32.toInt_lt z6
    refine lv_iadd S.x S.b d_Mpr_branch_94 ?_
    refine lv_topi (fun z7 ez7 => ?_)
    have tz7 : z7.toInt = (z2.toInt + z6.toInt + 2147483648) % 4294967296 - 2147483648 := by rw [ez7]; exact i_add z2 z6
    have lz7 := Int32.le_toInt z7
    have uz7 := Int32.toInt_lt z7
    try replace tz7 : z7.toInt = z2.toInt + z6.toInt := by omega
    refine lv_iload_n S.x S.b d_Mpr_branch_95 rfl (lv_at hl 1 rfl) ?_
    refine lv_bipush (v := 25) S.x S.b d_Mpr_branch_96 (by decide) ?_
    refine lv_bipush (v := 30) S.x S.b d_Mpr_branch_98 (by decide) ?_
    refine px_calli (pr := [wd_Mpr cs q qr (fun k => if k = 0 then (some h) else none) qf qa qg, wdP cs h r g tf ta pf na ma wa cf ca ef ea xf xa]) (px_runS (As := [.int p0, .int 25, .int 30]) (rest := [.int z7]) S (c_mr_bits l D cs  p0 25 30   _) hT (pr := [wd_Mpr cs q qr (fun k => if k = 0 then (some h) else none) qf qa qg, wdP cs h r g tf ta pf na ma wa cf ca ef ea xf xa]) (pcs := []) hw px_X.tt m13_212 m13_210 m13_211 m1_22 q_Mpr_bits ⟨Nat.le_of_ble_eq_true rfl, Nat.le_of_ble_eq_true rfl⟩ hl.1 rfl (Nat.le_of_ble_eq_true rfl) d_Mpr_branch_100 ⟨Nat.le_of_ble_eq_true rfl, Nat.le_of_ble_eq_true rfl⟩) hw hA (fun v9 p8 H locs hp8 hw => ?_)
    obtain ⟨rfl, e10⟩ := hp8
    replace e10 : (30 : Int) = (25 : Int) + 4 → 0 ≤ v9.toInt ∧ v9.toInt < 32 := e10
    replace hw : pw D A s.heap H locs [wd_Mpr cs q qr (fun k => if k = 0 then (some h) else none) qf qa qg, wdP cs h r g tf ta pf na ma wa cf ca ef ea xf xa] := hw
    have lv9 := Int32.le_toInt v9
    have uv9 := Int32.toInt_lt v9
    refine lv_bipush (v := 32) S.x S.b d_Mpr_branch_103 (by decide) ?_
    refine lv_imul S.x S.b d_Mpr_branch_105 ?_
    refine lv_topi (fun z11 ez11 => ?_)
    have lz11 := Int32.le_toInt z11
    have uz11 := Int32.toInt_lt z11
    refine lv_iadd S.x S.b d_Mpr_branch_106 ?_
    refine lv_topi (fun z12 ez12 => ?_)
    have tz12 : z12.toInt = (z7.toInt + z11.toInt + 2147483648) % 4294967296 - 2147483648 := by rw [ez12]; exact i_add z7 z11
    have lz12 := Int32.le_toInt z12
    have uz12 := Int32.toInt_lt z12
    try replace tz12 : z12.toInt = z7.toInt + z11.toInt := by omega
    refine lv_iload_n S.x S.b d_Mpr_branch_107 rfl (lv_at hl 1 rfl) ?_
    refine lv_bipush (v := 8) S.x S.b d_Mpr_branch_108 (by decide) ?_
    refine lv_bipush (v := 11) S.x S.b d_Mpr_branch_110 (by decide) ?_
    refine px_calli (pr := [wd_Mpr cs q qr (fun k => if k = 0 then (some h) else none) qf qa qg, wdP cs h r g tf ta pf na ma wa cf ca ef ea xf xa]) (px_runS (As := [.int p0, .int 8, .int 11]) (rest := [.int z12]) S (c_mr_bits l D cs  p0 8 11   _) hT (pr := [wd_Mpr cs q qr (fun k => if k = 0 then (some h) else none) qf qa qg, wdP cs h r g tf ta pf na ma wa cf ca ef ea xf xa]) (pcs := []) hw px_X.tt m13_212 m13_210 m13_211 m1_22 q_Mpr_bits ⟨Nat.le_of_ble_eq_true rfl, Nat.le_of_ble_eq_true rfl⟩ hl.1 rfl (Nat.le_of_ble_eq_true rfl) d_Mpr_branch_112 ⟨Nat.le_of_ble_eq_true rfl, Nat.le_of_ble_eq_true rfl⟩) hw hA (fun v14 p13 H locs hp13 hw => ?_)
    obtain ⟨rfl, e15⟩ := hp13
    replace e15 : (11 : Int) = (8 : Int) + 4 → 0 ≤ v14.toInt ∧ v14.toInt < 32 := e15
    replace hw : pw D A s.heap H locs [wd_Mpr cs q qr (fun k => if k = 0 then (some h) else none) qf qa qg, wdP cs h r g tf ta pf na ma wa cf ca ef ea xf xa] := hw
    have lv14 := Int32.le_toInt v14
    have uv14 := Int32.toInt_lt v14
    refine lv_iconst (v := 2) S.x S.b d_Mpr_branch_115 (by decide) ?_
    refine lv_imul S.x S.b d_Mpr_branch_116 ?_
    refine lv_topi (fun z16 ez16 => ?_)
    have lz16 := Int32.le_toInt z16
    have uz16 := Int32.toInt_lt z16
    refine lv_iadd S.x S.b d_Mpr_branch_117 ?_
    refine lv_topi (fun z17 ez17 => ?_)
    have tz17 : z17.toInt = (z12.toInt + z16.toInt + 2147483648) % 4294967296 - 2147483648 := by rw [ez17]; exact i_add z12 z16
    have lz17 := Int32.le_toInt z17
    have uz17 := Int32.toInt_lt z17
    try replace tz17 : z17.toInt = z12.toInt + z16.toInt := by omega
    refine lv_istore (lv' := [(6, .int z17), (0, .ref q), (1, .int p0), (2, .int p1), (3, .int p2), (4, .int p3), (5, .int x74_5)]) S.x S.b d_Mpr_branch_118 hl (by decide) rfl (fun ls hl => ?_)
    refine lv_iload S.x S.b d_Mpr_branch_120 (lv_at hl 6 rfl) ?_
    refine lv_iload_n S.x S.b d_Mpr_branch_122 rfl (lv_at hl 3 rfl) ?_
    refine lv_iconst (v := 2) S.x S.b d_Mpr_branch_123 (by decide) ?_
    refine lv_irem S.x S.b d_Mpr_branch_124 (fun hz0 => by have hz1 := i_eq.mp hz0; omega) ?_
    refine lv_topi (fun z18 ez18 => ?_)
    have lz18 := Int32.le_toInt z18
    have uz18 := Int32.toInt_lt z18
    refine lv_if_ne (tgt := 132) S.x S.b d_Mpr_branch_125 (by decide) (fun c19 => ?_) (fun c19 => ?_)
    · have nc19 : ¬ z18.toInt = (0 : Int) := mt (i_eq (x := z18) (y := 0)).mpr c19
      refine lv_iconst (v := 0) S.x S.b d_Mpr_branch_132 (by decide) ?_
      refine lv_icmp_ne (tgt := 151) S.x S.b d_Mpr_branch_133 (by decide) (fun c20 => ?_) (fun c20 => ?_)
      · have nc20 : ¬ x74_5.toInt = (0 : Int) := mt (i_eq (x := x74_5) (y := 0)).mpr c20
        refine lv_aload_n S.x S.b d_Mpr_branch_151 rfl (lv_at hl 1 rfl) ?_
        refine px_get S k_Mpr hT hw 0 0 11 (v := .int (qf 11)) rfl rfl rfl (by decide) m11_2 d_Mpr_branch_152 ?_
        refine lv_iconst (v := 4) S.x S.b d_Mpr_branch_155 (by decide) ?_
        refine lv_iadd S.x S.b d_Mpr_branch_156 ?_
        have lr21 := Int32.le_toInt (qf 11)
        have ur21 := Int32.toInt_lt (qf 11)
        refine lv_topi (fun z22 ez22 => ?_)
        have tz22 : z22.toInt = ((qf 11).toInt + (4 : Int) + 2147483648) % 4294967296 - 2147483648 := by rw [ez22]; exact i_add (qf 11) 4
        have lz22 := Int32.le_toInt z22
        have uz22 := Int32.toInt_lt z22
        try replace tz22 : z22.toInt = (qf 11).toInt + (4 : Int) := by omega
        exact px_iret (v := z22) S hr rfl hlk hAe hw (Nat.le_of_ble_eq_true rfl) (Nat.le_of_ble_eq_true rfl) (⟨qf, qa, rfl, (show (qf 2).toInt = (qf 2).toInt ∨ (qf 2).toInt = 7 from by first | with_reducible rfl | with_reducible assumption | omega), (show (qf 1).toInt = (qf 1).toInt from rfl), (show (qf 4).toInt = (qf 4).toInt from rfl), (show (qf 5).toInt = (qf 5).toInt from rfl), (show (qf 6).toInt = (qf 6).toInt from rfl), (show (qf 7).toInt = (qf 7).toInt from rfl), (show (qf 10).toInt = (qf 10).toInt from rfl), (show (qf 11).toInt = (qf 11).toInt from rfl), (show (qf 12).toInt = (qf 12).toInt from rfl), (show (qf 13).toInt = (qf 13).toInt from rfl), (show (qf 14).toInt = (qf 14).toInt from rfl), (show (qf 21).toInt = (qf 21).toInt from rfl), (show (qf 23).toInt = (qf 23).toInt from rfl), (show (qf 24).toInt = (qf 24).toInt from rfl)⟩) d_Mpr_branch_157
      · have nc20 : x74_5.toInt = (0 : Int) := (i_eq (x := x74_5) (y := 0)).mp c20
        refine lv_aload_n S.x S.b d_Mpr_branch_136 rfl (lv_at hl 1 rfl) ?_
        refine lv_aload_n S.x S.b d_Mpr_branch_137 rfl (lv_at hl 1 rfl) ?_
        refine px_get S k_Mpr hT hw 0 0 11 (v := .int (qf 11)) rfl rfl rfl (by decide) m11_2 d_Mpr_branch_138 ?_
        refine lv_iload S.x S.b d_Mpr_branch_141 (lv_at hl 0 rfl) ?_
        refine lv_iadd S.x S.b d_Mpr_branch_143 ?_
        have lr23 := Int32.le_toInt (qf 11)
        have ur23 := Int32.toInt_lt (qf 11)
        refine lv_topi (fun z24 ez24 => ?_)
        have tz24 : z24.toInt = ((qf 11).toInt + z17.toInt + 2147483648) % 4294967296 - 2147483648 := by rw [ez24]; exact i_add (qf 11) z17
        have lz24 := Int32.le_toInt z24
        have uz24 := Int32.toInt_lt z24
        try replace tz24 : z24.toInt = (qf 11).toInt + z17.toInt := by omega
        refine lv_iconst (v := 0) S.x S.b d_Mpr_branch_144 (by decide) ?_
        refine px_calli (pr := []) (px_runV (As := [.int z24, .int 0]) (rest := []) S (c_mr_jump l D cs (0 : Int) q qr qg qf qa h r g tf ta pf na ma wa cf ca ef ea xf xa z24 0  (show 0 ≤ (0 : Int) from by first | decide | omega) (show (0 : Int) < 32 from by first | decide | omega) _) hT (pr := []) (pcs := [wd_Mpr cs q qr (fun k => if k = 0 then (some h) else none) qf qa qg, wdP cs h r g tf ta pf na ma wa cf ca ef ea xf xa]) hw (oX_call (P := (fun A U H => (oP A g U H))) (pr := []) oG_P hw hA hP) (px_recv hT hw 0 0 rfl rfl rfl) m13_221 m13_218 m13_220 ms_15_5 m1_22 q_Mpr_jump ⟨Nat.le_of_ble_eq_true rfl, Nat.le_of_ble_eq_true rfl⟩ hl.1 rfl (Nat.le_of_ble_eq_true rfl) d_Mpr_branch_145 ⟨Nat.le_of_ble_eq_true rfl, Nat.le_of_ble_eq_true rfl⟩) hw hA (fun v30 p29 H locs hp29 hw => ?_)
        obtain ⟨qf27, qa28, rfl, e31, e32, e33, e34, e35, e36, e37, e38, e39, e40, e41, e42, e43, e44⟩ := hp29
        replace e31 : (qf27 2).toInt = (qf 2).toInt ∨ (qf27 2).toInt = 7 := e31
        replace e32 : (qf27 1).toInt = (qf 1).toInt := e32
        replace e33 : (qf27 4).toInt = (qf 4).toInt := e33
        replace e34 : (qf27 5).toInt = (qf 5).toInt := e34
        replace e35 : (qf27 6).toInt = (qf 6).toInt := e35
        replace e36 : (qf27 7).toInt = (qf 7).toInt := e36
        replace e37 : (qf27 10).toInt = (qf 10).toInt := e37
        replace e38 : (qf27 11).toInt = (qf 11).toInt := e38
        replace e39 : (qf27 12).toInt = (qf 12).toInt := e39
        replace e40 : (qf27 13).toInt = (qf 13).toInt := e40
        replace e41 : (qf27 14).toInt = (qf 14).toInt := e41
        replace e42 : (qf27 21).toInt = (qf 21).toInt := e42
        replace e43 : (qf27 23).toInt = (qf 23).toInt := e43
        replace e44 : (qf27 24).toInt = (qf 24).toInt := e44
        replace hw : pw D A s.heap H locs [wd_Mpr cs q qr (fun k => if k = 0 then (some h) else none) qf27 qa28 qg, wdP cs h r g tf ta pf na ma wa cf ca ef ea xf xa] := hw
        have lv30 := Int32.le_toInt v30
        have uv30 := Int32.toInt_lt v30
        refine lv_goto (tgt := 157) S.x S.b d_Mpr_branch_148 (by decide) ?_
        exact px_iret (v := v30) S hr rfl hlk hAe hw (Nat.le_of_ble_eq_true rfl) (Nat.le_of_ble_eq_true rfl) (⟨qf27, qa28, rfl, (show (qf27 2).toInt = (qf 2).toInt ∨ (qf27 2).toInt = 7 from by first | exact e31 | omega), (show (qf27 1).toInt = (qf 1).toInt from by first | exact e32 | omega), (show (qf27 4).toInt = (qf 4).toInt from by first | exact e33 | omega), (show (qf27 5).toInt = (qf 5).toInt from by first | exact e34 | omega), (show (qf27 6).toInt = (qf 6).toInt from by first | exact e35 | omega), (show (qf27 7).toInt = (qf 7).toInt from by first | exact e36 | omega), (show (qf27 10).toInt = (qf 10).toInt from by first | exact e37 | omega), (show (qf27 11).toInt = (qf 11).toInt from by first | exact e38 | omega), (show (qf27 12).toInt = (qf 12).toInt from by first | exact e39 | omega), (show (qf27 13).toInt = (qf 13).toInt from by first | exact e40 | omega), (show (qf27 14).toInt = (qf 14).toInt from by first | exact e41 | omega), (show (qf27 21).toInt = (qf 21).toInt from by first | exact e42 | omega), (show (qf27 23).toInt = (qf 23).toInt from by first | exact e43 | omega), (show (qf27 24).toInt = (qf 24).toInt from by first | exact e44 | omega)⟩) d_Mpr_branch_157
    · have nc19 : z18.toInt = (0 : Int) := (i_eq (x := z18) (y := 0)).mp c19
      refine lv_iconst (v := 1) S.x S.b d_Mpr_branch_128 (by decide) ?_
      refine lv_goto (tgt := 133) S.x S.b d_Mpr_branch_129 (by decide) ?_
      refine lv_icmp_ne (tgt := 151) S.x S.b d_Mpr_branch_133 (by decide) (fun c45 => ?_) (fun c45 => ?_)
      · have nc45 : ¬ x74_5.toInt = (1 : Int) := mt (i_eq (x := x74_5) (y := 1)).mpr c45
        refine lv_aload_n S.x S.b d_Mpr_branch_151 rfl (lv_at hl 1 rfl) ?_
        refine px_get S k_Mpr hT hw 0 0 11 (v := .int (qf 11)) rfl rfl rfl (by decide) m11_2 d_Mpr_branch_152 ?_
        refine lv_iconst (v := 4) S.x S.b d_Mpr_branch_155 (by decide) ?_
        refine lv_iadd S.x S.b d_Mpr_branch_156 ?_
        have lr46 := Int32.le_toInt (qf 11)
        have ur46 := Int32.toInt_lt (qf 11)
        refine lv_topi (fun z47 ez47 => ?_)
        have tz47 : z47.toInt = ((qf 11).toInt + (4 : Int) + 2147483648) % 4294967296 - 2147483648 := by rw [ez47]; exact i_add (qf 11) 4
        have lz47 := Int32.le_toInt z47
        have uz47 := Int32.toInt_lt z47
        try replace tz47 : z47.toInt = (qf 11).toInt + (4 : Int) := by omega
        exact px_iret (v := z47) S hr rfl hlk hAe hw (Nat.le_of_ble_eq_true rfl) (Nat.le_of_ble_eq_true rfl) (⟨qf, qa, rfl, (show (qf 2).toInt = (qf 2).toInt ∨ (qf 2).toInt = 7 from by first | with_reducible rfl | with_reducible assumption | omega), (show (qf 1).toInt = (qf 1).toInt from rfl), (show (qf 4).toInt = (qf 4).toInt from rfl), (show (qf 5).toInt = (qf 5).toInt from rfl), (show (qf 6).toInt = (qf 6).toInt from rfl), (show (qf 7).toInt = (qf 7).toInt from rfl), (show (qf 10).toInt = (qf 10).toInt from rfl), (show (qf 11).toInt = (qf 11).toInt from rfl), (show (qf 12).toInt = (qf 12).toInt from rfl), (show (qf 13).toInt = (qf 13).toInt from rfl), (show (qf 14).toInt = (qf 14).toInt from rfl), (show (qf 21).toInt = (qf 21).toInt from rfl), (show (qf 23).toInt = (qf 23).toInt from rfl), (show (qf 24).toInt = (qf 24).toInt from rfl)⟩) d_Mpr_branch_157
      · have nc45 : x74_5.toInt = (1 : Int) := (i_eq (x := x74_5) (y := 1)).mp c45
        refine lv_aload_n S.x S.b d_Mpr_branch_136 rfl (lv_at hl 1 rfl) ?_
        refine lv_aload_n S.x S.b d_Mpr_branch_137 rfl (lv_at hl 1 rfl) ?_
        refine px_get S k_Mpr hT hw 0 0 11 (v := .int (qf 11)) rfl rfl rfl (by decide) m11_2 d_Mpr_branch_138 ?_
        refine lv_iload S.x S.b d_Mpr_branch_141 (lv_at hl 0 rfl) ?_
        refine lv_iadd S.x S.b d_Mpr_branch_143 ?_
        have lr48 := Int32.le_toInt (qf 11)
        have ur48 := Int32.toInt_lt (qf 11)
        refine lv_topi (fun z49 ez49 => ?_)
        have tz49 : z49.toInt = ((qf 11).toInt + z17.toInt + 2147483648) % 4294967296 - 2147483648 := by rw [ez49]; exact i_add (qf 11) z17
        have lz49 := Int32.le_toInt z49
        have uz49 := Int32.toInt_lt z49
        try replace tz49 : z49.toInt = (qf 11).toInt + z17.toInt := by omega
        refine lv_iconst (v := 0) S.x S.b d_Mpr_branch_144 (by decide) ?_
        refine px_calli (pr := []) (px_runV (As := [.int z49, .int 0]) (rest := []) S (c_mr_jump l D cs (0 : Int) q qr qg qf qa h r g tf ta pf na ma wa cf ca ef ea xf xa z49 0  (show 0 ≤ (0 : Int) from by first | decide | omega) (show (0 : Int) < 32 from by first | decide | omega) _) hT (pr := []) (pcs := [wd_Mpr cs q qr (fun k => if k = 0 then (some h) else none) qf qa qg, wdP cs h r g tf ta pf na ma wa cf ca ef ea xf xa]) hw (oX_call (P := (fun A U H => (oP A g U H))) (pr := []) oG_P hw hA hP) (px_recv hT hw 0 0 rfl rfl rfl) m13_221 m13_218 m13_220 ms_15_5 m1_22 q_Mpr_jump ⟨Nat.le_of_ble_eq_true rfl, Nat.le_of_ble_eq_true rfl⟩ hl.1 rfl (Nat.le_of_ble_eq_true rfl) d_Mpr_branch_145 ⟨Nat.le_of_ble_eq_true rfl, Nat.le_of_ble_eq_true rfl⟩) hw hA (fun v55 p54 H locs hp54 hw => ?_)
        obtain ⟨qf52, qa53, rfl, e56, e57, e58, e59, e60, e61, e62, e63, e64, e65, e66, e67, e68, e69⟩ := hp54
        replace e56 : (qf52 2).toInt = (qf 2).toInt ∨ (qf52 2).toInt = 7 := e56
        replace e57 : (qf52 1).toInt = (qf 1).toInt := e57
        replace e58 : (qf52 4).toInt = (qf 4).toInt := e58
        replace e59 : (qf52 5).toInt = (qf 5).toInt := e59
        replace e60 : (qf52 6).toInt = (qf 6).toInt := e60
        replace e61 : (qf52 7).toInt = (qf 7).toInt := e61
        replace e62 : (qf52 10).toInt = (qf 10).toInt := e62
        replace e63 : (qf52 11).toInt = (qf 11).toInt := e63
        replace e64 : (qf52 12).toInt = (qf 12).toInt := e64
        replace e65 : (qf52 13).toInt = (qf 13).toInt := e65
        replace e66 : (qf52 14).toInt = (qf 14).toInt := e66
        replace e67 : (qf52 21).toInt = (qf 21).toInt := e67
        replace e68 : (qf52 23).toInt = (qf 23).toInt := e68
        replace e69 : (qf52 24).toInt = (qf 24).toInt := e69
        replace hw : pw D A s.heap H locs [wd_Mpr cs q qr (fun k => if k = 0 then (some h) else none) qf52 qa53 qg, wdP cs h r g tf ta pf na ma wa cf ca ef ea xf xa] := hw
        have lv55 := Int32.le_toInt v55
        have uv55 := Int32.toInt_lt v55
        refine lv_goto (tgt := 157) S.x S.b d_Mpr_branch_148 (by decide) ?_
        exact px_iret (v := v55) S hr rfl hlk hAe hw (Nat.le_of_ble_eq_true rfl) (Nat.le_of_ble_eq_true rfl) (⟨qf52, qa53, rfl, (show (qf52 2).toInt = (qf 2).toInt ∨ (qf52 2).toInt = 7 from by first | exact e56 | omega), (show (qf52 1).toInt = (qf 1).toInt from by first | exact e57 | omega), (show (qf52 4).toInt = (qf 4).toInt from by first | exact e58 | omega), (show (qf52 5).toInt = (qf 5).toInt from by first | exact e59 | omega), (show (qf52 6).toInt = (qf 6).toInt from by first | exact e60 | omega), (show (qf52 7).toInt = (qf 7).toInt from by first | exact e61 | omega), (show (qf52 10).toInt = (qf 10).toInt from by first | exact e62 | omega), (show (qf52 11).toInt = (qf 11).toInt from by first | exact e63 | omega), (show (qf52 12).toInt = (qf 12).toInt from by first | exact e64 | omega), (show (qf52 13).toInt = (qf 13).toInt from by first | exact e65 | omega), (show (qf52 14).toInt = (qf 14).toInt from by first | exact e66 | omega), (show (qf52 21).toInt = (qf 21).toInt from by first | exact e67 | omega), (show (qf52 23).toInt = (qf 23).toInt from by first | exact e68 | omega), (show (qf52 24).toInt = (qf 24).toInt from by first | exact e69 | omega)⟩) d_Mpr_branch_157
  refine lv_iload_n S.x S.b d_Mpr_branch_0 rfl (lv_at hl 2 rfl) ?_
  refine lv_iconst (v := 2) S.x S.b d_Mpr_branch_1 (by decide) ?_
  refine lv_icmp_eq (tgt := 10) S.x S.b d_Mpr_branch_2 (by decide) (fun c70 => ?_) (fun c70 => ?_)
  · have nc70 : p1.toInt = (2 : Int) := (i_eq (x := p1) (y := 2)).mp c70
    refine lv_aload_n S.x S.b d_Mpr_branch_10 rfl (lv_at hl 0 rfl) ?_
    refine px_calli (pr := []) (px_runV (As := []) (rest := []) S (c_mr_bad l D cs (0 : Int) q qr qg qa qf h r g tf ta pf na ma wa cf ca ef ea xf xa    _) hT (pr := []) (pcs := [wd_Mpr cs q qr (fun k => if k = 0 then (some h) else none) qf qa qg, wdP cs h r g tf ta pf na ma wa cf ca ef ea xf xa]) hw (oX_call (P := (fun A U H => (oP A g U H))) (pr := []) oG_P hw hA hP) (px_recv hT hw 0 0 rfl rfl rfl) m13_225 m13_222 m13_224 ms_15_6 m1_22 q_Mpr_bad ⟨Nat.le_of_ble_eq_true rfl, Nat.le_of_ble_eq_true rfl⟩ hl.1 rfl (Nat.le_of_ble_eq_true rfl) d_Mpr_branch_11 ⟨Nat.le_of_ble_eq_true rfl, Nat.le_of_ble_eq_true rfl⟩) hw hA (fun v74 p73 H locs hp73 hw => ?_)
    obtain ⟨qf72, rfl, e75, e76, e77, e78, e79, e80, e81, e82, e83, e84, e85, e86, e87, e88⟩ := hp73
    replace e75 : (qf72 2).toInt = 7 := e75
    replace e76 : (qf72 1).toInt = (qf 1).toInt := e76
    replace e77 : (qf72 4).toInt = (qf 4).toInt := e77
    replace e78 : (qf72 5).toInt = (qf 5).toInt := e78
    replace e79 : (qf72 6).toInt = (qf 6).toInt := e79
    replace e80 : (qf72 7).toInt = (qf 7).toInt := e80
    replace e81 : (qf72 10).toInt = (qf 10).toInt := e81
    replace e82 : (qf72 11).toInt = (qf 11).toInt := e82
    replace e83 : (qf72 12).toInt = (qf 12).toInt := e83
    replace e84 : (qf72 13).toInt = (qf 13).toInt := e84
    replace e85 : (qf72 14).toInt = (qf 14).toInt := e85
    replace e86 : (qf72 21).toInt = (qf 21).toInt := e86
    replace e87 : (qf72 23).toInt = (qf 23).toInt := e87
    replace e88 : (qf72 24).toInt = (qf 24).toInt := e88
    replace hw : pw D A s.heap H locs [wd_Mpr cs q qr (fun k => if k = 0 then (some h) else none) qf72 qa qg, wdP cs h r g tf ta pf na ma wa cf ca ef ea xf xa] := hw
    have lv74 := Int32.le_toInt v74
    have uv74 := Int32.toInt_lt v74
    exact px_iret (v := v74) S hr rfl hlk hAe hw (Nat.le_of_ble_eq_true rfl) (Nat.le_of_ble_eq_true rfl) (⟨qf72, qa, rfl, (show (qf72 2).toInt = (qf 2).toInt ∨ (qf72 2).toInt = 7 from by first | with_reducible rfl | with_reducible assumption | omega), (show (qf72 1).toInt = (qf 1).toInt from by first | exact e76 | omega), (show (qf72 4).toInt = (qf 4).toInt from by first | exact e77 | omega), (show (qf72 5).toInt = (qf 5).toInt from by first | exact e78 | omega), (show (qf72 6).toInt = (qf 6).toInt from by first | exact e79 | omega), (show (qf72 7).toInt = (qf 7).toInt from by first | exact e80 | omega), (show (qf72 10).toInt = (qf 10).toInt from by first | exact e81 | omega), (show (qf72 11).toInt = (qf 11).toInt from by first | exact e82 | omega), (show (qf72 12).toInt = (qf 12).toInt from by first | exact e83 | omega), (show (qf72 13).toInt = (qf 13).toInt from by first | exact e84 | omega), (show (qf72 14).toInt = (qf 14).toInt from by first | exact e85 | omega), (show (qf72 21).toInt = (qf 21).toInt from by first | exact e86 | omega), (show (qf72 23).toInt = (qf 23).toInt from by first | exact e87 | omega), (show (qf72 24).toInt = (qf 24).toInt from by first | exact e88 | omega)⟩) d_Mpr_branch_14
  · have nc70 : ¬ p1.toInt = (2 : Int) := mt (i_eq (x := p1) (y := 2)).mpr c70
    refine lv_iload_n S.x S.b d_Mpr_branch_5 rfl (lv_at hl 2 rfl) ?_
    refine lv_iconst (v := 3) S.x S.b d_Mpr_branch_6 (by decide) ?_
    refine lv_icmp_ne (tgt := 15) S.x S.b d_Mpr_branch_7 (by decide) (fun c89 => ?_) (fun c89 => ?_)
    · have nc89 : ¬ p1.toInt = (3 : Int) := mt (i_eq (x := p1) (y := 3)).mpr c89
      refine lv_iload_n S.x S.b d_Mpr_branch_15 rfl (lv_at hl 2 rfl) ?_
      refine lv_iconst (v := 2) S.x S.b d_Mpr_branch_16 (by decide) ?_
      refine lv_icmp_ge (tgt := 34) S.x S.b d_Mpr_branch_17 (by decide) (fun c90 => ?_) (fun c90 => ?_)
      · have nc90 : (2 : Int) ≤ p1.toInt := (i_le (x := 2) (y := p1)).mp c90
        refine lv_iload_n S.x S.b d_Mpr_branch_34 rfl (lv_at hl 2 rfl) ?_
        refine lv_bipush (v := 6) S.x S.b d_Mpr_branch_35 (by decide) ?_
        refine lv_icmp_ge (tgt := 54) S.x S.b d_Mpr_branch_37 (by decide) (fun c91 => ?_) (fun c91 => ?_)
        · have nc91 : (6 : Int) ≤ p1.toInt := (i_le (x := 6) (y := p1)).mp c91
          refine lv_iload_n S.x S.b d_Mpr_branch_54 rfl (lv_at hl 3 rfl) ?_
          refine px_calll (pr := [wd_Mpr cs q qr (fun k => if k = 0 then (some h) else none) qf qa qg, wdP cs h r g tf ta pf na ma wa cf ca ef ea xf xa]) (px_runS (As := [.int p2]) (rest := []) S (c_mr_plain l D cs  p2   _) hT (pr := [wd_Mpr cs q qr (fun k => if k = 0 then (some h) else none) qf qa qg, wdP cs h r g tf ta pf na ma wa cf ca ef ea xf xa]) (pcs := []) hw px_X.tt m13_188 m13_186 m13_187 m1_22 q_Mpr_plain ⟨Nat.le_of_ble_eq_true rfl, Nat.le_of_ble_eq_true rfl⟩ hl.1 rfl (Nat.le_of_ble_eq_true rfl) d_Mpr_branch_55 ⟨Nat.le_of_ble_eq_true rfl, Nat.le_of_ble_eq_true rfl⟩) hw hA (fun v93 p92 H locs hp92 hw => ?_)
          obtain ⟨rfl, e94⟩ := hp92
          replace e94 : v93.toInt = p2.toInt % 4294967296 := e94
          replace hw : pw D A s.heap H locs [wd_Mpr cs q qr (fun k => if k = 0 then (some h) else none) qf qa qg, wdP cs h r g tf ta pf na ma wa cf ca ef ea xf xa] := hw
          refine lv_iload S.x S.b d_Mpr_branch_58 (lv_at hl 4 rfl) ?_
          refine px_calll (pr := [wd_Mpr cs q qr (fun k => if k = 0 then (some h) else none) qf qa qg, wdP cs h r g tf ta pf na ma wa cf ca ef ea xf xa]) (px_runS (As := [.int p3]) (rest := [.long v93]) S (c_mr_plain l D cs  p3   _) hT (pr := [wd_Mpr cs q qr (fun k => if k = 0 then (some h) else none) qf qa qg, wdP cs h r g tf ta pf na ma wa cf ca ef ea xf xa]) (pcs := []) hw px_X.tt m13_188 m13_186 m13_187 m1_22 q_Mpr_plain ⟨Nat.le_of_ble_eq_true rfl, Nat.le_of_ble_eq_true rfl⟩ hl.1 rfl (Nat.le_of_ble_eq_true rfl) d_Mpr_branch_60 ⟨Nat.le_of_ble_eq_true rfl, Nat.le_of_ble_eq_true rfl⟩) hw hA (fun v96 p95 H locs hp95 hw => ?_)
          obtain ⟨rfl, e97⟩ := hp95
          replace e97 : v96.toInt = p3.toInt % 4294967296 := e97
          replace hw : pw D A s.heap H locs [wd_Mpr cs q qr (fun k => if k = 0 then (some h) else none) qf qa qg, wdP cs h r g tf ta pf na ma wa cf ca ef ea xf xa] := hw
          refine W.lcmp S.x S.b d_Mpr_branch_63 ?_
          refine lv_topi (fun z98 ez98 => ?_)
          have lz98 := Int32.le_toInt z98
          have uz98 := Int32.toInt_lt z98
          refine lv_if_ge (tgt := 71) S.x S.b d_Mpr_branch_64 (by decide) (fun c99 => ?_) (fun c99 => ?_)
          · have nc99 : (0 : Int) ≤ z98.toInt := (i_le (x := 0) (y := z98)).mp c99
            refine lv_iconst (v := 0) S.x S.b d_Mpr_branch_71 (by decide) ?_
            refine lv_istore (lv' := [(5, .int 0), (0, .ref q), (1, .int p0), (2, .int p1), (3, .int p2), (4, .int p3)]) S.x S.b d_Mpr_branch_72 hl (by decide) rfl (fun ls hl => ?_)
            exact J74 (0 : Int32) _ _ ls (show 0 ≤ (0 : Int) from by first | decide | omega) (show (0 : Int) ≤ 1 from by first | decide | omega) hw (lv_sub hl [1, 2, 3, 4, 5, 0] rfl)
          · have nc99 : ¬ (0 : Int) ≤ z98.toInt := mt (i_le (x := 0) (y := z98)).mpr c99
            refine lv_iconst (v := 1) S.x S.b d_Mpr_branch_67 (by decide) ?_
            refine lv_goto (tgt := 72) S.x S.b d_Mpr_branch_68 (by decide) ?_
            refine lv_istore (lv' := [(5, .int 1), (0, .ref q), (1, .int p0), (2, .int p1), (3, .int p2), (4, .int p3)]) S.x S.b d_Mpr_branch_72 hl (by decide) rfl (fun ls hl => ?_)
            exact J74 (1 : Int32) _ _ ls (show 0 ≤ (1 : Int) from by first | decide | omega) (show (1 : Int) ≤ 1 from by first | decide | omega) hw (lv_sub hl [1, 2, 3, 4, 5, 0] rfl)
        · have nc91 : ¬ (6 : Int) ≤ p1.toInt := mt (i_le (x := 6) (y := p1)).mpr c91
          refine lv_iload_n S.x S.b d_Mpr_branch_40 rfl (lv_at hl 3 rfl) ?_
          refine lv_iload S.x S.b d_Mpr_branch_41 (lv_at hl 4 rfl) ?_
          refine lv_icmp_ge (tgt := 50) S.x S.b d_Mpr_branch_43 (by decide) (fun c100 => ?_) (fun c100 => ?_)
          · have nc100 : p3.toInt ≤ p2.toInt := (i_le (x := p3) (y := p2)).mp c100
            refine lv_iconst (v := 0) S.x S.b d_Mpr_branch_50 (by decide) ?_
            refine lv_goto (tgt := 72) S.x S.b d_Mpr_branch_51 (by decide) ?_
            refine lv_istore (lv' := [(5, .int 0), (0, .ref q), (1, .int p0), (2, .int p1), (3, .int p2), (4, .int p3)]) S.x S.b d_Mpr_branch_72 hl (by decide) rfl (fun ls hl => ?_)
            exact J74 (0 : Int32) _ _ ls (show 0 ≤ (0 : Int) from by first | decide | omega) (show (0 : Int) ≤ 1 from by first | decide | omega) hw (lv_sub hl [1, 2, 3, 4, 5, 0] rfl)
          · have nc100 : ¬ p3.toInt ≤ p2.toInt := mt (i_le (x := p3) (y := p2)).mpr c100
            refine lv_iconst (v := 1) S.x S.b d_Mpr_branch_46 (by decide) ?_
            refine lv_goto (tgt := 72) S.x S.b d_Mpr_branch_47 (by decide) ?_
            refine lv_istore (lv' := [(5, .int 1), (0, .ref q), (1, .int p0), (2, .int p1), (3, .int p2), (4, .int p3)]) S.x S.b d_Mpr_branch_72 hl (by decide) rfl (fun ls hl => ?_)
            exact J74 (1 : Int32) _ _ ls (show 0 ≤ (1 : Int) from by first | decide | omega) (show (1 : Int) ≤ 1 from by first | decide | omega) hw (lv_sub hl [1, 2, 3, 4, 5, 0] rfl)
      · have nc90 : ¬ (2 : Int) ≤ p1.toInt := mt (i_le (x := 2) (y := p1)).mpr c90
        refine lv_iload_n S.x S.b d_Mpr_branch_20 rfl (lv_at hl 3 rfl) ?_
        refine lv_iload S.x S.b d_Mpr_branch_21 (lv_at hl 4 rfl) ?_
        refine lv_icmp_ne (tgt := 30) S.x S.b d_Mpr_branch_23 (by decide) (fun c101 => ?_) (fun c101 => ?_)
        · have nc101 : ¬ p2.toInt = p3.toInt := mt (i_eq (x := p2) (y := p3)).mpr c101
          refine lv_iconst (v := 0) S.x S.b d_Mpr_branch_30 (by decide) ?_
          refine lv_goto (tgt := 72) S.x S.b d_Mpr_branch_31 (by decide) ?_
          refine lv_istore (lv' := [(5, .int 0), (0, .ref q), (1, .int p0), (2, .int p1), (3, .int p2), (4, .int p3)]) S.x S.b d_Mpr_branch_72 hl (by decide) rfl (fun ls hl => ?_)
          exact J74 (0 : Int32) _ _ ls (show 0 ≤ (0 : Int) from by first | decide | omega) (show (0 : Int) ≤ 1 from by first | decide | omega) hw (lv_sub hl [1, 2, 3, 4, 5, 0] rfl)
        · have nc101 : p2.toInt = p3.toInt := (i_eq (x := p2) (y := p3)).mp c101
          refine lv_iconst (v := 1) S.x S.b d_Mpr_branch_26 (by decide) ?_
          refine lv_goto (tgt := 72) S.x S.b d_Mpr_branch_27 (by decide) ?_
          refine lv_istore (lv' := [(5, .int 1), (0, .ref q), (1, .int p0), (2, .int p1), (3, .int p2), (4, .int p3)]) S.x S.b d_Mpr_branch_72 hl (by decide) rfl (fun ls hl => ?_)
          exact J74 (1 : Int32) _ _ ls (show 0 ≤ (1 : Int) from by first | decide | omega) (show (1 : Int) ≤ 1 from by first | decide | omega) hw (lv_sub hl [1, 2, 3, 4, 5, 0] rfl)
    · have nc89 : p1.toInt = (3 : Int) := (i_eq (x := p1) (y := 3)).mp c89
      refine lv_aload_n S.x S.b d_Mpr_branch_10 rfl (lv_at hl 0 rfl) ?_
      refine px_calli (pr := []) (px_runV (As := []) (rest := []) S (c_mr_bad l D cs (0 : Int) q qr qg qa qf h r g tf ta pf na ma wa cf ca ef ea xf xa    _) hT (pr := []) (pcs := [wd_Mpr cs q qr (fun k => if k = 0 then (some h) else none) qf qa qg, wdP cs h r g tf ta pf na ma wa cf ca ef ea xf xa]) hw (oX_call (P := (fun A U H => (oP A g U H))) (pr := []) oG_P hw hA hP) (px_recv hT hw 0 0 rfl rfl rfl) m13_225 m13_222 m13_224 ms_15_6 m1_22 q_Mpr_bad ⟨Nat.le_of_ble_eq_true rfl, Nat.le_of_ble_eq_true rfl⟩ hl.1 rfl (Nat.le_of_ble_eq_true rfl) d_Mpr_branch_11 ⟨Nat.le_of_ble_eq_true rfl, Nat.le_of_ble_eq_true rfl⟩) hw hA (fun v105 p104 H locs hp104 hw => ?_)
      obtain ⟨qf103, rfl, e106, e107, e108, e109, e110, e111, e112, e113, e114, e115, e116, e117, e118, e119⟩ := hp104
      replace e106 : (qf103 2).toInt = 7 := e106
      replace e107 : (qf103 1).toInt = (qf 1).toInt := e107
      replace e108 : (qf103 4).toInt = (qf 4).toInt := e108
      replace e109 : (qf103 5).toInt = (qf 5).toInt := e109
      replace e110 : (qf103 6).toInt = (qf 6).toInt := e110
      replace e111 : (qf103 7).toInt = (qf 7).toInt := e111
      replace e112 : (qf103 10).toInt = (qf 10).toInt := e112
      replace e113 : (qf103 11).toInt = (qf 11).toInt := e113
      replace e114 : (qf103 12).toInt = (qf 12).toInt := e114
      replace e115 : (qf103 13).toInt = (qf 13).toInt := e115
      replace e116 : (qf103 14).toInt = (qf 14).toInt := e116
      replace e117 : (qf103 21).toInt = (qf 21).toInt := e117
      replace e118 : (qf103 23).toInt = (qf 23).toInt := e118
      replace e119 : (qf103 24).toInt = (qf 24).toInt := e119
      replace hw : pw D A s.heap H locs [wd_Mpr cs q qr (fun k => if k = 0 then (some h) else none) qf103 qa qg, wdP cs h r g tf ta pf na ma wa cf ca ef ea xf xa] := hw
      have lv105 := Int32.le_toInt v105
      have uv105 := Int32.toInt_lt v105
      exact px_iret (v := v105) S hr rfl hlk hAe hw (Nat.le_of_ble_eq_true rfl) (Nat.le_of_ble_eq_true rfl) (⟨qf103, qa, rfl, (show (qf103 2).toInt = (qf 2).toInt ∨ (qf103 2).toInt = 7 from by first | with_reducible rfl | with_reducible assumption | omega), (show (qf103 1).toInt = (qf 1).toInt from by first | exact e107 | omega), (show (qf103 4).toInt = (qf 4).toInt from by first | exact e108 | omega), (show (qf103 5).toInt = (qf 5).toInt from by first | exact e109 | omega), (show (qf103 6).toInt = (qf 6).toInt from by first | exact e110 | omega), (show (qf103 7).toInt = (qf 7).toInt from by first | exact e111 | omega), (show (qf103 10).toInt = (qf 10).toInt from by first | exact e112 | omega), (show (qf103 11).toInt = (qf 11).toInt from by first | exact e113 | omega), (show (qf103 12).toInt = (qf 12).toInt from by first | exact e114 | omega), (show (qf103 13).toInt = (qf 13).toInt from by first | exact e115 | omega), (show (qf103 14).toInt = (qf 14).toInt from by first | exact e116 | omega), (show (qf103 21).toInt = (qf 21).toInt from by first | exact e117 | omega), (show (qf103 23).toInt = (qf 23).toInt from by first | exact e118 | omega), (show (qf103 24).toInt = (qf 24).toInt from by first | exact e119 | omega)⟩) d_Mpr_branch_14
abbrev b_Mpr_load : ByteArray := prog_15_method_37_code
def y_Mpr_load : MethodName := ⟨"HomeSystemModel$Process", "load", "(III)I"⟩
theorem d_Mpr_load_0 : decode b_Mpr_load 0 = .ok (.iload_n 1, 1) := by decide +kernel
theorem d_Mpr_load_1 : decode b_Mpr_load 1 = .ok (.iconst 4, 1) := by decide +kernel
theorem d_Mpr_load_2 : decode b_Mpr_load 2 = .ok (.irem, 1) := by decide +kernel
theorem d_Mpr_load_3 : decode b_Mpr_load 3 = .ok (.ifCond .ne 7, 3) := by decide +kernel
theorem d_Mpr_load_6 : decode b_Mpr_load 6 = .ok (.iconst 1, 1) := by decide +kernel
theorem d_Mpr_load_7 : decode b_Mpr_load 7 = .ok (.goto 15, 3) := by decide +kernel
theorem d_Mpr_load_10 : decode b_Mpr_load 10 = .ok (.iload_n 1, 1) := by decide +kernel
theorem d_Mpr_load_11 : decode b_Mpr_load 11 = .ok (.iconst 4, 1) := by decide +kernel
theorem d_Mpr_load_12 : decode b_Mpr_load 12 = .ok (.irem, 1) := by decide +kernel
theorem d_Mpr_load_13 : decode b_Mpr_load 13 = .ok (.iconst 1, 1) := by decide +kernel
theorem d_Mpr_load_14 : decode b_Mpr_load 14 = .ok (.if_icmp .ne 7, 3) := by decide +kernel
theorem d_Mpr_load_17 : decode b_Mpr_load 17 = .ok (.iconst 2, 1) := by decide +kernel
theorem d_Mpr_load_18 : decode b_Mpr_load 18 = .ok (.goto 4, 3) := by decide +kernel
theorem d_Mpr_load_21 : decode b_Mpr_load 21 = .ok (.iconst 4, 1) := by decide +kernel
theorem d_Mpr_load_22 : decode b_Mpr_load 22 = .ok (.istore 4, 2) := by decide +kernel
theorem d_Mpr_load_24 : decode b_Mpr_load 24 = .ok (.iload_n 1, 1) := by decide +kernel
theorem d_Mpr_load_25 : decode b_Mpr_load 25 = .ok (.iconst 3, 1) := by decide +kernel
theorem d_Mpr_load_26 : decode b_Mpr_load 26 = .ok (.if_icmp .eq 28, 3) := by decide +kernel
theorem d_Mpr_load_29 : decode b_Mpr_load 29 = .ok (.iload_n 1, 1) := by decide +kernel
theorem d_Mpr_load_30 : decode b_Mpr_load 30 = .ok (.iconst 5, 1) := by decide +kernel
theorem d_Mpr_load_31 : decode b_Mpr_load 31 = .ok (.if_icmp .gt 23, 3) := by decide +kernel
theorem d_Mpr_load_34 : decode b_Mpr_load 34 = .ok (.iload_n 3, 1) := by decide +kernel
theorem d_Mpr_load_35 : decode b_Mpr_load 35 = .ok (.iconst 0, 1) := by decide +kernel
theorem d_Mpr_load_36 : decode b_Mpr_load 36 = .ok (.iconst 1, 1) := by decide +kernel
theorem d_Mpr_load_37 : decode b_Mpr_load 37 = .ok (.invokestatic 264, 3) := by decide +kernel
theorem d_Mpr_load_40 : decode b_Mpr_load 40 = .ok (.iload 4, 2) := by decide +kernel
theorem d_Mpr_load_42 : decode b_Mpr_load 42 = .ok (.irem, 1) := by decide +kernel
theorem d_Mpr_load_43 : decode b_Mpr_load 43 = .ok (.ifCond .ne 11, 3) := by decide +kernel
theorem d_Mpr_load_46 : decode b_Mpr_load 46 = .ok (.aload_n 0, 1) := by decide +kernel
theorem d_Mpr_load_47 : decode b_Mpr_load 47 = .ok (.iload_n 3, 1) := by decide +kernel
theorem d_Mpr_load_48 : decode b_Mpr_load 48 = .ok (.invokevirtual 295, 3) := by decide +kernel
theorem d_Mpr_load_51 : decode b_Mpr_load 51 = .ok (.ifCond .ne 8, 3) := by decide +kernel
theorem d_Mpr_load_54 : decode b_Mpr_load 54 = .ok (.aload_n 0, 1) := by decide +kernel
theorem d_Mpr_load_55 : decode b_Mpr_load 55 = .ok (.invokevirtual 275, 3) := by decide +kernel
theorem d_Mpr_load_58 : decode b_Mpr_load 58 = .ok (.ireturn, 1) := by decide +kernel
theorem d_Mpr_load_59 : decode b_Mpr_load 59 = .ok (.bipush 8, 2) := by decide +kernel
theorem d_Mpr_load_61 : decode b_Mpr_load 61 = .ok (.iload_n 3, 1) := by decide +kernel
theorem d_Mpr_load_62 : decode b_Mpr_load 62 = .ok (.iconst 0, 1) := by decide +kernel
theorem d_Mpr_load_63 : decode b_Mpr_load 63 = .ok (.iconst 1, 1) := by decide +kernel
theorem d_Mpr_load_64 : decode b_Mpr_load 64 = .ok (.invokestatic 264, 3) := by decide +kernel
theorem d_Mpr_load_67 : decode b_Mpr_load 67 = .ok (.imul, 1) := by decide +kernel
theorem d_Mpr_load_68 : decode b_Mpr_load 68 = .ok (.istore 5, 2) := by decide +kernel
theorem d_Mpr_load_70 : decode b_Mpr_load 70 = .ok (.aload_n 0, 1) := by decide +kernel
theorem d_Mpr_load_71 : decode b_Mpr_load 71 = .ok (.iload_n 3, 1) := by decide +kernel
theorem d_Mpr_load_72 : decode b_Mpr_load 72 = .ok (.invokevirtual 258, 3) := by decide +kernel
theorem d_Mpr_load_75 : decode b_Mpr_load 75 = .ok (.iload 5, 2) := by decide +kernel
theorem d_Mpr_load_77 : decode b_Mpr_load 77 = .ok (.iload 5, 2) := by decide +kernel
theorem d_Mpr_load_79 : decode b_Mpr_load 79 = .ok (.bipush 8, 2) := by decide +kernel
theorem d_Mpr_load_81 : decode b_Mpr_load 81 = .ok (.iload 4, 2) := by decide +kernel
theorem d_Mpr_load_83 : decode b_Mpr_load 83 = .ok (.imul, 1) := by decide +kernel
theorem d_Mpr_load_84 : decode b_Mpr_load 84 = .ok (.iadd, 1) := by decide +kernel
theorem d_Mpr_load_85 : decode b_Mpr_load 85 = .ok (.iconst 1, 1) := by decide +kernel
theorem d_Mpr_load_86 : decode b_Mpr_load 86 = .ok (.isub, 1) := by decide +kernel
theorem d_Mpr_load_87 : decode b_Mpr_load 87 = .ok (.invokestatic 264, 3) := by decide +kernel
theorem d_Mpr_load_90 : decode b_Mpr_load 90 = .ok (.istore 6, 2) := by decide +kernel
theorem d_Mpr_load_92 : decode b_Mpr_load 92 = .ok (.iload_n 1, 1) := by decide +kernel
theorem d_Mpr_load_93 : decode b_Mpr_load 93 = .ok (.iconst 2, 1) := by decide +kernel
theorem d_Mpr_load_94 : decode b_Mpr_load 94 = .ok (.if_icmp .ge 23, 3) := by decide +kernel
theorem d_Mpr_load_97 : decode b_Mpr_load 97 = .ok (.iload 6, 2) := by decide +kernel
theorem d_Mpr_load_99 : decode b_Mpr_load 99 = .ok (.bipush 8, 2) := by decide +kernel
theorem d_Mpr_load_101 : decode b_Mpr_load 101 = .ok (.iload 4, 2) := by decide +kernel
theorem d_Mpr_load_103 : decode b_Mpr_load 103 = .ok (.imul, 1) := by decide +kernel
theorem d_Mpr_load_104 : decode b_Mpr_load 104 = .ok (.iconst 1, 1) := by decide +kernel
theorem d_Mpr_load_105 : decode b_Mpr_load 105 = .ok (.isub, 1) := by decide +kernel
theorem d_Mpr_load_106 : decode b_Mpr_load 106 = .ok (.ishr, 1) := by decide +kernel
theorem d_Mpr_load_107 : decode b_Mpr_load 107 = .ok (.iconst 1, 1) := by decide +kernel
theorem d_Mpr_load_108 : decode b_Mpr_load 108 = .ok (.iand, 1) := by decide +kernel
theorem d_Mpr_load_109 : decode b_Mpr_load 109 = .ok (.iconst 1, 1) := by decide +kernel
theorem d_Mpr_load_110 : decode b_Mpr_load 110 = .ok (.if_icmp .ne 7, 3) := by decide +kernel
theorem d_Mpr_load_113 : decode b_Mpr_load 113 = .ok (.iconst 1, 1) := by decide +kernel
theorem d_Mpr_load_114 : decode b_Mpr_load 114 = .ok (.goto 4, 3) := by decide +kernel
theorem d_Mpr_load_117 : decode b_Mpr_load 117 = .ok (.iconst 0, 1) := by decide +kernel
theorem d_Mpr_load_118 : decode b_Mpr_load 118 = .ok (.istore 7, 2) := by decide +kernel
theorem d_Mpr_load_120 : decode b_Mpr_load 120 = .ok (.aload_n 0, 1) := by decide +kernel
theorem d_Mpr_load_121 : decode b_Mpr_load 121 = .ok (.iload_n 2, 1) := by decide +kernel
theorem d_Mpr_load_122 : decode b_Mpr_load 122 = .ok (.iload 7, 2) := by decide +kernel
theorem d_Mpr_load_124 : decode b_Mpr_load 124 = .ok (.ifCond .eq 16, 3) := by decide +kernel
theorem d_Mpr_load_127 : decode b_Mpr_load 127 = .ok (.iload 6, 2) := by decide +kernel
theorem d_Mpr_load_129 : decode b_Mpr_load 129 = .ok (.iconst 1, 1) := by decide +kernel
theorem d_Mpr_load_130 : decode b_Mpr_load 130 = .ok (.bipush 8, 2) := by decide +kernel
theorem d_Mpr_load_132 : decode b_Mpr_load 132 = .ok (.iload 4, 2) := by decide +kernel
theorem d_Mpr_load_134 : decode b_Mpr_load 134 = .ok (.imul, 1) := by decide +kernel
theorem d_Mpr_load_135 : decode b_Mpr_load 135 = .ok (.ishl, 1) := by decide +kernel
theorem d_Mpr_load_136 : decode b_Mpr_load 136 = .ok (.isub, 1) := by decide +kernel
theorem d_Mpr_load_137 : decode b_Mpr_load 137 = .ok (.goto 5, 3) := by decide +kernel
theorem d_Mpr_load_140 : decode b_Mpr_load 140 = .ok (.iload 6, 2) := by decide +kernel
theorem d_Mpr_load_142 : decode b_Mpr_load 142 = .ok (.invokevirtual 268, 3) := by decide +kernel
theorem d_Mpr_load_145 : decode b_Mpr_load 145 = .ok (.aload_n 0, 1) := by decide +kernel
theorem d_Mpr_load_146 : decode b_Mpr_load 146 = .ok (.getfield 95, 3) := by decide +kernel
theorem d_Mpr_load_149 : decode b_Mpr_load 149 = .ok (.iconst 4, 1) := by decide +kernel
theorem d_Mpr_load_150 : decode b_Mpr_load 150 = .ok (.iadd, 1) := by decide +kernel
theorem d_Mpr_load_151 : decode b_Mpr_load 151 = .ok (.ireturn, 1) := by decide +kernel
theorem q_Mpr_load : px_y y_Mpr_load 3 := by unfold px_y; decide +kernel
set_option maxHeartbeats 4000000 in
set_option maxRecDepth 100000 in
theorem c_mr_load (l : Launch) (D : va_G) (cs : Nat → ClassId) (nf : Int) (q : Nat) (qr : Nat → Nat) (qg : Nat → Nat → Option Nat) (qf : Nat → Int32) (qa : Nat → Nat → Int32) (h : Nat) (r : Nat → Nat) (g : Nat → Nat → Option Nat) (tf : Nat → Int32) (ta : Nat → Nat → Int32) (pf : Nat → Int32) (na : Nat → Nat → Int32) (ma : Nat → Nat → Int32) (wa : Nat → Nat → Int32) (cf : Nat → Int32) (ca : Nat → Nat → Int32) (ef : Nat → Int32) (ea : Nat → Nat → Int32) (xf : Nat → Int32) (xa : Nat → Nat → Int32) (p0 p1 p2 : Int32)  (g0 : 0 ≤ (xf 68).toInt) (g1 : (xf 68).toInt ≤ 512) (g2 : 0 ≤ p1.toInt) (g3 : p1.toInt < 32) : MetI l y_Mpr_load b_Mpr_load 8 (.int) D cs 3 110 (0) (0) [.ref q, .int p0, .int p1, .int p2] [wd_Mpr cs q qr (fun k => if k = 0 then (some h) else none) qf qa qg, wdP cs h r g tf ta pf na ma wa cf ca ef ea xf xa] (oX (fun A U H => (oP A g U H)) [wd_Mpr cs q qr (fun k => if k = 0 then (some h) else none) qf qa qg, wdP cs h r g tf ta pf na ma wa cf ca ef ea xf xa]) (fun v ps => ∃ (qf' : Nat → Int32) (qa' : Nat → Nat → Int32), (ps = [wd_Mpr cs q qr (fun k => if k = 0 then (some h) else none) qf' qa' qg, wdP cs h r g tf ta pf na ma wa cf ca ef ea xf xa]) ∧ ((qf' 2).toInt = (qf 2).toInt ∨ (qf' 2).toInt = 7) ∧ ((qf' 1).toInt = (qf 1).toInt) ∧ ((qf' 4).toInt = (qf 4).toInt) ∧ ((qf' 5).toInt = (qf 5).toInt) ∧ ((qf' 6).toInt = (qf 6).toInt) ∧ ((qf' 7).toInt = (qf 7).toInt) ∧ ((qf' 10).toInt = (qf 10).toInt) ∧ ((qf' 11).toInt = (qf 11).toInt) ∧ ((qf' 12).toInt = (qf 12).toInt) ∧ ((qf' 13).toInt = (qf 13).toInt) ∧ ((qf' 14).toInt = (qf 14).toInt) ∧ ((qf' 21).toInt = (qf 21).toInt) ∧ ((qf' 23).toInt = (qf 23).toInt) ∧ ((qf' 24).toInt = (qf 24).toInt)) := by
  refine px_enter (by decide) (Nat.le_of_ble_eq_true rfl) ?_
  intro p e s m below meth c A ls hAe S hr hlk hnm hA hT hX hw hl
  replace hl : lv_has ls 8 [(0, .ref q), (1, .int p0), (2, .int p1), (3, .int p2)] := hl
  have lp0 := Int32.le_toInt p0
  have up0 := Int32.toInt_lt p0
  have lp1 := Int32.le_toInt p1
  have up1 := Int32.toInt_lt p1
  have lp2 := Int32.le_toInt p2
  have up2 := Int32.toInt_lt p2
  have cst0 : (0 : Int32).toInt = 0 := rfl
  have cst1 : (1 : Int32).toInt = 1 := rfl
  have cst2 : (2 : Int32).toInt = 2 := rfl
  have cst3 : (3 : Int32).toInt = 3 := rfl
  have cst4 : (4 : Int32).toInt = 4 := rfl
  have cst5 : (5 : Int32).toInt = 5 := rfl
  have cst8 : (8 : Int32).toInt = 8 := rfl
  have hX : (fun A U H => (oP A g U H)) A s s.heap := by rw [hAe]; exact hX
  have hP := hX
  have hZ := hP.1
  have hF0 := hP.2.1
  have J120 : ∀  (x120_4 x120_5 x120_6 x120_7 : Int32) (H : Heap) (locs : List Loc) (ls : Array Slot), (0 ≤ x120_7.toInt) → (x120_7.toInt ≤ 1) → (1 ≤ x120_4.toInt) → (x120_4.toInt ≤ 4) → pw D A s.heap H locs [wd_Mpr cs q qr (fun k => if k = 0 then (some h) else none) qf qa qg, wdP cs h r g tf ta pf na ma wa cf ca ef ea xf xa] → lv_has ls 8 [(0, .ref q), (1, .int p0), (2, .int p1), (3, .int p2), (4, .int x120_4), (5, .int x120_5), (6, .int x120_6), (7, .int x120_7)] → W p l e { frames := 3, cells := 0, slots := 0, locals := 110 } s m [.ref q, .int p0, .int p1, .int p2].toArray below meth c H locs 0 0 (MQ below (va_Qi (fun v ps => ∃ (qf' : Nat → Int32) (qa' : Nat → Nat → Int32), (ps = [wd_Mpr cs q qr (fun k => if k = 0 then (some h) else none) qf' qa' qg, wdP cs h r g tf ta pf na ma wa cf ca ef ea xf xa]) ∧ ((qf' 2).toInt = (qf 2).toInt ∨ (qf' 2).toInt = 7) ∧ ((qf' 1).toInt = (qf 1).toInt) ∧ ((qf' 4).toInt = (qf 4).toInt) ∧ ((qf' 5).toInt = (qf 5).toInt) ∧ ((qf' 6).toInt = (qf 6).toInt) ∧ ((qf' 7).toInt = (qf 7).toInt) ∧ ((qf' 10).toInt = (qf 10).toInt) ∧ ((qf' 11).toInt = (qf 11).toInt) ∧ ((qf' 12).toInt = (qf 12).toInt) ∧ ((qf' 13).toInt = (qf 13).toInt) ∧ ((qf' 14).toInt = (qf 14).toInt) ∧ ((qf' 21).toInt = (qf 21).toInt) ∧ ((qf' 23).toInt = (qf 23).toInt) ∧ ((qf' 24).toInt = (qf 24).toInt)) (pc_B D (va_A ([wd_Mpr cs q qr (fun k => if k = 0 then (some h) else none) qf qa qg, wdP cs h r g tf ta pf na ma wa cf ca ef ea xf xa] : List va_W).flatten s.heap.size)) (va_A ([wd_Mpr cs q qr (fun k => if k = 0 then (some h) else none) qf qa qg, wdP cs h r g tf ta pf na ma wa cf ca ef ea xf xa] : List va_W).flatten s.heap.size)) [.ref q, .int p0, .int p1, .int p2].toArray s 0 0 A) (F0 m 120 ls []) := by
    intro x120_4 x120_5 x120_6 x120_7 H locs ls k120_0 k120_1 k120_2 k120_3 hw hl
    have lx120_4 := Int32.le_toInt x120_4
    have ux120_4 := Int32.toInt_lt x120_4
    have lx120_5 := Int32.le_toInt x120_5
    have ux120_5 := Int32.toInt_lt x120_5
    have lx120_6 := Int32.le_toInt x120_6
    have ux120_6 := Int32.toInt_lt x120_6
    have lx120_7 := Int32.le_toInt x120_7
    have ux120_7 := Int32.toInt_lt x120_7
    refine lv_aload_n S.x S.b d_Mpr_load_120 rfl (lv_at hl 0 rfl) ?_
    refine lv_iload_n S.x S.b d_Mpr_load_121 rfl (lv_at hl 2 rfl) ?_
    refine lv_iload S.x S.b d_Mpr_load_122 (lv_at hl 7 rfl) ?_
    refine lv_if_eq (tgt := 140) S.x S.b d_Mpr_load_124 (by decide) (fun c1 => ?_) (fun c1 => ?_)
    · have nc1 : x120_7.toInt = (0 : Int) := (i_eq (x := x120_7) (y := 0)).mp c1
      refine lv_iload S.x S.b d_Mpr_load_140 (lv_at hl 6 rfl) ?_
      refine px_callv (pr := []) (px_runV (As := [.int p1, .int x120_6]) (rest := []) S (c_mr_set l D cs (0 : Int) q qr qg qf qa h r g tf ta pf na ma wa cf ca ef ea xf xa p1 x120_6  (show 0 ≤ p1.toInt from by first | exact g2 | omega) (show p1.toInt < 32 from by first | exact g3 | omega) _) hT (pr := []) (pcs := [wd_Mpr cs q qr (fun k => if k = 0 then (some h) else none) qf qa qg, wdP cs h r g tf ta pf na ma wa cf ca ef ea xf xa]) hw (oX_call (P := (fun A U H => (oP A g U H))) (pr := []) oG_P hw hA hP) (px_recv hT hw 0 0 rfl rfl rfl) m13_216 m13_213 m13_215 ms_15_4 m1_22 q_Mpr_set ⟨Nat.le_of_ble_eq_true rfl, Nat.le_of_ble_eq_true rfl⟩ hl.1 rfl (Nat.le_of_ble_eq_true rfl) d_Mpr_load_142 ⟨Nat.le_of_ble_eq_true rfl, Nat.le_of_ble_eq_true rfl⟩) hw hA (fun p4 H locs hp4 hw => ?_)
      obtain ⟨qa3, rfl⟩ := hp4
      replace hw : pw D A s.heap H locs [wd_Mpr cs q qr (fun k => if k = 0 then (some h) else none) qf qa3 qg, wdP cs h r g tf ta pf na ma wa cf ca ef ea xf xa] := hw
      refine lv_aload_n S.x S.b d_Mpr_load_145 rfl (lv_at hl 0 rfl) ?_
      refine px_get S k_Mpr hT hw 0 0 11 (v := .int (qf 11)) rfl rfl rfl (by decide) m11_2 d_Mpr_load_146 ?_
      refine lv_iconst (v := 4) S.x S.b d_Mpr_load_149 (by decide) ?_
      refine lv_iadd S.x S.b d_Mpr_load_150 ?_
      have lr6 := Int32.le_toInt (qf 11)
      have ur6 := Int32.toInt_lt (qf 11)
      refine lv_topi (fun z7 ez7 => ?_)
      have tz7 : z7.toInt = ((qf 11).toInt + (4 : Int) + 2147483648) % 4294967296 - 2147483648 := by rw [ez7]; exact i_add (qf 11) 4
      have lz7 := Int32.le_toInt z7
      have uz7 := Int32.toInt_lt z7
      try replace tz7 : z7.toInt = (qf 11).toInt + (4 : Int) := by omega
      exact px_iret (v := z7) S hr rfl hlk hAe hw (Nat.le_of_ble_eq_true rfl) (Nat.le_of_ble_eq_true rfl) (⟨qf, qa3, rfl, (show (qf 2).toInt = (qf 2).toInt ∨ (qf 2).toInt = 7 from by first | with_reducible rfl | with_reducible assumption | omega), (show (qf 1).toInt = (qf 1).toInt from rfl), (show (qf 4).toInt = (qf 4).toInt from rfl), (show (qf 5).toInt = (qf 5).toInt from rfl), (show (qf 6).toInt = (qf 6).toInt from rfl), (show (qf 7).toInt = (qf 7).toInt from rfl), (show (qf 10).toInt = (qf 10).toInt from rfl), (show (qf 11).toInt = (qf 11).toInt from rfl), (show (qf 12).toInt = (qf 12).toInt from rfl), (show (qf 13).toInt = (qf 13).toInt from rfl), (show (qf 14).toInt = (qf 14).toInt from rfl), (show (qf 21).toInt = (qf 21).toInt from rfl), (show (qf 23).toInt = (qf 23).toInt from rfl), (show (qf 24).toInt = (qf 24).toInt from rfl)⟩) d_Mpr_load_151
    · have nc1 : ¬ x120_7.toInt = (0 : Int) := mt (i_eq (x := x120_7) (y := 0)).mpr c1
      refine lv_iload S.x S.b d_Mpr_load_127 (lv_at hl 6 rfl) ?_
      refine lv_iconst (v := 1) S.x S.b d_Mpr_load_129 (by decide) ?_
      refine lv_bipush (v := 8) S.x S.b d_Mpr_load_130 (by decide) ?_
      refine lv_iload S.x S.b d_Mpr_load_132 (lv_at hl 4 rfl) ?_
      refine lv_imul S.x S.b d_Mpr_load_134 ?_
      refine lv_topi (fun z8 ez8 => ?_)
      have lz8 := Int32.le_toInt z8
      have uz8 := Int32.toInt_lt z8
      have tz8 : -2147483648 ≤ 8 * x120_4.toInt → 8 * x120_4.toInt < 2147483648 → z8.toInt = 8 * x120_4.toInt := by rw [ez8]; exact i_mulc 8 x120_4 (by decide)
      try replace tz8 : z8.toInt = 8 * x120_4.toInt := by omega
      refine lv_ishl S.x S.b d_Mpr_load_135 ?_
      refine lv_topi (fun z9 ez9 => ?_)
      have lz9 := Int32.le_toInt z9
      have uz9 := Int32.toInt_lt z9
      refine lv_isub S.x S.b d_Mpr_load_136 ?_
      refine lv_topi (fun z10 ez10 => ?_)
      have tz10 : z10.toInt = (x120_6.toInt - z9.toInt + 2147483648) % 4294967296 - 2147483648 := by rw [ez10]; exact i_sub x120_6 z9
      have lz10 := Int32.le_toInt z10
      have uz10 := Int32.toInt_lt z10
      try replace tz10 : z10.toInt = x120_6.toInt - z9.toInt := by omega
      refine lv_goto (tgt := 142) S.x S.b d_Mpr_load_137 (by decide) ?_
      refine px_callv (pr := []) (px_runV (As := [.int p1, .int z10]) (rest := []) S (c_mr_set l D cs (0 : Int) q qr qg qf qa h r g tf ta pf na ma wa cf ca ef ea xf xa p1 z10  (show 0 ≤ p1.toInt from by first | exact g2 | omega) (show p1.toInt < 32 from by first | exact g3 | omega) _) hT (pr := []) (pcs := [wd_Mpr cs q qr (fun k => if k = 0 then (some h) else none) qf qa qg, wdP cs h r g tf ta pf na ma wa cf ca ef ea xf xa]) hw (oX_call (P := (fun A U H => (oP A g U H))) (pr := []) oG_P hw hA hP) (px_recv hT hw 0 0 rfl rfl rfl) m13_216 m13_213 m13_215 ms_15_4 m1_22 q_Mpr_set ⟨Nat.le_of_ble_eq_true rfl, Nat.le_of_ble_eq_true rfl⟩ hl.1 rfl (Nat.le_of_ble_eq_true rfl) d_Mpr_load_142 ⟨Nat.le_of_ble_eq_true rfl, Nat.le_of_ble_eq_true rfl⟩) hw hA (fun p13 H locs hp13 hw => ?_)
      obtain ⟨qa12, rfl⟩ := hp13
      replace hw : pw D A s.heap H locs [wd_Mpr cs q qr (fun k => if k = 0 then (some h) else none) qf qa12 qg, wdP cs h r g tf ta pf na ma wa cf ca ef ea xf xa] := hw
      refine lv_aload_n S.x S.b d_Mpr_load_145 rfl (lv_at hl 0 rfl) ?_
      refine px_get S k_Mpr hT hw 0 0 11 (v := .int (qf 11)) rfl rfl rfl (by decide) m11_2 d_Mpr_load_146 ?_
      refine lv_iconst (v := 4) S.x S.b d_Mpr_load_149 (by decide) ?_
      refine lv_iadd S.x S.b d_Mpr_load_150 ?_
      have lr15 := Int32.le_toInt (qf 11)
      have ur15 := Int32.toInt_lt (qf 11)
      refine lv_topi (fun z16 ez16 => ?_)
      have tz16 : z16.toInt = ((qf 11).toInt + (4 : Int) + 2147483648) % 4294967296 - 2147483648 := by rw [ez16]; exact i_add (qf 11) 4
      have lz16 := Int32.le_toInt z16
      have uz16 := Int32.toInt_lt z16
      try replace tz16 : z16.toInt = (qf 11).toInt + (4 : Int) := by omega
      exact px_iret (v := z16) S hr rfl hlk hAe hw (Nat.le_of_ble_eq_true rfl) (Nat.le_of_ble_eq_true rfl) (⟨qf, qa12, rfl, (show (qf 2).toInt = (qf 2).toInt ∨ (qf 2).toInt = 7 from by first | with_reducible rfl | with_reducible assumption | omega), (show (qf 1).toInt = (qf 1).toInt from rfl), (show (qf 4).toInt = (qf 4).toInt from rfl), (show (qf 5).toInt = (qf 5).toInt from rfl), (show (qf 6).toInt = (qf 6).toInt from rfl), (show (qf 7).toInt = (qf 7).toInt from rfl), (show (qf 10).toInt = (qf 10).toInt from rfl), (show (qf 11).toInt = (qf 11).toInt from rfl), (show (qf 12).toInt = (qf 12).toInt from rfl), (show (qf 13).toInt = (qf 13).toInt from rfl), (show (qf 14).toInt = (qf 14).toInt from rfl), (show (qf 21).toInt = (qf 21).toInt from rfl), (show (qf 23).toInt = (qf 23).toInt from rfl), (show (qf 24).toInt = (qf 24).toInt from rfl)⟩) d_Mpr_load_151
  have J24 : ∀  (x24_4 : Int32) (H : Heap) (locs : List Loc) (ls : Array Slot), (1 ≤ x24_4.toInt) → (x24_4.toInt ≤ 4) → pw D A s.heap H locs [wd_Mpr cs q qr (fun k => if k = 0 then (some h) else none) qf qa qg, wdP cs h r g tf ta pf na ma wa cf ca ef ea xf xa] → lv_has ls 8 [(0, .ref q), (1, .int p0), (2, .int p1), (3, .int p2), (4, .int x24_4)] → W p l e { frames := 3, cells := 0, slots := 0, locals := 110 } s m [.ref q, .int p0, .int p1, .int p2].toArray below meth c H locs 0 0 (MQ below (va_Qi (fun v ps => ∃ (qf' : Nat → Int32) (qa' : Nat → Nat → Int32), (ps = [wd_Mpr cs q qr (fun k => if k = 0 then (some h) else none) qf' qa' qg, wdP cs h r g tf ta pf na ma wa cf ca ef ea xf xa]) ∧ ((qf' 2).toInt = (qf 2).toInt ∨ (qf' 2).toInt = 7) ∧ ((qf' 1).toInt = (qf 1).toInt) ∧ ((qf' 4).toInt = (qf 4).toInt) ∧ ((qf' 5).toInt = (qf 5).toInt) ∧ ((qf' 6).toInt = (qf 6).toInt) ∧ ((qf' 7).toInt = (qf 7).toInt) ∧ ((qf' 10).toInt = (qf 10).toInt) ∧ ((qf' 11).toInt = (qf 11).toInt) ∧ ((qf' 12).toInt = (qf 12).toInt) ∧ ((qf' 13).toInt = (qf 13).toInt) ∧ ((qf' 14).toInt = (qf 14).toInt) ∧ ((qf' 21).toInt = (qf 21).toInt) ∧ ((qf' 23).toInt = (qf 23).toInt) ∧ ((qf' 24).toInt = (qf 24).toInt)) (pc_B D (va_A ([wd_Mpr cs q qr (fun k => if k = 0 then (some h) else none) qf qa qg, wdP cs h r g tf ta pf na ma wa cf ca ef ea xf xa] : List va_W).flatten s.heap.size)) (va_A ([wd_Mpr cs q qr (fun k => if k = 0 then (some h) else none) qf qa qg, wdP cs h r g tf ta pf na ma wa cf ca ef ea xf xa] : List va_W).flatten s.heap.size)) [.ref q, .int p0, .int p1, .int p2].toArray s 0 0 A) (F0 m 24 ls []) := by
    intro x24_4 H locs ls k24_0 k24_1 hw hl
    have lx24_4 := Int32.le_toInt x24_4
    have ux24_4 := Int32.toInt_lt x24_4
    refine lv_iload_n S.x S.b d_Mpr_load_24 rfl (lv_at hl 1 rfl) ?_
    refine lv_iconst (v := 3) S.x S.b d_Mpr_load_25 (by decide) ?_
    refine lv_icmp_eq (tgt := 54) S.x S.b d_Mpr_load_26 (by decide) (fun c17 => ?_) (fun c17 => ?_)
    · have nc17 : p0.toInt = (3 : Int) := (i_eq (x := p0) (y := 3)).mp c17
      refine lv_aload_n S.x S.b d_Mpr_load_54 rfl (lv_at hl 0 rfl) ?_
      refine px_calli (pr := []) (px_runV (As := []) (rest := []) S (c_mr_bad l D cs (0 : Int) q qr qg qa qf h r g tf ta pf na ma wa cf ca ef ea xf xa    _) hT (pr := []) (pcs := [wd_Mpr cs q qr (fun k => if k = 0 then (some h) else none) qf qa qg, wdP cs h r g tf ta pf na ma wa cf ca ef ea xf xa]) hw (oX_call (P := (fun A U H => (oP A g U H))) (pr := []) oG_P hw hA hP) (px_recv hT hw 0 0 rfl rfl rfl) m13_225 m13_222 m13_224 ms_15_6 m1_22 q_Mpr_bad ⟨Nat.le_of_ble_eq_true rfl, Nat.le_of_ble_eq_true rfl⟩ hl.1 rfl (Nat.le_of_ble_eq_true rfl) d_Mpr_load_55 ⟨Nat.le_of_ble_eq_true rfl, Nat.le_of_ble_eq_true rfl⟩) hw hA (fun v21 p20 H locs hp20 hw => ?_)
      obtain ⟨qf19, rfl, e22, e23, e24, e25, e26, e27, e28, e29, e30, e31, e32, e33, e34, e35⟩ := hp20
      replace e22 : (qf19 2).toInt = 7 := e22
      replace e23 : (qf19 1).toInt = (qf 1).toInt := e23
      replace e24 : (qf19 4).toInt = (qf 4).toInt := e24
      replace e25 : (qf19 5).toInt = (qf 5).toInt := e25
      replace e26 : (qf19 6).toInt = (qf 6).toInt := e26
      replace e27 : (qf19 7).toInt = (qf 7).toInt := e27
      replace e28 : (qf19 10).toInt = (qf 10).toInt := e28
      replace e29 : (qf19 11).toInt = (qf 11).toInt := e29
      replace e30 : (qf19 12).toInt = (qf 12).toInt := e30
      replace e31 : (qf19 13).toInt = (qf 13).toInt := e31
      replace e32 : (qf19 14).toInt = (qf 14).toInt := e32
      replace e33 : (qf19 21).toInt = (qf 21).toInt := e33
      replace e34 : (qf19 23).toInt = (qf 23).toInt := e34
      replace e35 : (qf19 24).toInt = (qf 24).toInt := e35
      replace hw : pw D A s.heap H locs [wd_Mpr cs q qr (fun k => if k = 0 then (some h) else none) qf19 qa qg, wdP cs h r g tf ta pf na ma wa cf ca ef ea xf xa] := hw
      have lv21 := Int32.le_toInt v21
      have uv21 := Int32.toInt_lt v21
      exact px_iret (v := v21) S hr rfl hlk hAe hw (Nat.le_of_ble_eq_true rfl) (Nat.le_of_ble_eq_true rfl) (⟨qf19, qa, rfl, (show (qf19 2).toInt = (qf 2).toInt ∨ (qf19 2).toInt = 7 from by first | with_reducible rfl | with_reducible assumption | omega), (show (qf19 1).toInt = (qf 1).toInt from by first | exact e23 | omega), (show (qf19 4).toInt = (qf 4).toInt from by first | exact e24 | omega), (show (qf19 5).toInt = (qf 5).toInt from by first | exact e25 | omega), (show (qf19 6).toInt = (qf 6).toInt from by first | exact e26 | omega), (show (qf19 7).toInt = (qf 7).toInt from by first | exact e27 | omega), (show (qf19 10).toInt = (qf 10).toInt from by first | exact e28 | omega), (show (qf19 11).toInt = (qf 11).toInt from by first | exact e29 | omega), (show (qf19 12).toInt = (qf 12).toInt from by first | exact e30 | omega), (show (qf19 13).toInt = (qf 13).toInt from by first | exact e31 | omega), (show (qf19 14).toInt = (qf 14).toInt from by first | exact e32 | omega), (show (qf19 21).toInt = (qf 21).toInt from by first | exact e33 | omega), (show (qf19 23).toInt = (qf 23).toInt from by first | exact e34 | omega), (show (qf19 24).toInt = (qf 24).toInt from by first | exact e35 | omega)⟩) d_Mpr_load_58
    · have nc17 : ¬ p0.toInt = (3 : Int) := mt (i_eq (x := p0) (y := 3)).mpr c17
      refine lv_iload_n S.x S.b d_Mpr_load_29 rfl (lv_at hl 1 rfl) ?_
      refine lv_iconst (v := 5) S.x S.b d_Mpr_load_30 (by decide) ?_
      refine lv_icmp_gt (tgt := 54) S.x S.b d_Mpr_load_31 (by decide) (fun c36 => ?_) (fun c36 => ?_)
      · have nc36 : (5 : Int) < p0.toInt := (i_lt (x := 5) (y := p0)).mp c36
        refine lv_aload_n S.x S.b d_Mpr_load_54 rfl (lv_at hl 0 rfl) ?_
        refine px_calli (pr := []) (px_runV (As := []) (rest := []) S (c_mr_bad l D cs (0 : Int) q qr qg qa qf h r g tf ta pf na ma wa cf ca ef ea xf xa    _) hT (pr := []) (pcs := [wd_Mpr cs q qr (fun k => if k = 0 then (some h) else none) qf qa qg, wdP cs h r g tf ta pf na ma wa cf ca ef ea xf xa]) hw (oX_call (P := (fun A U H => (oP A g U H))) (pr := []) oG_P hw hA hP) (px_recv hT hw 0 0 rfl rfl rfl) m13_225 m13_222 m13_224 ms_15_6 m1_22 q_Mpr_bad ⟨Nat.le_of_ble_eq_true rfl, Nat.le_of_ble_eq_true rfl⟩ hl.1 rfl (Nat.le_of_ble_eq_true rfl) d_Mpr_load_55 ⟨Nat.le_of_ble_eq_true rfl, Nat.le_of_ble_eq_true rfl⟩) hw hA (fun v40 p39 H locs hp39 hw => ?_)
        obtain ⟨qf38, rfl, e41, e42, e43, e44, e45, e46, e47, e48, e49, e50, e51, e52, e53, e54⟩ := hp39
        replace e41 : (qf38 2).toInt = 7 := e41
        replace e42 : (qf38 1).toInt = (qf 1).toInt := e42
        replace e43 : (qf38 4).toInt = (qf 4).toInt := e43
        replace e44 : (qf38 5).toInt = (qf 5).toInt := e44
        replace e45 : (qf38 6).toInt = (qf 6).toInt := e45
        replace e46 : (qf38 7).toInt = (qf 7).toInt := e46
        replace e47 : (qf38 10).toInt = (qf 10).toInt := e47
        replace e48 : (qf38 11).toInt = (qf 11).toInt := e48
        replace e49 : (qf38 12).toInt = (qf 12).toInt := e49
        replace e50 : (qf38 13).toInt = (qf 13).toInt := e50
        replace e51 : (qf38 14).toInt = (qf 14).toInt := e51
        replace e52 : (qf38 21).toInt = (qf 21).toInt := e52
        replace e53 : (qf38 23).toInt = (qf 23).toInt := e53
        replace e54 : (qf38 24).toInt = (qf 24).toInt := e54
        replace hw : pw D A s.heap H locs [wd_Mpr cs q qr (fun k => if k = 0 then (some h) else none) qf38 qa qg, wdP cs h r g tf ta pf na ma wa cf ca ef ea xf xa] := hw
        have lv40 := Int32.le_toInt v40
        have uv40 := Int32.toInt_lt v40
        exact px_iret (v := v40) S hr rfl hlk hAe hw (Nat.le_of_ble_eq_true rfl) (Nat.le_of_ble_eq_true rfl) (⟨qf38, qa, rfl, (show (qf38 2).toInt = (qf 2).toInt ∨ (qf38 2).toInt = 7 from by first | with_reducible rfl | with_reducible assumption | omega), (show (qf38 1).toInt = (qf 1).toInt from by first | exact e42 | omega), (show (qf38 4).toInt = (qf 4).toInt from by first | exact e43 | omega), (show (qf38 5).toInt = (qf 5).toInt from by first | exact e44 | omega), (show (qf38 6).toInt = (qf 6).toInt from by first | exact e45 | omega), (show (qf38 7).toInt = (qf 7).toInt from by first | exact e46 | omega), (show (qf38 10).toInt = (qf 10).toInt from by first | exact e47 | omega), (show (qf38 11).toInt = (qf 11).toInt from by first | exact e48 | omega), (show (qf38 12).toInt = (qf 12).toInt from by first | exact e49 | omega), (show (qf38 13).toInt = (qf 13).toInt from by first | exact e50 | omega), (show (qf38 14).toInt = (qf 14).toInt from by first | exact e51 | omega), (show (qf38 21).toInt = (qf 21).toInt from by first | exact e52 | omega), (show (qf38 23).toInt = (qf 23).toInt from by first | exact e53 | omega), (show (qf38 24).toInt = (qf 24).toInt from by first | exact e54 | omega)⟩) d_Mpr_load_58
      · have nc36 : ¬ (5 : Int) < p0.toInt := mt (i_lt (x := 5) (y := p0)).mpr c36
        refine lv_iload_n S.x S.b d_Mpr_load_34 rfl (lv_at hl 3 rfl) ?_
        refine lv_iconst (v := 0) S.x S.b d_Mpr_load_35 (by decide) ?_
        refine lv_iconst (v := 1) S.x S.b d_Mpr_load_36 (by decide) ?_
        refine px_calli (pr := [wd_Mpr cs q qr (fun k => if k = 0 then (some h) else none) qf qa qg, wdP cs h r g tf ta pf na ma wa cf ca ef ea xf xa]) (px_runS (As := [.int p2, .int 0, .int 1]) (rest := []) S (c_mr_bits l D cs  p2 0 1   _) hT (pr := [wd_Mpr cs q qr (fun k => if k = 0 then (some h) else none) qf qa qg, wdP cs h r g tf ta pf na ma wa cf ca ef ea xf xa]) (pcs := []) hw px_X.tt m13_212 m13_210 m13_211 m1_22 q_Mpr_bits ⟨Nat.le_of_ble_eq_true rfl, Nat.le_of_ble_eq_true rfl⟩ hl.1 rfl (Nat.le_of_ble_eq_true rfl) d_Mpr_load_37 ⟨Nat.le_of_ble_eq_true rfl, Nat.le_of_ble_eq_true rfl⟩) hw hA (fun v56 p55 H locs hp55 hw => ?_)
        obtain ⟨rfl, e57⟩ := hp55
        replace e57 : (1 : Int) = (0 : Int) + 4 → 0 ≤ v56.toInt ∧ v56.toInt < 32 := e57
        replace hw : pw D A s.heap H locs [wd_Mpr cs q qr (fun k => if k = 0 then (some h) else none) qf qa qg, wdP cs h r g tf ta pf na ma wa cf ca ef ea xf xa] := hw
        have lv56 := Int32.le_toInt v56
        have uv56 := Int32.toInt_lt v56
        refine lv_iload S.x S.b d_Mpr_load_40 (lv_at hl 4 rfl) ?_
        refine lv_irem S.x S.b d_Mpr_load_42 (fun hz0 => by have hz1 := i_eq.mp hz0; omega) ?_
        refine lv_topi (fun z58 ez58 => ?_)
        have lz58 := Int32.le_toInt z58
        have uz58 := Int32.toInt_lt z58
        refine lv_if_ne (tgt := 54) S.x S.b d_Mpr_load_43 (by decide) (fun c59 => ?_) (fun c59 => ?_)
        · have nc59 : ¬ z58.toInt = (0 : Int) := mt (i_eq (x := z58) (y := 0)).mpr c59
          refine lv_aload_n S.x S.b d_Mpr_load_54 rfl (lv_at hl 0 rfl) ?_
          refine px_calli (pr := []) (px_runV (As := []) (rest := []) S (c_mr_bad l D cs (0 : Int) q qr qg qa qf h r g tf ta pf na ma wa cf ca ef ea xf xa    _) hT (pr := []) (pcs := [wd_Mpr cs q qr (fun k => if k = 0 then (some h) else none) qf qa qg, wdP cs h r g tf ta pf na ma wa cf ca ef ea xf xa]) hw (oX_call (P := (fun A U H => (oP A g U H))) (pr := []) oG_P hw hA hP) (px_recv hT hw 0 0 rfl rfl rfl) m13_225 m13_222 m13_224 ms_15_6 m1_22 q_Mpr_bad ⟨Nat.le_of_ble_eq_true rfl, Nat.le_of_ble_eq_true rfl⟩ hl.1 rfl (Nat.le_of_ble_eq_true rfl) d_Mpr_load_55 ⟨Nat.le_of_ble_eq_true rfl, Nat.le_of_ble_eq_true rfl⟩) hw hA (fun v63 p62 H locs hp62 hw => ?_)
          obtain ⟨qf61, rfl, e64, e65, e66, e67, e68, e69, e70, e71, e72, e73, e74, e75, e76, e77⟩ := hp62
          replace e64 : (qf61 2).toInt = 7 := e64
          replace e65 : (qf61 1).toInt = (qf 1).toInt := e65
          replace e66 : (qf61 4).toInt = (qf 4).toInt := e66
          replace e67 : (qf61 5).toInt = (qf 5).toInt := e67
          replace e68 : (qf61 6).toInt = (qf 6).toInt := e68
          replace e69 : (qf61 7).toInt = (qf 7).toInt := e69
          replace e70 : (qf61 10).toInt = (qf 10).toInt := e70
          replace e71 : (qf61 11).toInt = (qf 11).toInt := e71
          replace e72 : (qf61 12).toInt = (qf 12).toInt := e72
          replace e73 : (qf61 13).toInt = (qf 13).toInt := e73
          replace e74 : (qf61 14).toInt = (qf 14).toInt := e74
          replace e75 : (qf61 21).toInt = (qf 21).toInt := e75
          replace e76 : (qf61 23).toInt = (qf 23).toInt := e76
          replace e77 : (qf61 24).toInt = (qf 24).toInt := e77
          replace hw : pw D A s.heap H locs [wd_Mpr cs q qr (fun k => if k = 0 then (some h) else none) qf61 qa qg, wdP cs h r g tf ta pf na ma wa cf ca ef ea xf xa] := hw
          have lv63 := Int32.le_toInt v63
          have uv63 := Int32.toInt_lt v63
          exact px_iret (v := v63) S hr rfl hlk hAe hw (Nat.le_of_ble_eq_true rfl) (Nat.le_of_ble_eq_true rfl) (⟨qf61, qa, rfl, (show (qf61 2).toInt = (qf 2).toInt ∨ (qf61 2).toInt = 7 from by first | with_reducible rfl | with_reducible assumption | omega), (show (qf61 1).toInt = (qf 1).toInt from by first | exact e65 | omega), (show (qf61 4).toInt = (qf 4).toInt from by first | exact e66 | omega), (show (qf61 5).toInt = (qf 5).toInt from by first | exact e67 | omega), (show (qf61 6).toInt = (qf 6).toInt from by first | exact e68 | omega), (show (qf61 7).toInt = (qf 7).toInt from by first | exact e69 | omega), (show (qf61 10).toInt = (qf 10).toInt from by first | exact e70 | omega), (show (qf61 11).toInt = (qf 11).toInt from by first | exact e71 | omega), (show (qf61 12).toInt = (qf 12).toInt from by first | exact e72 | omega), (show (qf61 13).toInt = (qf 13).toInt from by first | exact e73 | omega), (show (qf61 14).toInt = (qf 14).toInt from by first | exact e74 | omega), (show (qf61 21).toInt = (qf 21).toInt from by first | exact e75 | omega), (show (qf61 23).toInt = (qf 23).toInt from by first | exact e76 | omega), (show (qf61 24).toInt = (qf 24).toInt from by first | exact e77 | omega)⟩) d_Mpr_load_58
        · have nc59 : z58.toInt = (0 : Int) := (i_eq (x := z58) (y := 0)).mp c59
          refine lv_aload_n S.x S.b d_Mpr_load_46 rfl (lv_at hl 0 rfl) ?_
          refine lv_iload_n S.x S.b d_Mpr_load_47 rfl (lv_at hl 3 rfl) ?_
          refine px_calli (pr := []) (px_runV (As := [.int p2]) (rest := []) S (c_mr_canRead l D cs (0 : Int) q qr qg qf qa h r g tf ta pf na ma wa cf ca ef ea xf xa p2  (show 0 ≤ (xf 68).toInt from by first | exact g0 | omega) (show (xf 68).toInt ≤ 512 from by first | exact g1 | omega) _) hT (pr := []) (pcs := [wd_Mpr cs q qr (fun k => if k = 0 then (some h) else none) qf qa qg, wdP cs h r g tf ta pf na ma wa cf ca ef ea xf xa]) hw (oX_call (P := (fun A U H => (oP A g U H))) (pr := []) oG_P hw hA hP) (px_recv hT hw 0 0 rfl rfl rfl) m13_237 m13_234 m13_235 m13_236 m1_22 q_Mpr_canRead ⟨Nat.le_of_ble_eq_true rfl, Nat.le_of_ble_eq_true rfl⟩ hl.1 rfl (Nat.le_of_ble_eq_true rfl) d_Mpr_load_48 ⟨Nat.le_of_ble_eq_true rfl, Nat.le_of_ble_eq_true rfl⟩) hw hA (fun v79 p78 H locs hp78 hw => ?_)
          obtain ⟨rfl, e80, e81, e82⟩ := hp78
          replace e80 : 0 ≤ v79.toInt := e80
          replace e81 : v79.toInt ≤ 1 := e81
          replace e82 : v79.toInt = 1 → (4194304 ≤ p2.toInt % 4294967296 ∧ p2.toInt % 4294967296 < 4194304 + (4 * (xf 68).toInt + 4095) / 4096 * 4096) ∨ (5242880 ≤ p2.toInt % 4294967296 ∧ p2.toInt % 4294967296 < 5259264) ∨ (8257536 ≤ p2.toInt % 4294967296 ∧ p2.toInt % 4294967296 < 8388608) := e82
          replace hw : pw D A s.heap H locs [wd_Mpr cs q qr (fun k => if k = 0 then (some h) else none) qf qa qg, wdP cs h r g tf ta pf na ma wa cf ca ef ea xf xa] := hw
          have lv79 := Int32.le_toInt v79
          have uv79 := Int32.toInt_lt v79
          refine lv_if_ne (tgt := 59) S.x S.b d_Mpr_load_51 (by decide) (fun c83 => ?_) (fun c83 => ?_)
          · have nc83 : ¬ v79.toInt = (0 : Int) := mt (i_eq (x := v79) (y := 0)).mpr c83
            refine lv_bipush (v := 8) S.x S.b d_Mpr_load_59 (by decide) ?_
            refine lv_iload_n S.x S.b d_Mpr_load_61 rfl (lv_at hl 3 rfl) ?_
            refine lv_iconst (v := 0) S.x S.b d_Mpr_load_62 (by decide) ?_
            refine lv_iconst (v := 1) S.x S.b d_Mpr_load_63 (by decide) ?_
            refine px_calli (pr := [wd_Mpr cs q qr (fun k => if k = 0 then (some h) else none) qf qa qg, wdP cs h r g tf ta pf na ma wa cf ca ef ea xf xa]) (px_runS (As := [.int p2, .int 0, .int 1]) (rest := [.int 8]) S (c_mr_bits l D cs  p2 0 1   _) hT (pr := [wd_Mpr cs q qr (fun k => if k = 0 then (some h) else none) qf qa qg, wdP cs h r g tf ta pf na ma wa cf ca ef ea xf xa]) (pcs := []) hw px_X.tt m13_212 m13_210 m13_211 m1_22 q_Mpr_bits ⟨Nat.le_of_ble_eq_true rfl, Nat.le_of_ble_eq_true rfl⟩ hl.1 rfl (Nat.le_of_ble_eq_true rfl) d_Mpr_load_64 ⟨Nat.le_of_ble_eq_true rfl, Nat.le_of_ble_eq_true rfl⟩) hw hA (fun v85 p84 H locs hp84 hw => ?_)
            obtain ⟨rfl, e86⟩ := hp84
            replace e86 : (1 : Int) = (0 : Int) + 4 → 0 ≤ v85.toInt ∧ v85.toInt < 32 := e86
            replace hw : pw D A s.heap H locs [wd_Mpr cs q qr (fun k => if k = 0 then (some h) else none) qf qa qg, wdP cs h r g tf ta pf na ma wa cf ca ef ea xf xa] := hw
            have lv85 := Int32.le_toInt v85
            have uv85 := Int32.toInt_lt v85
            refine lv_imul S.x S.b d_Mpr_load_67 ?_
            refine lv_topi (fun z87 ez87 => ?_)
            have lz87 := Int32.le_toInt z87
            have uz87 := Int32.toInt_lt z87
            have tz87 : -2147483648 ≤ 8 * v85.toInt → 8 * v85.toInt < 2147483648 → z87.toInt = 8 * v85.toInt := by rw [ez87]; exact i_mulc 8 v85 (by decide)
            try replace tz87 : z87.toInt = 8 * v85.toInt := by omega
            refine lv_istore (lv' := [(5, .int z87), (0, .ref q), (1, .int p0), (2, .int p1), (3, .int p2), (4, .int x24_4)]) S.x S.b d_Mpr_load_68 hl (by decide) rfl (fun ls hl => ?_)
            refine lv_aload_n S.x S.b d_Mpr_load_70 rfl (lv_at hl 1 rfl) ?_
            refine lv_iload_n S.x S.b d_Mpr_load_71 rfl (lv_at hl 4 rfl) ?_
            refine px_calli (pr := []) (px_runV (As := [.int p2]) (rest := []) S (c_mr_wordAt l D cs (0 : Int) q qr qg qf qa h r g tf ta pf na ma wa cf ca ef ea xf xa p2  (show 0 ≤ (xf 68).toInt from by first | exact g0 | omega) (show (xf 68).toInt ≤ 512 from by first | exact g1 | omega) (show (4194304 ≤ p2.toInt % 4294967296 ∧ p2.toInt % 4294967296 < 4194304 + (4 * (xf 68).toInt + 4095) / 4096 * 4096) ∨ (5242880 ≤ p2.toInt % 4294967296 ∧ p2.toInt % 4294967296 < 5259264) ∨ (8257536 ≤ p2.toInt % 4294967296 ∧ p2.toInt % 4294967296 < 8388608) from by first | with_reducible rfl | with_reducible assumption | omega) _) hT (pr := []) (pcs := [wd_Mpr cs q qr (fun k => if k = 0 then (some h) else none) qf qa qg, wdP cs h r g tf ta pf na ma wa cf ca ef ea xf xa]) hw (oX_call (P := (fun A U H => (oP A g U H))) (pr := []) oG_P hw hA hP) (px_recv hT hw 0 0 rfl rfl rfl) m13_197 m13_194 m13_195 m13_196 m1_22 q_Mpr_wordAt ⟨Nat.le_of_ble_eq_true rfl, Nat.le_of_ble_eq_true rfl⟩ hl.1 rfl (Nat.le_of_ble_eq_true rfl) d_Mpr_load_72 ⟨Nat.le_of_ble_eq_true rfl, Nat.le_of_ble_eq_true rfl⟩) hw hA (fun v89 p88 H locs hp88 hw => ?_)
            subst hp88
            replace hw : pw D A s.heap H locs [wd_Mpr cs q qr (fun k => if k = 0 then (some h) else none) qf qa qg, wdP cs h r g tf ta pf na ma wa cf ca ef ea xf xa] := hw
            have lv89 := Int32.le_toInt v89
            have uv89 := Int32.toInt_lt v89
            refine lv_iload S.x S.b d_Mpr_load_75 (lv_at hl 0 rfl) ?_
            refine lv_iload S.x S.b d_Mpr_load_77 (lv_at hl 0 rfl) ?_
            refine lv_bipush (v := 8) S.x S.b d_Mpr_load_79 (by decide) ?_
            refine lv_iload S.x S.b d_Mpr_load_81 (lv_at hl 5 rfl) ?_
            refine lv_imul S.x S.b d_Mpr_load_83 ?_
            refine lv_topi (fun z90 ez90 => ?_)
            have lz90 := Int32.le_toInt z90
            have uz90 := Int32.toInt_lt z90
            have tz90 : -2147483648 ≤ 8 * x24_4.toInt → 8 * x24_4.toInt < 2147483648 → z90.toInt = 8 * x24_4.toInt := by rw [ez90]; exact i_mulc 8 x24_4 (by decide)
            try replace tz90 : z90.toInt = 8 * x24_4.toInt := by omega
            refine lv_iadd S.x S.b d_Mpr_load_84 ?_
            refine lv_topi (fun z91 ez91 => ?_)
            have tz91 : z91.toInt = (z87.toInt + z90.toInt + 2147483648) % 4294967296 - 2147483648 := by rw [ez91]; exact i_add z87 z90
            have lz91 := Int32.le_toInt z91
            have uz91 := Int32.toInt_lt z91
            try replace tz91 : z91.toInt = z87.toInt + z90.toInt := by omega
            refine lv_iconst (v := 1) S.x S.b d_Mpr_load_85 (by decide) ?_
            refine lv_isub S.x S.b d_Mpr_load_86 ?_
            refine lv_topi (fun z92 ez92 => ?_)
            have tz92 : z92.toInt = (z91.toInt - (1 : Int) + 2147483648) % 4294967296 - 2147483648 := by rw [ez92]; exact i_sub z91 1
            have lz92 := Int32.le_toInt z92
            have uz92 := Int32.toInt_lt z92
            try replace tz92 : z92.toInt = z91.toInt - (1 : Int) := by omega
            refine px_calli (pr := [wd_Mpr cs q qr (fun k => if k = 0 then (some h) else none) qf qa qg, wdP cs h r g tf ta pf na ma wa cf ca ef ea xf xa]) (px_runS (As := [.int v89, .int z87, .int z92]) (rest := []) S (c_mr_bits l D cs  v89 z87 z92   _) hT (pr := [wd_Mpr cs q qr (fun k => if k = 0 then (some h) else none) qf qa qg, wdP cs h r g tf ta pf na ma wa cf ca ef ea xf xa]) (pcs := []) hw px_X.tt m13_212 m13_210 m13_211 m1_22 q_Mpr_bits ⟨Nat.le_of_ble_eq_true rfl, Nat.le_of_ble_eq_true rfl⟩ hl.1 rfl (Nat.le_of_ble_eq_true rfl) d_Mpr_load_87 ⟨Nat.le_of_ble_eq_true rfl, Nat.le_of_ble_eq_true rfl⟩) hw hA (fun v94 p93 H locs hp93 hw => ?_)
            obtain ⟨rfl, e95⟩ := hp93
            replace e95 : z92.toInt = z87.toInt + 4 → 0 ≤ v94.toInt ∧ v94.toInt < 32 := e95
            replace hw : pw D A s.heap H locs [wd_Mpr cs q qr (fun k => if k = 0 then (some h) else none) qf qa qg, wdP cs h r g tf ta pf na ma wa cf ca ef ea xf xa] := hw
            have lv94 := Int32.le_toInt v94
            have uv94 := Int32.toInt_lt v94
            refine lv_istore (lv' := [(6, .int v94), (5, .int z87), (0, .ref q), (1, .int p0), (2, .int p1), (3, .int p2), (4, .int x24_4)]) S.x S.b d_Mpr_load_90 hl (by decide) rfl (fun ls hl => ?_)
            refine lv_iload_n S.x S.b d_Mpr_load_92 rfl (lv_at hl 3 rfl) ?_
            refine lv_iconst (v := 2) S.x S.b d_Mpr_load_93 (by decide) ?_
            refine lv_icmp_ge (tgt := 117) S.x S.b d_Mpr_load_94 (by decide) (fun c96 => ?_) (fun c96 => ?_)
            · have nc96 : (2 : Int) ≤ p0.toInt := (i_le (x := 2) (y := p0)).mp c96
              refine lv_iconst (v := 0) S.x S.b d_Mpr_load_117 (by decide) ?_
              refine lv_istore (lv' := [(7, .int 0), (6, .int v94), (5, .int z87), (0, .ref q), (1, .int p0), (2, .int p1), (3, .int p2), (4, .int x24_4)]) S.x S.b d_Mpr_load_118 hl (by decide) rfl (fun ls hl => ?_)
              exact J120 x24_4 z87 v94 (0 : Int32) _ _ ls (show 0 ≤ (0 : Int) from by first | decide | omega) (show (0 : Int) ≤ 1 from by first | decide | omega) (show 1 ≤ x24_4.toInt from by first | exact k24_0 | omega) (show x24_4.toInt ≤ 4 from by first | exact k24_1 | omega) hw (lv_sub hl [3, 4, 5, 6, 7, 2, 1, 0] rfl)
            · have nc96 : ¬ (2 : Int) ≤ p0.toInt := mt (i_le (x := 2) (y := p0)).mpr c96
              refine lv_iload S.x S.b d_Mpr_load_97 (lv_at hl 0 rfl) ?_
              refine lv_bipush (v := 8) S.x S.b d_Mpr_load_99 (by decide) ?_
              refine lv_iload S.x S.b d_Mpr_load_101 (lv_at hl 6 rfl) ?_
              refine lv_imul S.x S.b d_Mpr_load_103 ?_
              refine lv_topi (fun z97 ez97 => ?_)
              have lz97 := Int32.le_toInt z97
              have uz97 := Int32.toInt_lt z97
              have tz97 : -2147483648 ≤ 8 * x24_4.toInt → 8 * x24_4.toInt < 2147483648 → z97.toInt = 8 * x24_4.toInt := by rw [ez97]; exact i_mulc 8 x24_4 (by decide)
              try replace tz97 : z97.toInt = 8 * x24_4.toInt := by omega
              refine lv_iconst (v := 1) S.x S.b d_Mpr_load_104 (by decide) ?_
              refine lv_isub S.x S.b d_Mpr_load_105 ?_
              refine lv_topi (fun z98 ez98 => ?_)
              have tz98 : z98.toInt = (z97.toInt - (1 : Int) + 2147483648) % 4294967296 - 2147483648 := by rw [ez98]; exact i_sub z97 1
              have lz98 := Int32.le_toInt z98
              have uz98 := Int32.toInt_lt z98
              try replace tz98 : z98.toInt = z97.toInt - (1 : Int) := by omega
              refine lv_ishr S.x S.b d_Mpr_load_106 ?_
              refine lv_topi (fun z99 ez99 => ?_)
              have lz99 := Int32.le_toInt z99
              have uz99 := Int32.toInt_lt z99
              refine lv_iconst (v := 1) S.x S.b d_Mpr_load_107 (by decide) ?_
              refine lv_iand S.x S.b d_Mpr_load_108 ?_
              refine lv_topi (fun z100 ez100 => ?_)
              have lz100 := Int32.le_toInt z100
              have uz100 := Int32.toInt_lt z100
              have bz100 := i_andm z99 (m := 1) 1 (by decide) (by decide)
              rw [← ez100] at bz100
              have wz100 : 0 ≤ z100.toInt ∧ z100.toInt ≤ 1 := by simp only [Nat.reducePow, Int.reducePow] at bz100; omega
              refine lv_iconst (v := 1) S.x S.b d_Mpr_load_109 (by decide) ?_
              refine lv_icmp_ne (tgt := 117) S.x S.b d_Mpr_load_110 (by decide) (fun c101 => ?_) (fun c101 => ?_)
              · have nc101 : ¬ z100.toInt = (1 : Int) := mt (i_eq (x := z100) (y := 1)).mpr c101
                refine lv_iconst (v := 0) S.x S.b d_Mpr_load_117 (by decide) ?_
                refine lv_istore (lv' := [(7, .int 0), (6, .int v94), (5, .int z87), (0, .ref q), (1, .int p0), (2, .int p1), (3, .int p2), (4, .int x24_4)]) S.x S.b d_Mpr_load_118 hl (by decide) rfl (fun ls hl => ?_)
                exact J120 x24_4 z87 v94 (0 : Int32) _ _ ls (show 0 ≤ (0 : Int) from by first | decide | omega) (show (0 : Int) ≤ 1 from by first | decide | omega) (show 1 ≤ x24_4.toInt from by first | exact k24_0 | omega) (show x24_4.toInt ≤ 4 from by first | exact k24_1 | omega) hw (lv_sub hl [3, 4, 5, 6, 7, 2, 1, 0] rfl)
              · have nc101 : z100.toInt = (1 : Int) := (i_eq (x := z100) (y := 1)).mp c101
                refine lv_iconst (v := 1) S.x S.b d_Mpr_load_113 (by decide) ?_
                refine lv_goto (tgt := 118) S.x S.b d_Mpr_load_114 (by decide) ?_
                refine lv_istore (lv' := [(7, .int 1), (6, .int v94), (5, .int z87), (0, .ref q), (1, .int p0), (2, .int p1), (3, .int p2), (4, .int x24_4)]) S.x S.b d_Mpr_load_118 hl (by decide) rfl (fun ls hl => ?_)
                exact J120 x24_4 z87 v94 (1 : Int32) _ _ ls (show 0 ≤ (1 : Int) from by first | decide | omega) (show (1 : Int) ≤ 1 from by first | decide | omega) (show 1 ≤ x24_4.toInt from by first | exact k24_0 | omega) (show x24_4.toInt ≤ 4 from by first | exact k24_1 | omega) hw (lv_sub hl [3, 4, 5, 6, 7, 2, 1, 0] rfl)
          · have nc83 : v79.toInt = (0 : Int) := (i_eq (x := v79) (y := 0)).mp c83
            refine lv_aload_n S.x S.b d_Mpr_load_54 rfl (lv_at hl 0 rfl) ?_
            refine px_calli (pr := []) (px_runV (As := []) (rest := []) S (c_mr_bad l D cs (0 : Int) q qr qg qa qf h r g tf ta pf na ma wa cf ca ef ea xf xa    _) hT (pr := []) (pcs := [wd_Mpr cs q qr (fun k => if k = 0 then (some h) else none) qf qa qg, wdP cs h r g tf ta pf na ma wa cf ca ef ea xf xa]) hw (oX_call (P := (fun A U H => (oP A g U H))) (pr := []) oG_P hw hA hP) (px_recv hT hw 0 0 rfl rfl rfl) m13_225 m13_222 m13_224 ms_15_6 m1_22 q_Mpr_bad ⟨Nat.le_of_ble_eq_true rfl, Nat.le_of_ble_eq_true rfl⟩ hl.1 rfl (Nat.le_of_ble_eq_true rfl) d_Mpr_load_55 ⟨Nat.le_of_ble_eq_true rfl, Nat.le_of_ble_eq_true rfl⟩) hw hA (fun v105 p104 H locs hp104 hw => ?_)
            obtain ⟨qf103, rfl, e106, e107, e108, e109, e110, e111, e112, e113, e114, e115, e116, e117, e118, e119⟩ := hp104
            replace e106 : (qf103 2).toInt = 7 := e106
            replace e107 : (qf103 1).toInt = (qf 1).toInt := e107
            replace e108 : (qf103 4).toInt = (qf 4).toInt := e108
            replace e109 : (qf103 5).toInt = (qf 5).toInt := e109
            replace e110 : (qf103 6).toInt = (qf 6).toInt := e110
            replace e111 : (qf103 7).toInt = (qf 7).toInt := e111
            replace e112 : (qf103 10).toInt = (qf 10).toInt := e112
            replace e113 : (qf103 11).toInt = (qf 11).toInt := e113
            replace e114 : (qf103 12).toInt = (qf 12).toInt := e114
            replace e115 : (qf103 13).toInt = (qf 13).toInt := e115
            replace e116 : (qf103 14).toInt = (qf 14).toInt := e116
            replace e117 : (qf103 21).toInt = (qf 21).toInt := e117
            replace e118 : (qf103 23).toInt = (qf 23).toInt := e118
            replace e119 : (qf103 24).toInt = (qf 24).toInt := e119
            replace hw : pw D A s.heap H locs [wd_Mpr cs q qr (fun k => if k = 0 then (some h) else none) qf103 qa qg, wdP cs h r g tf ta pf na ma wa cf ca ef ea xf xa] := hw
            have lv105 := Int32.le_toInt v105
            have uv105 := Int32.toInt_lt v105
            exact px_iret (v := v105) S hr rfl hlk hAe hw (Nat.le_of_ble_eq_true rfl) (Nat.le_of_ble_eq_true rfl) (⟨qf103, qa, rfl, (show (qf103 2).toInt = (qf 2).toInt ∨ (qf103 2).toInt = 7 from by first | with_reducible rfl | with_reducible assumption | omega), (show (qf103 1).toInt = (qf 1).toInt from by first | exact e107 | omega), (show (qf103 4).toInt = (qf 4).toInt from by first | exact e108 | omega), (show (qf103 5).toInt = (qf 5).toInt from by first | exact e109 | omega), (show (qf103 6).toInt = (qf 6).toInt from by first | exact e110 | omega), (show (qf103 7).toInt = (qf 7).toInt from by first | exact e111 | omega), (show (qf103 10).toInt = (qf 10).toInt from by first | exact e112 | omega), (show (qf103 11).toInt = (qf 11).toInt from by first | exact e113 | omega), (show (qf103 12).toInt = (qf 12).toInt from by first | exact e114 | omega), (show (qf103 13).toInt = (qf 13).toInt from by first | exact e115 | omega), (show (qf103 14).toInt = (qf 14).toInt from by first | exact e116 | omega), (show (qf103 21).toInt = (qf 21).toInt from by first | exact e117 | omega), (show (qf103 23).toInt = (qf 23).toInt from by first | exact e118 | omega), (show (qf103 24).toInt = (qf 24).toInt from by first | exact e119 | omega)⟩) d_Mpr_load_58
  refine lv_iload_n S.x S.b d_Mpr_load_0 rfl (lv_at hl 1 rfl) ?_
  refine lv_iconst (v := 4) S.x S.b d_Mpr_load_1 (by decide) ?_
  refine lv_irem S.x S.b d_Mpr_load_2 (fun hz0 => by have hz1 := i_eq.mp hz0; omega) ?_
  refine lv_topi (fun z120 ez120 => ?_)
  have lz120 := Int32.le_toInt z120
  have uz120 := Int32.toInt_lt z120
  refine lv_if_ne (tgt := 10) S.x S.b d_Mpr_load_3 (by decide) (fun c121 => ?_) (fun c121 => ?_)
  · have nc121 : ¬ z120.toInt = (0 : Int) := mt (i_eq (x := z120) (y := 0)).mpr c121
    refine lv_iload_n S.x S.b d_Mpr_load_10 rfl (lv_at hl 1 rfl) ?_
    refine lv_iconst (v := 4) S.x S.b d_Mpr_load_11 (by decide) ?_
    refine lv_irem S.x S.b d_Mpr_load_12 (fun hz0 => by have hz1 := i_eq.mp hz0; omega) ?_
    refine lv_topi (fun z122 ez122 => ?_)
    have lz122 := Int32.le_toInt z122
    have uz122 := Int32.toInt_lt z122
    refine lv_iconst (v := 1) S.x S.b d_Mpr_load_13 (by decide) ?_
    refine lv_icmp_ne (tgt := 21) S.x S.b d_Mpr_load_14 (by decide) (fun c123 => ?_) (fun c123 => ?_)
    · have nc123 : ¬ z122.toInt = (1 : Int) := mt (i_eq (x := z122) (y := 1)).mpr c123
      refine lv_iconst (v := 4) S.x S.b d_Mpr_load_21 (by decide) ?_
      refine lv_istore (lv' := [(4, .int 4), (0, .ref q), (1, .int p0), (2, .int p1), (3, .int p2)]) S.x S.b d_Mpr_load_22 hl (by decide) rfl (fun ls hl => ?_)
      exact J24 (4 : Int32) _ _ ls (show 1 ≤ (4 : Int) from by first | decide | omega) (show (4 : Int) ≤ 4 from by first | decide | omega) hw (lv_sub hl [1, 2, 3, 4, 0] rfl)
    · have nc123 : z122.toInt = (1 : Int) := (i_eq (x := z122) (y := 1)).mp c123
      refine lv_iconst (v := 2) S.x S.b d_Mpr_load_17 (by decide) ?_
      refine lv_goto (tgt := 22) S.x S.b d_Mpr_load_18 (by decide) ?_
      refine lv_istore (lv' := [(4, .int 2), (0, .ref q), (1, .int p0), (2, .int p1), (3, .int p2)]) S.x S.b d_Mpr_load_22 hl (by decide) rfl (fun ls hl => ?_)
      exact J24 (2 : Int32) _ _ ls (show 1 ≤ (2 : Int) from by first | decide | omega) (show (2 : Int) ≤ 4 from by first | decide | omega) hw (lv_sub hl [1, 2, 3, 4, 0] rfl)
  · have nc121 : z120.toInt = (0 : Int) := (i_eq (x := z120) (y := 0)).mp c121
    refine lv_iconst (v := 1) S.x S.b d_Mpr_load_6 (by decide) ?_
    refine lv_goto (tgt := 22) S.x S.b d_Mpr_load_7 (by decide) ?_
    refine lv_istore (lv' := [(4, .int 1), (0, .ref q), (1, .int p0), (2, .int p1), (3, .int p2)]) S.x S.b d_Mpr_load_22 hl (by decide) rfl (fun ls hl => ?_)
    exact J24 (1 : Int32) _ _ ls (show 1 ≤ (1 : Int) from by first | decide | omega) (show (1 : Int) ≤ 4 from by first | decide | omega) hw (lv_sub hl [1, 2, 3, 4, 0] rfl)
abbrev b_Mpr_store : ByteArray := prog_15_method_38_code
def y_Mpr_store : MethodName := ⟨"HomeSystemModel$Process", "store", "(III)I"⟩
theorem d_Mpr_store_0 : decode b_Mpr_store 0 = .ok (.iload_n 1, 1) := by decide +kernel
theorem d_Mpr_store_1 : decode b_Mpr_store 1 = .ok (.ifCond .ne 7, 3) := by decide +kernel
theorem d_Mpr_store_4 : decode b_Mpr_store 4 = .ok (.iconst 1, 1) := by decide +kernel
theorem d_Mpr_store_5 : decode b_Mpr_store 5 = .ok (.goto 13, 3) := by decide +kernel
theorem d_Mpr_store_8 : decode b_Mpr_store 8 = .ok (.iload_n 1, 1) := by decide +kernel
theorem d_Mpr_store_9 : decode b_Mpr_store 9 = .ok (.iconst 1, 1) := by decide +kernel
theorem d_Mpr_store_10 : decode b_Mpr_store 10 = .ok (.if_icmp .ne 7, 3) := by decide +kernel
theorem d_Mpr_store_13 : decode b_Mpr_store 13 = .ok (.iconst 2, 1) := by decide +kernel
theorem d_Mpr_store_14 : decode b_Mpr_store 14 = .ok (.goto 4, 3) := by decide +kernel
theorem d_Mpr_store_17 : decode b_Mpr_store 17 = .ok (.iconst 4, 1) := by decide +kernel
theorem d_Mpr_store_18 : decode b_Mpr_store 18 = .ok (.istore 4, 2) := by decide +kernel
theorem d_Mpr_store_20 : decode b_Mpr_store 20 = .ok (.iload_n 1, 1) := by decide +kernel
theorem d_Mpr_store_21 : decode b_Mpr_store 21 = .ok (.iconst 2, 1) := by decide +kernel
theorem d_Mpr_store_22 : decode b_Mpr_store 22 = .ok (.if_icmp .gt 23, 3) := by decide +kernel
theorem d_Mpr_store_25 : decode b_Mpr_store 25 = .ok (.iload_n 2, 1) := by decide +kernel
theorem d_Mpr_store_26 : decode b_Mpr_store 26 = .ok (.iconst 0, 1) := by decide +kernel
theorem d_Mpr_store_27 : decode b_Mpr_store 27 = .ok (.iconst 1, 1) := by decide +kernel
theorem d_Mpr_store_28 : decode b_Mpr_store 28 = .ok (.invokestatic 264, 3) := by decide +kernel
theorem d_Mpr_store_31 : decode b_Mpr_store 31 = .ok (.iload 4, 2) := by decide +kernel
theorem d_Mpr_store_33 : decode b_Mpr_store 33 = .ok (.irem, 1) := by decide +kernel
theorem d_Mpr_store_34 : decode b_Mpr_store 34 = .ok (.ifCond .ne 11, 3) := by decide +kernel
theorem d_Mpr_store_37 : decode b_Mpr_store 37 = .ok (.aload_n 0, 1) := by decide +kernel
theorem d_Mpr_store_38 : decode b_Mpr_store 38 = .ok (.iload_n 2, 1) := by decide +kernel
theorem d_Mpr_store_39 : decode b_Mpr_store 39 = .ok (.invokevirtual 298, 3) := by decide +kernel
theorem d_Mpr_store_42 : decode b_Mpr_store 42 = .ok (.ifCond .ne 8, 3) := by decide +kernel
theorem d_Mpr_store_45 : decode b_Mpr_store 45 = .ok (.aload_n 0, 1) := by decide +kernel
theorem d_Mpr_store_46 : decode b_Mpr_store 46 = .ok (.invokevirtual 275, 3) := by decide +kernel
theorem d_Mpr_store_49 : decode b_Mpr_store 49 = .ok (.ireturn, 1) := by decide +kernel
theorem d_Mpr_store_50 : decode b_Mpr_store 50 = .ok (.bipush 8, 2) := by decide +kernel
theorem d_Mpr_store_52 : decode b_Mpr_store 52 = .ok (.iload_n 2, 1) := by decide +kernel
theorem d_Mpr_store_53 : decode b_Mpr_store 53 = .ok (.iconst 0, 1) := by decide +kernel
theorem d_Mpr_store_54 : decode b_Mpr_store 54 = .ok (.iconst 1, 1) := by decide +kernel
theorem d_Mpr_store_55 : decode b_Mpr_store 55 = .ok (.invokestatic 264, 3) := by decide +kernel
theorem d_Mpr_store_58 : decode b_Mpr_store 58 = .ok (.imul, 1) := by decide +kernel
theorem d_Mpr_store_59 : decode b_Mpr_store 59 = .ok (.istore 5, 2) := by decide +kernel
theorem d_Mpr_store_61 : decode b_Mpr_store 61 = .ok (.lconst 1, 1) := by decide +kernel
theorem d_Mpr_store_62 : decode b_Mpr_store 62 = .ok (.bipush 8, 2) := by decide +kernel
theorem d_Mpr_store_64 : decode b_Mpr_store 64 = .ok (.iload 4, 2) := by decide +kernel
theorem d_Mpr_store_66 : decode b_Mpr_store 66 = .ok (.imul, 1) := by decide +kernel
theorem d_Mpr_store_67 : decode b_Mpr_store 67 = .ok (.lshl, 1) := by decide +kernel
theorem d_Mpr_store_68 : decode b_Mpr_store 68 = .ok (.lconst 1, 1) := by decide +kernel
theorem d_Mpr_store_69 : decode b_Mpr_store 69 = .ok (.lsub, 1) := by decide +kernel
theorem d_Mpr_store_70 : decode b_Mpr_store 70 = .ok (.iload 5, 2) := by decide +kernel
theorem d_Mpr_store_72 : decode b_Mpr_store 72 = .ok (.lshl, 1) := by decide +kernel
theorem d_Mpr_store_73 : decode b_Mpr_store 73 = .ok (.lstore 6, 2) := by decide +kernel
theorem d_Mpr_store_75 : decode b_Mpr_store 75 = .ok (.aload_n 0, 1) := by decide +kernel
theorem d_Mpr_store_76 : decode b_Mpr_store 76 = .ok (.iload_n 2, 1) := by decide +kernel
theorem d_Mpr_store_77 : decode b_Mpr_store 77 = .ok (.invokevirtual 258, 3) := by decide +kernel
theorem d_Mpr_store_80 : decode b_Mpr_store 80 = .ok (.invokestatic 223, 3) := by decide +kernel
theorem d_Mpr_store_83 : decode b_Mpr_store 83 = .ok (.lstore 8, 2) := by decide +kernel
theorem d_Mpr_store_85 : decode b_Mpr_store 85 = .ok (.aload_n 0, 1) := by decide +kernel
theorem d_Mpr_store_86 : decode b_Mpr_store 86 = .ok (.iload_n 2, 1) := by decide +kernel
theorem d_Mpr_store_87 : decode b_Mpr_store 87 = .ok (.lload 8, 2) := by decide +kernel
theorem d_Mpr_store_89 : decode b_Mpr_store 89 = .ok (.lload 8, 2) := by decide +kernel
theorem d_Mpr_store_91 : decode b_Mpr_store 91 = .ok (.lload 6, 2) := by decide +kernel
theorem d_Mpr_store_93 : decode b_Mpr_store 93 = .ok (.land, 1) := by decide +kernel
theorem d_Mpr_store_94 : decode b_Mpr_store 94 = .ok (.lsub, 1) := by decide +kernel
theorem d_Mpr_store_95 : decode b_Mpr_store 95 = .ok (.iload_n 3, 1) := by decide +kernel
theorem d_Mpr_store_96 : decode b_Mpr_store 96 = .ok (.invokestatic 223, 3) := by decide +kernel
theorem d_Mpr_store_99 : decode b_Mpr_store 99 = .ok (.iload 5, 2) := by decide +kernel
theorem d_Mpr_store_101 : decode b_Mpr_store 101 = .ok (.lshl, 1) := by decide +kernel
theorem d_Mpr_store_102 : decode b_Mpr_store 102 = .ok (.lload 6, 2) := by decide +kernel
theorem d_Mpr_store_104 : decode b_Mpr_store 104 = .ok (.land, 1) := by decide +kernel
theorem d_Mpr_store_105 : decode b_Mpr_store 105 = .ok (.ladd, 1) := by decide +kernel
theorem d_Mpr_store_106 : decode b_Mpr_store 106 = .ok (.l2i, 1) := by decide +kernel
theorem d_Mpr_store_107 : decode b_Mpr_store 107 = .ok (.invokevirtual 301, 3) := by decide +kernel
theorem d_Mpr_store_110 : decode b_Mpr_store 110 = .ok (.aload_n 0, 1) := by decide +kernel
theorem d_Mpr_store_111 : decode b_Mpr_store 111 = .ok (.getfield 95, 3) := by decide +kernel
theorem d_Mpr_store_114 : decode b_Mpr_store 114 = .ok (.iconst 4, 1) := by decide +kernel
theorem d_Mpr_store_115 : decode b_Mpr_store 115 = .ok (.iadd, 1) := by decide +kernel
theorem d_Mpr_store_116 : decode b_Mpr_store 116 = .ok (.ireturn, 1) := by decide +kernel
theorem q_Mpr_store : px_y y_Mpr_store 3 := by unfold px_y; decide +kernel
set_option maxHeartbeats 4000000 in
set_option maxRecDepth 100000 in
theorem c_mr_store (l : Launch) (D : va_G) (cs : Nat → ClassId) (nf : Int) (q : Nat) (qr : Nat → Nat) (qg : Nat → Nat → Option Nat) (qf : Nat → Int32) (qa : Nat → Nat → Int32) (h : Nat) (r : Nat → Nat) (g : Nat → Nat → Option Nat) (tf : Nat → Int32) (ta : Nat → Nat → Int32) (pf : Nat → Int32) (na : Nat → Nat → Int32) (ma : Nat → Nat → Int32) (wa : Nat → Nat → Int32) (cf : Nat → Int32) (ca : Nat → Nat → Int32) (ef : Nat → Int32) (ea : Nat → Nat → Int32) (xf : Nat → Int32) (xa : Nat → Nat → Int32) (p0 p1 p2 : Int32)  (g0 : 0 ≤ (xf 68).toInt) (g1 : (xf 68).toInt ≤ 512) : MetI l y_Mpr_store b_Mpr_store 10 (.int) D cs 3 110 (0) (0) [.ref q, .int p0, .int p1, .int p2] [wd_Mpr cs q qr (fun k => if k = 0 then (some h) else none) qf qa qg, wdP cs h r g tf ta pf na ma wa cf ca ef ea xf xa] (oX (fun A U H => (oP A g U H)) [wd_Mpr cs q qr (fun k => if k = 0 then (some h) else none) qf qa qg, wdP cs h r g tf ta pf na ma wa cf ca ef ea xf xa]) (fun v ps => ∃ (qf' : Nat → Int32) (qa' : Nat → Nat → Int32), (ps = [wd_Mpr cs q qr (fun k => if k = 0 then (some h) else none) qf' qa' qg, wdP cs h r g tf ta pf na ma wa cf ca ef ea xf xa]) ∧ ((qf' 2).toInt = (qf 2).toInt ∨ (qf' 2).toInt = 7) ∧ ((qf' 1).toInt = (qf 1).toInt) ∧ ((qf' 4).toInt = (qf 4).toInt) ∧ ((qf' 5).toInt = (qf 5).toInt) ∧ ((qf' 6).toInt = (qf 6).toInt) ∧ ((qf' 7).toInt = (qf 7).toInt) ∧ ((qf' 10).toInt = (qf 10).toInt) ∧ ((qf' 11).toInt = (qf 11).toInt) ∧ ((qf' 12).toInt = (qf 12).toInt) ∧ ((qf' 13).toInt = (qf 13).toInt) ∧ ((qf' 14).toInt = (qf 14).toInt) ∧ ((qf' 21).toInt = (qf 21).toInt) ∧ ((qf' 23).toInt = (qf 23).toInt) ∧ ((qf' 24).toInt = (qf 24).toInt)) := by
  refine px_enter (by decide) (Nat.le_of_ble_eq_true rfl) ?_
  intro p e s m below meth c A ls hAe S hr hlk hnm hA hT hX hw hl
  replace hl : lv_has ls 10 [(0, .ref q), (1, .int p0), (2, .int p1), (3, .int p2)] := hl
  have lp0 := Int32.le_toInt p0
  have up0 := Int32.toInt_lt p0
  have lp1 := Int32.le_toInt p1
  have up1 := Int32.toInt_lt p1
  have lp2 := Int32.le_toInt p2
  have up2 := Int32.toInt_lt p2
  have cst0 : (0 : Int32).toInt = 0 := rfl
  have cst1 : (1 : Int32).toInt = 1 := rfl
  have cst2 : (2 : Int32).toInt = 2 := rfl
  have cst4 : (4 : Int32).toInt = 4 := rfl
  have cst8 : (8 : Int32).toInt = 8 := rfl
  have hX : (fun A U H => (oP A g U H)) A s s.heap := by rw [hAe]; exact hX
  have hP := hX
  have hZ := hP.1
  have hF0 := hP.2.1
  have J20 : ∀  (x20_4 : Int32) (H : Heap) (locs : List Loc) (ls : Array Slot), (1 ≤ x20_4.toInt) → (x20_4.toInt ≤ 4) → pw D A s.heap H locs [wd_Mpr cs q qr (fun k => if k = 0 then (some h) else none) qf qa qg, wdP cs h r g tf ta pf na ma wa cf ca ef ea xf xa] → lv_has ls 10 [(0, .ref q), (1, .int p0), (2, .int p1), (3, .int p2), (4, .int x20_4)] → W p l e { frames := 3, cells := 0, slots := 0, locals := 110 } s m [.ref q, .int p0, .int p1, .int p2].toArray below meth c H locs 0 0 (MQ below (va_Qi (fun v ps => ∃ (qf' : Nat → Int32) (qa' : Nat → Nat → Int32), (ps = [wd_Mpr cs q qr (fun k => if k = 0 then (some h) else none) qf' qa' qg, wdP cs h r g tf ta pf na ma wa cf ca ef ea xf xa]) ∧ ((qf' 2).toInt = (qf 2).toInt ∨ (qf' 2).toInt = 7) ∧ ((qf' 1).toInt = (qf 1).toInt) ∧ ((qf' 4).toInt = (qf 4).toInt) ∧ ((qf' 5).toInt = (qf 5).toInt) ∧ ((qf' 6).toInt = (qf 6).toInt) ∧ ((qf' 7).toInt = (qf 7).toInt) ∧ ((qf' 10).toInt = (qf 10).toInt) ∧ ((qf' 11).toInt = (qf 11).toInt) ∧ ((qf' 12).toInt = (qf 12).toInt) ∧ ((qf' 13).toInt = (qf 13).toInt) ∧ ((qf' 14).toInt = (qf 14).toInt) ∧ ((qf' 21).toInt = (qf 21).toInt) ∧ ((qf' 23).toInt = (qf 23).toInt) ∧ ((qf' 24).toInt = (qf 24).toInt)) (pc_B D (va_A ([wd_Mpr cs q qr (fun k => if k = 0 then (some h) else none) qf qa qg, wdP cs h r g tf ta pf na ma wa cf ca ef ea xf xa] : List va_W).flatten s.heap.size)) (va_A ([wd_Mpr cs q qr (fun k => if k = 0 then (some h) else none) qf qa qg, wdP cs h r g tf ta pf na ma wa cf ca ef ea xf xa] : List va_W).flatten s.heap.size)) [.ref q, .int p0, .int p1, .int p2].toArray s 0 0 A) (F0 m 20 ls []) := by
    intro x20_4 H locs ls k20_0 k20_1 hw hl
    have lx20_4 := Int32.le_toInt x20_4
    have ux20_4 := Int32.toInt_lt x20_4
    refine lv_iload_n S.x S.b d_Mpr_store_20 rfl (lv_at hl 1 rfl) ?_
    refine lv_iconst (v := 2) S.x S.b d_Mpr_store_21 (by decide) ?_
    refine lv_icmp_gt (tgt := 45) S.x S.b d_Mpr_store_22 (by decide) (fun c1 => ?_) (fun c1 => ?_)
    · have nc1 : (2 : Int) < p0.toInt := (i_lt (x := 2) (y := p0)).mp c1
      refine lv_aload_n S.x S.b d_Mpr_store_45 rfl (lv_at hl 0 rfl) ?_
      refine px_calli (pr := []) (px_runV (As := []) (rest := []) S (c_mr_bad l D cs (0 : Int) q qr qg qa qf h r g tf ta pf na ma wa cf ca ef ea xf xa    _) hT (pr := []) (pcs := [wd_Mpr cs q qr (fun k => if k = 0 then (some h) else none) qf qa qg, wdP cs h r g tf ta pf na ma wa cf ca ef ea xf xa]) hw (oX_call (P := (fun A U H => (oP A g U H))) (pr := []) oG_P hw hA hP) (px_recv hT hw 0 0 rfl rfl rfl) m13_225 m13_222 m13_224 ms_15_6 m1_22 q_Mpr_bad ⟨Nat.le_of_ble_eq_true rfl, Nat.le_of_ble_eq_true rfl⟩ hl.1 rfl (Nat.le_of_ble_eq_true rfl) d_Mpr_store_46 ⟨Nat.le_of_ble_eq_true rfl, Nat.le_of_ble_eq_true rfl⟩) hw hA (fun v5 p4 H locs hp4 hw => ?_)
      obtain ⟨qf3, rfl, e6, e7, e8, e9, e10, e11, e12, e13, e14, e15, e16, e17, e18, e19⟩ := hp4
      replace e6 : (qf3 2).toInt = 7 := e6
      replace e7 : (qf3 1).toInt = (qf 1).toInt := e7
      replace e8 : (qf3 4).toInt = (qf 4).toInt := e8
      replace e9 : (qf3 5).toInt = (qf 5).toInt := e9
      replace e10 : (qf3 6).toInt = (qf 6).toInt := e10
      replace e11 : (qf3 7).toInt = (qf 7).toInt := e11
      replace e12 : (qf3 10).toInt = (qf 10).toInt := e12
      replace e13 : (qf3 11).toInt = (qf 11).toInt := e13
      replace e14 : (qf3 12).toInt = (qf 12).toInt := e14
      replace e15 : (qf3 13).toInt = (qf 13).toInt := e15
      replace e16 : (qf3 14).toInt = (qf 14).toInt := e16
      replace e17 : (qf3 21).toInt = (qf 21).toInt := e17
      replace e18 : (qf3 23).toInt = (qf 23).toInt := e18
      replace e19 : (qf3 24).toInt = (qf 24).toInt := e19
      replace hw : pw D A s.heap H locs [wd_Mpr cs q qr (fun k => if k = 0 then (some h) else none) qf3 qa qg, wdP cs h r g tf ta pf na ma wa cf ca ef ea xf xa] := hw
      have lv5 := Int32.le_toInt v5
      have uv5 := Int32.toInt_lt v5
      exact px_iret (v := v5) S hr rfl hlk hAe hw (Nat.le_of_ble_eq_true rfl) (Nat.le_of_ble_eq_true rfl) (⟨qf3, qa, rfl, (show (qf3 2).toInt = (qf 2).toInt ∨ (qf3 2).toInt = 7 from by first | with_reducible rfl | with_reducible assumption | omega), (show (qf3 1).toInt = (qf 1).toInt from by first | exact e7 | omega), (show (qf3 4).toInt = (qf 4).toInt from by first | exact e8 | omega), (show (qf3 5).toInt = (qf 5).toInt from by first | exact e9 | omega), (show (qf3 6).toInt = (qf 6).toInt from by first | exact e10 | omega), (show (qf3 7).toInt = (qf 7).toInt from by first | exact e11 | omega), (show (qf3 10).toInt = (qf 10).toInt from by first | exact e12 | omega), (show (qf3 11).toInt = (qf 11).toInt from by first | exact e13 | omega), (show (qf3 12).toInt = (qf 12).toInt from by first | exact e14 | omega), (show (qf3 13).toInt = (qf 13).toInt from by first | exact e15 | omega), (show (qf3 14).toInt = (qf 14).toInt from by first | exact e16 | omega), (show (qf3 21).toInt = (qf 21).toInt from by first | exact e17 | omega), (show (qf3 23).toInt = (qf 23).toInt from by first | exact e18 | omega), (show (qf3 24).toInt = (qf 24).toInt from by first | exact e19 | omega)⟩) d_Mpr_store_49
    · have nc1 : ¬ (2 : Int) < p0.toInt := mt (i_lt (x := 2) (y := p0)).mpr c1
      refine lv_iload_n S.x S.b d_Mpr_store_25 rfl (lv_at hl 2 rfl) ?_
      refine lv_iconst (v := 0) S.x S.b d_Mpr_store_26 (by decide) ?_
      refine lv_iconst (v := 1) S.x S.b d_Mpr_store_27 (by decide) ?_
      refine px_calli (pr := [wd_Mpr cs q qr (fun k => if k = 0 then (some h) else none) qf qa qg, wdP cs h r g tf ta pf na ma wa cf ca ef ea xf xa]) (px_runS (As := [.int p1, .int 0, .int 1]) (rest := []) S (c_mr_bits l D cs  p1 0 1   _) hT (pr := [wd_Mpr cs q qr (fun k => if k = 0 then (some h) else none) qf qa qg, wdP cs h r g tf ta pf na ma wa cf ca ef ea xf xa]) (pcs := []) hw px_X.tt m13_212 m13_210 m13_211 m1_22 q_Mpr_bits ⟨Nat.le_of_ble_eq_true rfl, Nat.le_of_ble_eq_true rfl⟩ hl.1 rfl (Nat.le_of_ble_eq_true rfl) d_Mpr_store_28 ⟨Nat.le_of_ble_eq_true rfl, Nat.le_of_ble_eq_true rfl⟩) hw hA (fun v21 p20 H locs hp20 hw => ?_)
      obtain ⟨rfl, e22⟩ := hp20
      replace e22 : (1 : Int) = (0 : Int) + 4 → 0 ≤ v21.toInt ∧ v21.toInt < 32 := e22
      replace hw : pw D A s.heap H locs [wd_Mpr cs q qr (fun k => if k = 0 then (some h) else none) qf qa qg, wdP cs h r g tf ta pf na ma wa cf ca ef ea xf xa] := hw
      have lv21 := Int32.le_toInt v21
      have uv21 := Int32.toInt_lt v21
      refine lv_iload S.x S.b d_Mpr_store_31 (lv_at hl 4 rfl) ?_
      refine lv_irem S.x S.b d_Mpr_store_33 (fun hz0 => by have hz1 := i_eq.mp hz0; omega) ?_
      refine lv_topi (fun z23 ez23 => ?_)
      have lz23 := Int32.le_toInt z23
      have uz23 := Int32.toInt_lt z23
      refine lv_if_ne (tgt := 45) S.x S.b d_Mpr_store_34 (by decide) (fun c24 => ?_) (fun c24 => ?_)
      · have nc24 : ¬ z23.toInt = (0 : Int) := mt (i_eq (x := z23) (y := 0)).mpr c24
        refine lv_aload_n S.x S.b d_Mpr_store_45 rfl (lv_at hl 0 rfl) ?_
        refine px_calli (pr := []) (px_runV (As := []) (rest := []) S (c_mr_bad l D cs (0 : Int) q qr qg qa qf h r g tf ta pf na ma wa cf ca ef ea xf xa    _) hT (pr := []) (pcs := [wd_Mpr cs q qr (fun k => if k = 0 then (some h) else none) qf qa qg, wdP cs h r g tf ta pf na ma wa cf ca ef ea xf xa]) hw (oX_call (P := (fun A U H => (oP A g U H))) (pr := []) oG_P hw hA hP) (px_recv hT hw 0 0 rfl rfl rfl) m13_225 m13_222 m13_224 ms_15_6 m1_22 q_Mpr_bad ⟨Nat.le_of_ble_eq_true rfl, Nat.le_of_ble_eq_true rfl⟩ hl.1 rfl (Nat.le_of_ble_eq_true rfl) d_Mpr_store_46 ⟨Nat.le_of_ble_eq_true rfl, Nat.le_of_ble_eq_true rfl⟩) hw hA (fun v28 p27 H locs hp27 hw => ?_)
        obtain ⟨qf26, rfl, e29, e30, e31, e32, e33, e34, e35, e36, e37, e38, e39, e40, e41, e42⟩ := hp27
        replace e29 : (qf26 2).toInt = 7 := e29
        replace e30 : (qf26 1).toInt = (qf 1).toInt := e30
        replace e31 : (qf26 4).toInt = (qf 4).toInt := e31
        replace e32 : (qf26 5).toInt = (qf 5).toInt := e32
        replace e33 : (qf26 6).toInt = (qf 6).toInt := e33
        replace e34 : (qf26 7).toInt = (qf 7).toInt := e34
        replace e35 : (qf26 10).toInt = (qf 10).toInt := e35
        replace e36 : (qf26 11).toInt = (qf 11).toInt := e36
        replace e37 : (qf26 12).toInt = (qf 12).toInt := e37
        replace e38 : (qf26 13).toInt = (qf 13).toInt := e38
        replace e39 : (qf26 14).toInt = (qf 14).toInt := e39
        replace e40 : (qf26 21).toInt = (qf 21).toInt := e40
        replace e41 : (qf26 23).toInt = (qf 23).toInt := e41
        replace e42 : (qf26 24).toInt = (qf 24).toInt := e42
        replace hw : pw D A s.heap H locs [wd_Mpr cs q qr (fun k => if k = 0 then (some h) else none) qf26 qa qg, wdP cs h r g tf ta pf na ma wa cf ca ef ea xf xa] := hw
        have lv28 := Int32.le_toInt v28
        have uv28 := Int32.toInt_lt v28
        exact px_iret (v := v28) S hr rfl hlk hAe hw (Nat.le_of_ble_eq_true rfl) (Nat.le_of_ble_eq_true rfl) (⟨qf26, qa, rfl, (show (qf26 2).toInt = (qf 2).toInt ∨ (qf26 2).toInt = 7 from by first | with_reducible rfl | with_reducible assumption | omega), (show (qf26 1).toInt = (qf 1).toInt from by first | exact e30 | omega), (show (qf26 4).toInt = (qf 4).toInt from by first | exact e31 | omega), (show (qf26 5).toInt = (qf 5).toInt from by first | exact e32 | omega), (show (qf26 6).toInt = (qf 6).toInt from by first | exact e33 | omega), (show (qf26 7).toInt = (qf 7).toInt from by first | exact e34 | omega), (show (qf26 10).toInt = (qf 10).toInt from by first | exact e35 | omega), (show (qf26 11).toInt = (qf 11).toInt from by first | exact e36 | omega), (show (qf26 12).toInt = (qf 12).toInt from by first | exact e37 | omega), (show (qf26 13).toInt = (qf 13).toInt from by first | exact e38 | omega), (show (qf26 14).toInt = (qf 14).toInt from by first | exact e39 | omega), (show (qf26 21).toInt = (qf 21).toInt from by first | exact e40 | omega), (show (qf26 23).toInt = (qf 23).toInt from by first | exact e41 | omega), (show (qf26 24).toInt = (qf 24).toInt from by first | exact e42 | omega)⟩) d_Mpr_store_49
      · have nc24 : z23.toInt = (0 : Int) := (i_eq (x := z23) (y := 0)).mp c24
        refine lv_aload_n S.x S.b d_Mpr_store_37 rfl (lv_at hl 0 rfl) ?_
        refine lv_iload_n S.x S.b d_Mpr_store_38 rfl (lv_at hl 2 rfl) ?_
        refine px_calli (pr := []) (px_runV (As := [.int p1]) (rest := []) S (c_mr_canWrite l D cs (0 : Int) q qr qg qf qa h r g tf ta pf na ma wa cf ca ef ea xf xa p1   _) hT (pr := []) (pcs := [wd_Mpr cs q qr (fun k => if k = 0 then (some h) else none) qf qa qg, wdP cs h r g tf ta pf na ma wa cf ca ef ea xf xa]) hw (oX_call (P := (fun A U H => (oP A g U H))) (pr := []) oG_P hw hA hP) (px_recv hT hw 0 0 rfl rfl rfl) m14_5 m14_2 m14_3 m14_4 m1_22 q_Mpr_canWrite ⟨Nat.le_of_ble_eq_true rfl, Nat.le_of_ble_eq_true rfl⟩ hl.1 rfl (Nat.le_of_ble_eq_true rfl) d_Mpr_store_39 ⟨Nat.le_of_ble_eq_true rfl, Nat.le_of_ble_eq_true rfl⟩) hw hA (fun v44 p43 H locs hp43 hw => ?_)
        obtain ⟨rfl, e45, e46, e47⟩ := hp43
        replace e45 : 0 ≤ v44.toInt := e45
        replace e46 : v44.toInt ≤ 1 := e46
        replace e47 : v44.toInt = 1 → (5242880 ≤ p1.toInt % 4294967296 ∧ p1.toInt % 4294967296 < 5259264) ∨ (8257536 ≤ p1.toInt % 4294967296 ∧ p1.toInt % 4294967296 < 8388608) := e47
        replace hw : pw D A s.heap H locs [wd_Mpr cs q qr (fun k => if k = 0 then (some h) else none) qf qa qg, wdP cs h r g tf ta pf na ma wa cf ca ef ea xf xa] := hw
        have lv44 := Int32.le_toInt v44
        have uv44 := Int32.toInt_lt v44
        refine lv_if_ne (tgt := 50) S.x S.b d_Mpr_store_42 (by decide) (fun c48 => ?_) (fun c48 => ?_)
        · have nc48 : ¬ v44.toInt = (0 : Int) := mt (i_eq (x := v44) (y := 0)).mpr c48
          refine lv_bipush (v := 8) S.x S.b d_Mpr_store_50 (by decide) ?_
          refine lv_iload_n S.x S.b d_Mpr_store_52 rfl (lv_at hl 2 rfl) ?_
          refine lv_iconst (v := 0) S.x S.b d_Mpr_store_53 (by decide) ?_
          refine lv_iconst (v := 1) S.x S.b d_Mpr_store_54 (by decide) ?_
          refine px_calli (pr := [wd_Mpr cs q qr (fun k => if k = 0 then (some h) else none) qf qa qg, wdP cs h r g tf ta pf na ma wa cf ca ef ea xf xa]) (px_runS (As := [.int p1, .int 0, .int 1]) (rest := [.int 8]) S (c_mr_bits l D cs  p1 0 1   _) hT (pr := [wd_Mpr cs q qr (fun k => if k = 0 then (some h) else none) qf qa qg, wdP cs h r g tf ta pf na ma wa cf ca ef ea xf xa]) (pcs := []) hw px_X.tt m13_212 m13_210 m13_211 m1_22 q_Mpr_bits ⟨Nat.le_of_ble_eq_true rfl, Nat.le_of_ble_eq_true rfl⟩ hl.1 rfl (Nat.le_of_ble_eq_true rfl) d_Mpr_store_55 ⟨Nat.le_of_ble_eq_true rfl, Nat.le_of_ble_eq_true rfl⟩) hw hA (fun v50 p49 H locs hp49 hw => ?_)
          obtain ⟨rfl, e51⟩ := hp49
          replace e51 : (1 : Int) = (0 : Int) + 4 → 0 ≤ v50.toInt ∧ v50.toInt < 32 := e51
          replace hw : pw D A s.heap H locs [wd_Mpr cs q qr (fun k => if k = 0 then (some h) else none) qf qa qg, wdP cs h r g tf ta pf na ma wa cf ca ef ea xf xa] := hw
          have lv50 := Int32.le_toInt v50
          have uv50 := Int32.toInt_lt v50
          refine lv_imul S.x S.b d_Mpr_store_58 ?_
          refine lv_topi (fun z52 ez52 => ?_)
          have lz52 := Int32.le_toInt z52
          have uz52 := Int32.toInt_lt z52
          have tz52 : -2147483648 ≤ 8 * v50.toInt → 8 * v50.toInt < 2147483648 → z52.toInt = 8 * v50.toInt := by rw [ez52]; exact i_mulc 8 v50 (by decide)
          try replace tz52 : z52.toInt = 8 * v50.toInt := by omega
          refine lv_istore (lv' := [(5, .int z52), (0, .ref q), (1, .int p0), (2, .int p1), (3, .int p2), (4, .int x20_4)]) S.x S.b d_Mpr_store_59 hl (by decide) rfl (fun ls hl => ?_)
          refine lv_lconst (v := 1) S.x S.b d_Mpr_store_61 (by decide) ?_
          refine lv_bipush (v := 8) S.x S.b d_Mpr_store_62 (by decide) ?_
          refine lv_iload S.x S.b d_Mpr_store_64 (lv_at hl 5 rfl) ?_
          refine lv_imul S.x S.b d_Mpr_store_66 ?_
          refine lv_topi (fun z53 ez53 => ?_)
          have lz53 := Int32.le_toInt z53
          have uz53 := Int32.toInt_lt z53
          have tz53 : -2147483648 ≤ 8 * x20_4.toInt → 8 * x20_4.toInt < 2147483648 → z53.toInt = 8 * x20_4.toInt := by rw [ez53]; exact i_mulc 8 x20_4 (by decide)
          try replace tz53 : z53.toInt = 8 * x20_4.toInt := by omega
          refine lv_lshl S.x S.b d_Mpr_store_67 rfl ?_
          refine lv_topl (fun z54 ez54 => ?_)
          refine lv_lconst (v := 1) S.x S.b d_Mpr_store_68 (by decide) ?_
          refine lv_lsub S.x S.b d_Mpr_store_69 ?_
          refine lv_topl (fun z55 ez55 => ?_)
          refine lv_iload S.x S.b d_Mpr_store_70 (lv_at hl 0 rfl) ?_
          refine lv_lshl S.x S.b d_Mpr_store_72 rfl ?_
          refine lv_topl (fun z56 ez56 => ?_)
          refine lv_lstore (lv' := [(6, .long z56), (5, .int z52), (0, .ref q), (1, .int p0), (2, .int p1), (3, .int p2), (4, .int x20_4)]) S.x S.b d_Mpr_store_73 hl (by decide) rfl (fun ls hl => ?_)
          refine lv_aload_n S.x S.b d_Mpr_store_75 rfl (lv_at hl 2 rfl) ?_
          refine lv_iload_n S.x S.b d_Mpr_store_76 rfl (lv_at hl 4 rfl) ?_
          refine px_calli (pr := []) (px_runV (As := [.int p1]) (rest := []) S (c_mr_wordAt l D cs (0 : Int) q qr qg qf qa h r g tf ta pf na ma wa cf ca ef ea xf xa p1  (show 0 ≤ (xf 68).toInt from by first | exact g0 | omega) (show (xf 68).toInt ≤ 512 from by first | exact g1 | omega) (show (4194304 ≤ p1.toInt % 4294967296 ∧ p1.toInt % 4294967296 < 4194304 + (4 * (xf 68).toInt + 4095) / 4096 * 4096) ∨ (5242880 ≤ p1.toInt % 4294967296 ∧ p1.toInt % 4294967296 < 5259264) ∨ (8257536 ≤ p1.toInt % 4294967296 ∧ p1.toInt % 4294967296 < 8388608) from by first | with_reducible rfl | with_reducible assumption | omega) _) hT (pr := []) (pcs := [wd_Mpr cs q qr (fun k => if k = 0 then (some h) else none) qf qa qg, wdP cs h r g tf ta pf na ma wa cf ca ef ea xf xa]) hw (oX_call (P := (fun A U H => (oP A g U H))) (pr := []) oG_P hw hA hP) (px_recv hT hw 0 0 rfl rfl rfl) m13_197 m13_194 m13_195 m13_196 m1_22 q_Mpr_wordAt ⟨Nat.le_of_ble_eq_true rfl, Nat.le_of_ble_eq_true rfl⟩ hl.1 rfl (Nat.le_of_ble_eq_true rfl) d_Mpr_store_77 ⟨Nat.le_of_ble_eq_true rfl, Nat.le_of_ble_eq_true rfl⟩) hw hA (fun v58 p57 H locs hp57 hw => ?_)
          subst hp57
          replace hw : pw D A s.heap H locs [wd_Mpr cs q qr (fun k => if k = 0 then (some h) else none) qf qa qg, wdP cs h r g tf ta pf na ma wa cf ca ef ea xf xa] := hw
          have lv58 := Int32.le_toInt v58
          have uv58 := Int32.toInt_lt v58
          refine px_calll (pr := [wd_Mpr cs q qr (fun k => if k = 0 then (some h) else none) qf qa qg, wdP cs h r g tf ta pf na ma wa cf ca ef ea xf xa]) (px_runS (As := [.int v58]) (rest := []) S (c_mr_plain l D cs  v58   _) hT (pr := [wd_Mpr cs q qr (fun k => if k = 0 then (some h) else none) qf qa qg, wdP cs h r g tf ta pf na ma wa cf ca ef ea xf xa]) (pcs := []) hw px_X.tt m13_188 m13_186 m13_187 m1_22 q_Mpr_plain ⟨Nat.le_of_ble_eq_true rfl, Nat.le_of_ble_eq_true rfl⟩ hl.1 rfl (Nat.le_of_ble_eq_true rfl) d_Mpr_store_80 ⟨Nat.le_of_ble_eq_true rfl, Nat.le_of_ble_eq_true rfl⟩) hw hA (fun v60 p59 H locs hp59 hw => ?_)
          obtain ⟨rfl, e61⟩ := hp59
          replace e61 : v60.toInt = v58.toInt % 4294967296 := e61
          replace hw : pw D A s.heap H locs [wd_Mpr cs q qr (fun k => if k = 0 then (some h) else none) qf qa qg, wdP cs h r g tf ta pf na ma wa cf ca ef ea xf xa] := hw
          refine lv_lstore (lv' := [(8, .long v60), (6, .long z56), (5, .int z52), (0, .ref q), (1, .int p0), (2, .int p1), (3, .int p2), (4, .int x20_4)]) S.x S.b d_Mpr_store_83 hl (by decide) rfl (fun ls hl => ?_)
          refine lv_aload_n S.x S.b d_Mpr_store_85 rfl (lv_at hl 3 rfl) ?_
          refine lv_iload_n S.x S.b d_Mpr_store_86 rfl (lv_at hl 5 rfl) ?_
          refine lv_lload S.x S.b d_Mpr_store_87 (lv_at hl 0 rfl) ?_
          refine lv_lload S.x S.b d_Mpr_store_89 (lv_at hl 0 rfl) ?_
          refine lv_lload S.x S.b d_Mpr_store_91 (lv_at hl 1 rfl) ?_
          refine lv_land S.x S.b d_Mpr_store_93 ?_
          refine lv_topl (fun z62 ez62 => ?_)
          refine lv_lsub S.x S.b d_Mpr_store_94 ?_
          refine lv_topl (fun z63 ez63 => ?_)
          refine lv_iload_n S.x S.b d_Mpr_store_95 rfl (lv_at hl 6 rfl) ?_
          refine px_calll (pr := [wd_Mpr cs q qr (fun k => if k = 0 then (some h) else none) qf qa qg, wdP cs h r g tf ta pf na ma wa cf ca ef ea xf xa]) (px_runS (As := [.int p2]) (rest := [.long z63, .int p1, .ref q]) S (c_mr_plain l D cs  p2   _) hT (pr := [wd_Mpr cs q qr (fun k => if k = 0 then (some h) else none) qf qa qg, wdP cs h r g tf ta pf na ma wa cf ca ef ea xf xa]) (pcs := []) hw px_X.tt m13_188 m13_186 m13_187 m1_22 q_Mpr_plain ⟨Nat.le_of_ble_eq_true rfl, Nat.le_of_ble_eq_true rfl⟩ hl.1 rfl (Nat.le_of_ble_eq_true rfl) d_Mpr_store_96 ⟨Nat.le_of_ble_eq_true rfl, Nat.le_of_ble_eq_true rfl⟩) hw hA (fun v65 p64 H locs hp64 hw => ?_)
          obtain ⟨rfl, e66⟩ := hp64
          replace e66 : v65.toInt = p2.toInt % 4294967296 := e66
          replace hw : pw D A s.heap H locs [wd_Mpr cs q qr (fun k => if k = 0 then (some h) else none) qf qa qg, wdP cs h r g tf ta pf na ma wa cf ca ef ea xf xa] := hw
          refine lv_iload S.x S.b d_Mpr_store_99 (lv_at hl 2 rfl) ?_
          refine lv_lshl S.x S.b d_Mpr_store_101 rfl ?_
          refine lv_topl (fun z67 ez67 => ?_)
          refine lv_lload S.x S.b d_Mpr_store_102 (lv_at hl 1 rfl) ?_
          refine lv_land S.x S.b d_Mpr_store_104 ?_
          refine lv_topl (fun z68 ez68 => ?_)
          refine lv_ladd S.x S.b d_Mpr_store_105 ?_
          refine lv_topl (fun z69 ez69 => ?_)
          refine lv_l2i S.x S.b d_Mpr_store_106 rfl ?_
          refine lv_topi (fun z70 ez70 => ?_)
          have lz70 := Int32.le_toInt z70
          have uz70 := Int32.toInt_lt z70
          refine px_callv (pr := []) (px_runV (As := [.int p1, .int z70]) (rest := []) S (c_mr_setWord l D cs (0 : Int) q qr qg qf qa h r g tf ta pf na ma wa cf ca ef ea xf xa p1 z70  (show (5242880 ≤ p1.toInt % 4294967296 ∧ p1.toInt % 4294967296 < 5259264) ∨ (8257536 ≤ p1.toInt % 4294967296 ∧ p1.toInt % 4294967296 < 8388608) from by first | with_reducible rfl | with_reducible assumption | omega) _) hT (pr := []) (pcs := [wd_Mpr cs q qr (fun k => if k = 0 then (some h) else none) qf qa qg, wdP cs h r g tf ta pf na ma wa cf ca ef ea xf xa]) hw (oX_call (P := (fun A U H => (oP A g U H))) (pr := []) oG_P hw hA hP) (px_recv hT hw 0 0 rfl rfl rfl) m14_9 m14_6 m14_7 m14_8 m1_22 q_Mpr_setWord ⟨Nat.le_of_ble_eq_true rfl, Nat.le_of_ble_eq_true rfl⟩ hl.1 rfl (Nat.le_of_ble_eq_true rfl) d_Mpr_store_107 ⟨Nat.le_of_ble_eq_true rfl, Nat.le_of_ble_eq_true rfl⟩) hw hA (fun p73 H locs hp73 hw => ?_)
          obtain ⟨qa72, rfl⟩ := hp73
          replace hw : pw D A s.heap H locs [wd_Mpr cs q qr (fun k => if k = 0 then (some h) else none) qf qa72 qg, wdP cs h r g tf ta pf na ma wa cf ca ef ea xf xa] := hw
          refine lv_aload_n S.x S.b d_Mpr_store_110 rfl (lv_at hl 3 rfl) ?_
          refine px_get S k_Mpr hT hw 0 0 11 (v := .int (qf 11)) rfl rfl rfl (by decide) m11_2 d_Mpr_store_111 ?_
          refine lv_iconst (v := 4) S.x S.b d_Mpr_store_114 (by decide) ?_
          refine lv_iadd S.x S.b d_Mpr_store_115 ?_
          have lr75 := Int32.le_toInt (qf 11)
          have ur75 := Int32.toInt_lt (qf 11)
          refine lv_topi (fun z76 ez76 => ?_)
          have tz76 : z76.toInt = ((qf 11).toInt + (4 : Int) + 2147483648) % 4294967296 - 2147483648 := by rw [ez76]; exact i_add (qf 11) 4
          have lz76 := Int32.le_toInt z76
          have uz76 := Int32.toInt_lt z76
          try replace tz76 : z76.toInt = (qf 11).toInt + (4 : Int) := by omega
          exact px_iret (v := z76) S hr rfl hlk hAe hw (Nat.le_of_ble_eq_true rfl) (Nat.le_of_ble_eq_true rfl) (⟨qf, qa72, rfl, (show (qf 2).toInt = (qf 2).toInt ∨ (qf 2).toInt = 7 from by first | with_reducible rfl | with_reducible assumption | omega), (show (qf 1).toInt = (qf 1).toInt from rfl), (show (qf 4).toInt = (qf 4).toInt from rfl), (show (qf 5).toInt = (qf 5).toInt from rfl), (show (qf 6).toInt = (qf 6).toInt from rfl), (show (qf 7).toInt = (qf 7).toInt from rfl), (show (qf 10).toInt = (qf 10).toInt from rfl), (show (qf 11).toInt = (qf 11).toInt from rfl), (show (qf 12).toInt = (qf 12).toInt from rfl), (show (qf 13).toInt = (qf 13).toInt from rfl), (show (qf 14).toInt = (qf 14).toInt from rfl), (show (qf 21).toInt = (qf 21).toInt from rfl), (show (qf 23).toInt = (qf 23).toInt from rfl), (show (qf 24).toInt = (qf 24).toInt from rfl)⟩) d_Mpr_store_116
        · have nc48 : v44.toInt = (0 : Int) := (i_eq (x := v44) (y := 0)).mp c48
          refine lv_aload_n S.x S.b d_Mpr_store_45 rfl (lv_at hl 0 rfl) ?_
          refine px_calli (pr := []) (px_runV (As := []) (rest := []) S (c_mr_bad l D cs (0 : Int) q qr qg qa qf h r g tf ta pf na ma wa cf ca ef ea xf xa    _) hT (pr := []) (pcs := [wd_Mpr cs q qr (fun k => if k = 0 then (some h) else none) qf qa qg, wdP cs h r g tf ta pf na ma wa cf ca ef ea xf xa]) hw (oX_call (P := (fun A U H => (oP A g U H))) (pr := []) oG_P hw hA hP) (px_recv hT hw 0 0 rfl rfl rfl) m13_225 m13_222 m13_224 ms_15_6 m1_22 q_Mpr_bad ⟨Nat.le_of_ble_eq_true rfl, Nat.le_of_ble_eq_true rfl⟩ hl.1 rfl (Nat.le_of_ble_eq_true rfl) d_Mpr_store_46 ⟨Nat.le_of_ble_eq_true rfl, Nat.le_of_ble_eq_true rfl⟩) hw hA (fun v80 p79 H locs hp79 hw => ?_)
          obtain ⟨qf78, rfl, e81, e82, e83, e84, e85, e86, e87, e88, e89, e90, e91, e92, e93, e94⟩ := hp79
          replace e81 : (qf78 2).toInt = 7 := e81
          replace e82 : (qf78 1).toInt = (qf 1).toInt := e82
          replace e83 : (qf78 4).toInt = (qf 4).toInt := e83
          replace e84 : (qf78 5).toInt = (qf 5).toInt := e84
          replace e85 : (qf78 6).toInt = (qf 6).toInt := e85
          replace e86 : (qf78 7).toInt = (qf 7).toInt := e86
          replace e87 : (qf78 10).toInt = (qf 10).toInt := e87
          replace e88 : (qf78 11).toInt = (qf 11).toInt := e88
          replace e89 : (qf78 12).toInt = (qf 12).toInt := e89
          replace e90 : (qf78 13).toInt = (qf 13).toInt := e90
          replace e91 : (qf78 14).toInt = (qf 14).toInt := e91
          replace e92 : (qf78 21).toInt = (qf 21).toInt := e92
          replace e93 : (qf78 23).toInt = (qf 23).toInt := e93
          replace e94 : (qf78 24).toInt = (qf 24).toInt := e94
          replace hw : pw D A s.heap H locs [wd_Mpr cs q qr (fun k => if k = 0 then (some h) else none) qf78 qa qg, wdP cs h r g tf ta pf na ma wa cf ca ef ea xf xa] := hw
          have lv80 := Int32.le_toInt v80
          have uv80 := Int32.toInt_lt v80
          exact px_iret (v := v80) S hr rfl hlk hAe hw (Nat.le_of_ble_eq_true rfl) (Nat.le_of_ble_eq_true rfl) (⟨qf78, qa, rfl, (show (qf78 2).toInt = (qf 2).toInt ∨ (qf78 2).toInt = 7 from by first | with_reducible rfl | with_reducible assumption | omega), (show (qf78 1).toInt = (qf 1).toInt from by first | exact e82 | omega), (show (qf78 4).toInt = (qf 4).toInt from by first | exact e83 | omega), (show (qf78 5).toInt = (qf 5).toInt from by first | exact e84 | omega), (show (qf78 6).toInt = (qf 6).toInt from by first | exact e85 | omega), (show (qf78 7).toInt = (qf 7).toInt from by first | exact e86 | omega), (show (qf78 10).toInt = (qf 10).toInt from by first | exact e87 | omega), (show (qf78 11).toInt = (qf 11).toInt from by first | exact e88 | omega), (show (qf78 12).toInt = (qf 12).toInt from by first | exact e89 | omega), (show (qf78 13).toInt = (qf 13).toInt from by first | exact e90 | omega), (show (qf78 14).toInt = (qf 14).toInt from by first | exact e91 | omega), (show (qf78 21).toInt = (qf 21).toInt from by first | exact e92 | omega), (show (qf78 23).toInt = (qf 23).toInt from by first | exact e93 | omega), (show (qf78 24).toInt = (qf 24).toInt from by first | exact e94 | omega)⟩) d_Mpr_store_49
  refine lv_iload_n S.x S.b d_Mpr_store_0 rfl (lv_at hl 1 rfl) ?_
  refine lv_if_ne (tgt := 8) S.x S.b d_Mpr_store_1 (by decide) (fun c95 => ?_) (fun c95 => ?_)
  · have nc95 : ¬ p0.toInt = (0 : Int) := mt (i_eq (x := p0) (y := 0)).mpr c95
    refine lv_iload_n S.x S.b d_Mpr_store_8 rfl (lv_at hl 1 rfl) ?_
    refine lv_iconst (v := 1) S.x S.b d_Mpr_store_9 (by decide) ?_
    refine lv_icmp_ne (tgt := 17) S.x S.b d_Mpr_store_10 (by decide) (fun c96 => ?_) (fun c96 => ?_)
    · have nc96 : ¬ p0.toInt = (1 : Int) := mt (i_eq (x := p0) (y := 1)).mpr c96
      refine lv_iconst (v := 4) S.x S.b d_Mpr_store_17 (by decide) ?_
      refine lv_istore (lv' := [(4, .int 4), (0, .ref q), (1, .int p0), (2, .int p1), (3, .int p2)]) S.x S.b d_Mpr_store_18 hl (by decide) rfl (fun ls hl => ?_)
      exact J20 (4 : Int32) _ _ ls (show 1 ≤ (4 : Int) from by first | decide | omega) (show (4 : Int) ≤ 4 from by first | decide | omega) hw (lv_sub hl [1, 2, 3, 4, 0] rfl)
    · have nc96 : p0.toInt = (1 : Int) := (i_eq (x := p0) (y := 1)).mp c96
      refine lv_iconst (v := 2) S.x S.b d_Mpr_store_13 (by decide) ?_
      refine lv_goto (tgt := 18) S.x S.b d_Mpr_store_14 (by decide) ?_
      refine lv_istore (lv' := [(4, .int 2), (0, .ref q), (1, .int p0), (2, .int p1), (3, .int p2)]) S.x S.b d_Mpr_store_18 hl (by decide) rfl (fun ls hl => ?_)
      exact J20 (2 : Int32) _ _ ls (show 1 ≤ (2 : Int) from by first | decide | omega) (show (2 : Int) ≤ 4 from by first | decide | omega) hw (lv_sub hl [1, 2, 3, 4, 0] rfl)
  · have nc95 : p0.toInt = (0 : Int) := (i_eq (x := p0) (y := 0)).mp c95
    refine lv_iconst (v := 1) S.x S.b d_Mpr_store_4 (by decide) ?_
    refine lv_goto (tgt := 18) S.x S.b d_Mpr_store_5 (by decide) ?_
    refine lv_istore (lv' := [(4, .int 1), (0, .ref q), (1, .int p0), (2, .int p1), (3, .int p2)]) S.x S.b d_Mpr_store_18 hl (by decide) rfl (fun ls hl => ?_)
    exact J20 (1 : Int32) _ _ ls (show 1 ≤ (1 : Int) from by first | decide | omega) (show (1 : Int) ≤ 4 from by first | decide | omega) hw (lv_sub hl [1, 2, 3, 4, 0] rfl)
abbrev b_Mpr_withNumber : ByteArray := prog_15_method_41_code
def y_Mpr_withNumber : MethodName := ⟨"HomeSystemModel$Process", "withNumber", "(IIIII)I"⟩
theorem d_Mpr_withNumber_0 : decode b_Mpr_withNumber 0 = .ok (.iload_n 1, 1) := by decide +kernel
theorem d_Mpr_withNumber_1 : decode b_Mpr_withNumber 1 = .ok (.bipush 20, 2) := by decide +kernel
theorem d_Mpr_withNumber_3 : decode b_Mpr_withNumber 3 = .ok (.bipush 24, 2) := by decide +kernel
theorem d_Mpr_withNumber_5 : decode b_Mpr_withNumber 5 = .ok (.invokestatic 264, 3) := by decide +kernel
theorem d_Mpr_withNumber_8 : decode b_Mpr_withNumber 8 = .ok (.istore 6, 2) := by decide +kernel
theorem d_Mpr_withNumber_10 : decode b_Mpr_withNumber 10 = .ok (.iload_n 1, 1) := by decide +kernel
theorem d_Mpr_withNumber_11 : decode b_Mpr_withNumber 11 = .ok (.bipush 25, 2) := by decide +kernel
theorem d_Mpr_withNumber_13 : decode b_Mpr_withNumber 13 = .ok (.bipush 31, 2) := by decide +kernel
theorem d_Mpr_withNumber_15 : decode b_Mpr_withNumber 15 = .ok (.invokestatic 264, 3) := by decide +kernel
theorem d_Mpr_withNumber_18 : decode b_Mpr_withNumber 18 = .ok (.istore 7, 2) := by decide +kernel
theorem d_Mpr_withNumber_20 : decode b_Mpr_withNumber 20 = .ok (.iload_n 2, 1) := by decide +kernel
theorem d_Mpr_withNumber_21 : decode b_Mpr_withNumber 21 = .ok (.iconst 1, 1) := by decide +kernel
theorem d_Mpr_withNumber_22 : decode b_Mpr_withNumber 22 = .ok (.if_icmp .ne 8, 3) := by decide +kernel
theorem d_Mpr_withNumber_25 : decode b_Mpr_withNumber 25 = .ok (.iload 7, 2) := by decide +kernel
theorem d_Mpr_withNumber_27 : decode b_Mpr_withNumber 27 = .ok (.ifCond .ne 20, 3) := by decide +kernel
theorem d_Mpr_withNumber_30 : decode b_Mpr_withNumber 30 = .ok (.iload_n 2, 1) := by decide +kernel
theorem d_Mpr_withNumber_31 : decode b_Mpr_withNumber 31 = .ok (.iconst 5, 1) := by decide +kernel
theorem d_Mpr_withNumber_32 : decode b_Mpr_withNumber 32 = .ok (.if_icmp .ne 20, 3) := by decide +kernel
theorem d_Mpr_withNumber_35 : decode b_Mpr_withNumber 35 = .ok (.iload 7, 2) := by decide +kernel
theorem d_Mpr_withNumber_37 : decode b_Mpr_withNumber 37 = .ok (.ifCond .eq 15, 3) := by decide +kernel
theorem d_Mpr_withNumber_40 : decode b_Mpr_withNumber 40 = .ok (.iload 7, 2) := by decide +kernel
theorem d_Mpr_withNumber_42 : decode b_Mpr_withNumber 42 = .ok (.bipush 32, 2) := by decide +kernel
theorem d_Mpr_withNumber_44 : decode b_Mpr_withNumber 44 = .ok (.if_icmp .eq 8, 3) := by decide +kernel
theorem d_Mpr_withNumber_47 : decode b_Mpr_withNumber 47 = .ok (.aload_n 0, 1) := by decide +kernel
theorem d_Mpr_withNumber_48 : decode b_Mpr_withNumber 48 = .ok (.invokevirtual 275, 3) := by decide +kernel
theorem d_Mpr_withNumber_51 : decode b_Mpr_withNumber 51 = .ok (.ireturn, 1) := by decide +kernel
theorem d_Mpr_withNumber_52 : decode b_Mpr_withNumber 52 = .ok (.aload_n 0, 1) := by decide +kernel
theorem d_Mpr_withNumber_53 : decode b_Mpr_withNumber 53 = .ok (.iload_n 3, 1) := by decide +kernel
theorem d_Mpr_withNumber_54 : decode b_Mpr_withNumber 54 = .ok (.iload_n 2, 1) := by decide +kernel
theorem d_Mpr_withNumber_55 : decode b_Mpr_withNumber 55 = .ok (.iconst 1, 1) := by decide +kernel
theorem d_Mpr_withNumber_56 : decode b_Mpr_withNumber 56 = .ok (.if_icmp .ne 11, 3) := by decide +kernel
theorem d_Mpr_withNumber_59 : decode b_Mpr_withNumber 59 = .ok (.iload 4, 2) := by decide +kernel
theorem d_Mpr_withNumber_61 : decode b_Mpr_withNumber 61 = .ok (.iload 6, 2) := by decide +kernel
theorem d_Mpr_withNumber_63 : decode b_Mpr_withNumber 63 = .ok (.ishl, 1) := by decide +kernel
theorem d_Mpr_withNumber_64 : decode b_Mpr_withNumber 64 = .ok (.goto 38, 3) := by decide +kernel
theorem d_Mpr_withNumber_67 : decode b_Mpr_withNumber 67 = .ok (.iload_n 2, 1) := by decide +kernel
theorem d_Mpr_withNumber_68 : decode b_Mpr_withNumber 68 = .ok (.iconst 5, 1) := by decide +kernel
theorem d_Mpr_withNumber_69 : decode b_Mpr_withNumber 69 = .ok (.if_icmp .ne 25, 3) := by decide +kernel
theorem d_Mpr_withNumber_72 : decode b_Mpr_withNumber 72 = .ok (.iload 4, 2) := by decide +kernel
theorem d_Mpr_withNumber_74 : decode b_Mpr_withNumber 74 = .ok (.iload 6, 2) := by decide +kernel
theorem d_Mpr_withNumber_76 : decode b_Mpr_withNumber 76 = .ok (.iload 7, 2) := by decide +kernel
theorem d_Mpr_withNumber_78 : decode b_Mpr_withNumber 78 = .ok (.bipush 32, 2) := by decide +kernel
theorem d_Mpr_withNumber_80 : decode b_Mpr_withNumber 80 = .ok (.if_icmp .ne 7, 3) := by decide +kernel
theorem d_Mpr_withNumber_83 : decode b_Mpr_withNumber 83 = .ok (.iconst 1, 1) := by decide +kernel
theorem d_Mpr_withNumber_84 : decode b_Mpr_withNumber 84 = .ok (.goto 4, 3) := by decide +kernel
theorem d_Mpr_withNumber_87 : decode b_Mpr_withNumber 87 = .ok (.iconst 0, 1) := by decide +kernel
theorem d_Mpr_withNumber_88 : decode b_Mpr_withNumber 88 = .ok (.invokestatic 304, 3) := by decide +kernel
theorem d_Mpr_withNumber_91 : decode b_Mpr_withNumber 91 = .ok (.goto 11, 3) := by decide +kernel
theorem d_Mpr_withNumber_94 : decode b_Mpr_withNumber 94 = .ok (.iload_n 2, 1) := by decide +kernel
theorem d_Mpr_withNumber_95 : decode b_Mpr_withNumber 95 = .ok (.iload 4, 2) := by decide +kernel
theorem d_Mpr_withNumber_97 : decode b_Mpr_withNumber 97 = .ok (.iload 5, 2) := by decide +kernel
theorem d_Mpr_withNumber_99 : decode b_Mpr_withNumber 99 = .ok (.invokestatic 308, 3) := by decide +kernel
theorem d_Mpr_withNumber_102 : decode b_Mpr_withNumber 102 = .ok (.invokevirtual 268, 3) := by decide +kernel
theorem d_Mpr_withNumber_105 : decode b_Mpr_withNumber 105 = .ok (.aload_n 0, 1) := by decide +kernel
theorem d_Mpr_withNumber_106 : decode b_Mpr_withNumber 106 = .ok (.getfield 95, 3) := by decide +kernel
theorem d_Mpr_withNumber_109 : decode b_Mpr_withNumber 109 = .ok (.iconst 4, 1) := by decide +kernel
theorem d_Mpr_withNumber_110 : decode b_Mpr_withNumber 110 = .ok (.iadd, 1) := by decide +kernel
theorem d_Mpr_withNumber_111 : decode b_Mpr_withNumber 111 = .ok (.ireturn, 1) := by decide +kernel
theorem q_Mpr_withNumber : px_y y_Mpr_withNumber 5 := by unfold px_y; decide +kernel
set_option maxHeartbeats 4000000 in
set_option maxRecDepth 100000 in
theorem c_mr_withNumber (l : Launch) (D : va_G) (cs : Nat → ClassId) (nf : Int) (q : Nat) (qr : Nat → Nat) (qg : Nat → Nat → Option Nat) (qf : Nat → Int32) (qa : Nat → Nat → Int32) (h : Nat) (r : Nat → Nat) (g : Nat → Nat → Option Nat) (tf : Nat → Int32) (ta : Nat → Nat → Int32) (pf : Nat → Int32) (na : Nat → Nat → Int32) (ma : Nat → Nat → Int32) (wa : Nat → Nat → Int32) (cf : Nat → Int32) (ca : Nat → Nat → Int32) (ef : Nat → Int32) (ea : Nat → Nat → Int32) (xf : Nat → Int32) (xa : Nat → Nat → Int32) (p0 p1 p2 p3 p4 : Int32)  (g0 : 0 ≤ p2.toInt) (g1 : p2.toInt < 32) : MetI l y_Mpr_withNumber b_Mpr_withNumber 8 (.int) D cs 3 110 (0) (0) [.ref q, .int p0, .int p1, .int p2, .int p3, .int p4] [wd_Mpr cs q qr (fun k => if k = 0 then (some h) else none) qf qa qg, wdP cs h r g tf ta pf na ma wa cf ca ef ea xf xa] (oX (fun A U H => (oP A g U H)) [wd_Mpr cs q qr (fun k => if k = 0 then (some h) else none) qf qa qg, wdP cs h r g tf ta pf na ma wa cf ca ef ea xf xa]) (fun v ps => ∃ (qf' : Nat → Int32) (qa' : Nat → Nat → Int32), (ps = [wd_Mpr cs q qr (fun k => if k = 0 then (some h) else none) qf' qa' qg, wdP cs h r g tf ta pf na ma wa cf ca ef ea xf xa]) ∧ ((qf' 2).toInt = (qf 2).toInt ∨ (qf' 2).toInt = 7) ∧ ((qf' 1).toInt = (qf 1).toInt) ∧ ((qf' 4).toInt = (qf 4).toInt) ∧ ((qf' 5).toInt = (qf 5).toInt) ∧ ((qf' 6).toInt = (qf 6).toInt) ∧ ((qf' 7).toInt = (qf 7).toInt) ∧ ((qf' 10).toInt = (qf 10).toInt) ∧ ((qf' 11).toInt = (qf 11).toInt) ∧ ((qf' 12).toInt = (qf 12).toInt) ∧ ((qf' 13).toInt = (qf 13).toInt) ∧ ((qf' 14).toInt = (qf 14).toInt) ∧ ((qf' 21).toInt = (qf 21).toInt) ∧ ((qf' 23).toInt = (qf 23).toInt) ∧ ((qf' 24).toInt = (qf 24).toInt)) := by
  refine px_enter (by decide) (Nat.le_of_ble_eq_true rfl) ?_
  intro p e s m below meth c A ls hAe S hr hlk hnm hA hT hX hw hl
  replace hl : lv_has ls 8 [(0, .ref q), (1, .int p0), (2, .int p1), (3, .int p2), (4, .int p3), (5, .int p4)] := hl
  have lp0 := Int32.le_toInt p0
  have up0 := Int32.toInt_lt p0
  have lp1 := Int32.le_toInt p1
  have up1 := Int32.toInt_lt p1
  have lp2 := Int32.le_toInt p2
  have up2 := Int32.toInt_lt p2
  have lp3 := Int32.le_toInt p3
  have up3 := Int32.toInt_lt p3
  have lp4 := Int32.le_toInt p4
  have up4 := Int32.toInt_lt p4
  have cst0 : (0 : Int32).toInt = 0 := rfl
  have cst1 : (1 : Int32).toInt = 1 := rfl
  have cst4 : (4 : Int32).toInt = 4 := rfl
  have cst5 : (5 : Int32).toInt = 5 := rfl
  have cst20 : (20 : Int32).toInt = 20 := rfl
  have cst24 : (24 : Int32).toInt = 24 := rfl
  have cst25 : (25 : Int32).toInt = 25 := rfl
  have cst31 : (31 : Int32).toInt = 31 := rfl
  have cst32 : (32 : Int32).toInt = 32 := rfl
  have hX : (fun A U H => (oP A g U H)) A s s.heap := by rw [hAe]; exact hX
  have hP := hX
  have hZ := hP.1
  have hF0 := hP.2.1
  have J52 : ∀  (x52_6 x52_7 : Int32) (H : Heap) (locs : List Loc) (ls : Array Slot), pw D A s.heap H locs [wd_Mpr cs q qr (fun k => if k = 0 then (some h) else none) qf qa qg, wdP cs h r g tf ta pf na ma wa cf ca ef ea xf xa] → lv_has ls 8 [(0, .ref q), (1, .int p0), (2, .int p1), (3, .int p2), (4, .int p3), (5, .int p4), (6, .int x52_6), (7, .int x52_7)] → W p l e { frames := 3, cells := 0, slots := 0, locals := 110 } s m [.ref q, .int p0, .int p1, .int p2, .int p3, .int p4].toArray below meth c H locs 0 0 (MQ below (va_Qi (fun v ps => ∃ (qf' : Nat → Int32) (qa' : Nat → Nat → Int32), (ps = [wd_Mpr cs q qr (fun k => if k = 0 then (some h) else none) qf' qa' qg, wdP cs h r g tf ta pf na ma wa cf ca ef ea xf xa]) ∧ ((qf' 2).toInt = (qf 2).toInt ∨ (qf' 2).toInt = 7) ∧ ((qf' 1).toInt = (qf 1).toInt) ∧ ((qf' 4).toInt = (qf 4).toInt) ∧ ((qf' 5).toInt = (qf 5).toInt) ∧ ((qf' 6).toInt = (qf 6).toInt) ∧ ((qf' 7).toInt = (qf 7).toInt) ∧ ((qf' 10).toInt = (qf 10).toInt) ∧ ((qf' 11).toInt = (qf 11).toInt) ∧ ((qf' 12).toInt = (qf 12).toInt) ∧ ((qf' 13).toInt = (qf 13).toInt) ∧ ((qf' 14).toInt = (qf 14).toInt) ∧ ((qf' 21).toInt = (qf 21).toInt) ∧ ((qf' 23).toInt = (qf 23).toInt) ∧ ((qf' 24).toInt = (qf 24).toInt)) (pc_B D (va_A ([wd_Mpr cs q qr (fun k => if k = 0 then (some h) else none) qf qa qg, wdP cs h r g tf ta pf na ma wa cf ca ef ea xf xa] : List va_W).flatten s.heap.size)) (va_A ([wd_Mpr cs q qr (fun k => if k = 0 then (some h) else none) qf qa qg, wdP cs h r g tf ta pf na ma wa cf ca ef ea xf xa] : List va_W).flatten s.heap.size)) [.ref q, .int p0, .int p1, .int p2, .int p3, .int p4].toArray s 0 0 A) (F0 m 52 ls []) := by
    intro x52_6 x52_7 H locs ls hw hl
    have lx52_6 := Int32.le_toInt x52_6
    have ux52_6 := Int32.toInt_lt x52_6
    have lx52_7 := Int32.le_toInt x52_7
    have ux52_7 := Int32.toInt_lt x52_7
    refine lv_aload_n S.x S.b d_Mpr_withNumber_52 rfl (lv_at hl 0 rfl) ?_
    refine lv_iload_n S.x S.b d_Mpr_withNumber_53 rfl (lv_at hl 3 rfl) ?_
    refine lv_iload_n S.x S.b d_Mpr_withNumber_54 rfl (lv_at hl 2 rfl) ?_
    refine lv_iconst (v := 1) S.x S.b d_Mpr_withNumber_55 (by decide) ?_
    refine lv_icmp_ne (tgt := 67) S.x S.b d_Mpr_withNumber_56 (by decide) (fun c1 => ?_) (fun c1 => ?_)
    · have nc1 : ¬ p1.toInt = (1 : Int) := mt (i_eq (x := p1) (y := 1)).mpr c1
      refine lv_iload_n S.x S.b d_Mpr_withNumber_67 rfl (lv_at hl 2 rfl) ?_
      refine lv_iconst (v := 5) S.x S.b d_Mpr_withNumber_68 (by decide) ?_
      refine lv_icmp_ne (tgt := 94) S.x S.b d_Mpr_withNumber_69 (by decide) (fun c2 => ?_) (fun c2 => ?_)
      · have nc2 : ¬ p1.toInt = (5 : Int) := mt (i_eq (x := p1) (y := 5)).mpr c2
        refine lv_iload_n S.x S.b d_Mpr_withNumber_94 rfl (lv_at hl 2 rfl) ?_
        refine lv_iload S.x S.b d_Mpr_withNumber_95 (lv_at hl 4 rfl) ?_
        refine lv_iload S.x S.b d_Mpr_withNumber_97 (lv_at hl 5 rfl) ?_
        refine px_calli (pr := [wd_Mpr cs q qr (fun k => if k = 0 then (some h) else none) qf qa qg, wdP cs h r g tf ta pf na ma wa cf ca ef ea xf xa]) (px_runS (As := [.int p1, .int p3, .int p4]) (rest := [.int p2, .ref q]) S (c_mr_simple l D cs  p1 p3 p4   _) hT (pr := [wd_Mpr cs q qr (fun k => if k = 0 then (some h) else none) qf qa qg, wdP cs h r g tf ta pf na ma wa cf ca ef ea xf xa]) (pcs := []) hw px_X.tt m14_19 m14_17 m14_18 m1_22 q_Mpr_simple ⟨Nat.le_of_ble_eq_true rfl, Nat.le_of_ble_eq_true rfl⟩ hl.1 rfl (Nat.le_of_ble_eq_true rfl) d_Mpr_withNumber_99 ⟨Nat.le_of_ble_eq_true rfl, Nat.le_of_ble_eq_true rfl⟩) hw hA (fun v4 p3 H locs hp3 hw => ?_)
        subst hp3
        replace hw : pw D A s.heap H locs [wd_Mpr cs q qr (fun k => if k = 0 then (some h) else none) qf qa qg, wdP cs h r g tf ta pf na ma wa cf ca ef ea xf xa] := hw
        have lv4 := Int32.le_toInt v4
        have uv4 := Int32.toInt_lt v4
        refine px_callv (pr := []) (px_runV (As := [.int p2, .int v4]) (rest := []) S (c_mr_set l D cs (0 : Int) q qr qg qf qa h r g tf ta pf na ma wa cf ca ef ea xf xa p2 v4  (show 0 ≤ p2.toInt from by first | exact g0 | omega) (show p2.toInt < 32 from by first | exact g1 | omega) _) hT (pr := []) (pcs := [wd_Mpr cs q qr (fun k => if k = 0 then (some h) else none) qf qa qg, wdP cs h r g tf ta pf na ma wa cf ca ef ea xf xa]) hw (oX_call (P := (fun A U H => (oP A g U H))) (pr := []) oG_P hw hA hP) (px_recv hT hw 0 0 rfl rfl rfl) m13_216 m13_213 m13_215 ms_15_4 m1_22 q_Mpr_set ⟨Nat.le_of_ble_eq_true rfl, Nat.le_of_ble_eq_true rfl⟩ hl.1 rfl (Nat.le_of_ble_eq_true rfl) d_Mpr_withNumber_102 ⟨Nat.le_of_ble_eq_true rfl, Nat.le_of_ble_eq_true rfl⟩) hw hA (fun p7 H locs hp7 hw => ?_)
        obtain ⟨qa6, rfl⟩ := hp7
        replace hw : pw D A s.heap H locs [wd_Mpr cs q qr (fun k => if k = 0 then (some h) else none) qf qa6 qg, wdP cs h r g tf ta pf na ma wa cf ca ef ea xf xa] := hw
        refine lv_aload_n S.x S.b d_Mpr_withNumber_105 rfl (lv_at hl 0 rfl) ?_
        refine px_get S k_Mpr hT hw 0 0 11 (v := .int (qf 11)) rfl rfl rfl (by decide) m11_2 d_Mpr_withNumber_106 ?_
        refine lv_iconst (v := 4) S.x S.b d_Mpr_withNumber_109 (by decide) ?_
        refine lv_iadd S.x S.b d_Mpr_withNumber_110 ?_
        have lr9 := Int32.le_toInt (qf 11)
        have ur9 := Int32.toInt_lt (qf 11)
        refine lv_topi (fun z10 ez10 => ?_)
        have tz10 : z10.toInt = ((qf 11).toInt + (4 : Int) + 2147483648) % 4294967296 - 2147483648 := by rw [ez10]; exact i_add (qf 11) 4
        have lz10 := Int32.le_toInt z10
        have uz10 := Int32.toInt_lt z10
        try replace tz10 : z10.toInt = (qf 11).toInt + (4 : Int) := by omega
        exact px_iret (v := z10) S hr rfl hlk hAe hw (Nat.le_of_ble_eq_true rfl) (Nat.le_of_ble_eq_true rfl) (⟨qf, qa6, rfl, (show (qf 2).toInt = (qf 2).toInt ∨ (qf 2).toInt = 7 from by first | with_reducible rfl | with_reducible assumption | omega), (show (qf 1).toInt = (qf 1).toInt from rfl), (show (qf 4).toInt = (qf 4).toInt from rfl), (show (qf 5).toInt = (qf 5).toInt from rfl), (show (qf 6).toInt = (qf 6).toInt from rfl), (show (qf 7).toInt = (qf 7).toInt from rfl), (show (qf 10).toInt = (qf 10).toInt from rfl), (show (qf 11).toInt = (qf 11).toInt from rfl), (show (qf 12).toInt = (qf 12).toInt from rfl), (show (qf 13).toInt = (qf 13).toInt from rfl), (show (qf 14).toInt = (qf 14).toInt from rfl), (show (qf 21).toInt = (qf 21).toInt from rfl), (show (qf 23).toInt = (qf 23).toInt from rfl), (show (qf 24).toInt = (qf 24).toInt from rfl)⟩) d_Mpr_withNumber_111
      · have nc2 : p1.toInt = (5 : Int) := (i_eq (x := p1) (y := 5)).mp c2
        refine lv_iload S.x S.b d_Mpr_withNumber_72 (lv_at hl 4 rfl) ?_
        refine lv_iload S.x S.b d_Mpr_withNumber_74 (lv_at hl 6 rfl) ?_
        refine lv_iload S.x S.b d_Mpr_withNumber_76 (lv_at hl 7 rfl) ?_
        refine lv_bipush (v := 32) S.x S.b d_Mpr_withNumber_78 (by decide) ?_
        refine lv_icmp_ne (tgt := 87) S.x S.b d_Mpr_withNumber_80 (by decide) (fun c11 => ?_) (fun c11 => ?_)
        · have nc11 : ¬ x52_7.toInt = (32 : Int) := mt (i_eq (x := x52_7) (y := 32)).mpr c11
          refine lv_iconst (v := 0) S.x S.b d_Mpr_withNumber_87 (by decide) ?_
          refine px_calli (pr := [wd_Mpr cs q qr (fun k => if k = 0 then (some h) else none) qf qa qg, wdP cs h r g tf ta pf na ma wa cf ca ef ea xf xa]) (px_runS (As := [.int p3, .int x52_6, .int 0]) (rest := [.int p2, .ref q]) S (c_mr_right l D cs  p3 x52_6 0   _) hT (pr := [wd_Mpr cs q qr (fun k => if k = 0 then (some h) else none) qf qa qg, wdP cs h r g tf ta pf na ma wa cf ca ef ea xf xa]) (pcs := []) hw px_X.tt m14_16 m14_14 m14_15 m1_22 q_Mpr_right ⟨Nat.le_of_ble_eq_true rfl, Nat.le_of_ble_eq_true rfl⟩ hl.1 rfl (Nat.le_of_ble_eq_true rfl) d_Mpr_withNumber_88 ⟨Nat.le_of_ble_eq_true rfl, Nat.le_of_ble_eq_true rfl⟩) hw hA (fun v13 p12 H locs hp12 hw => ?_)
          subst hp12
          replace hw : pw D A s.heap H locs [wd_Mpr cs q qr (fun k => if k = 0 then (some h) else none) qf qa qg, wdP cs h r g tf ta pf na ma wa cf ca ef ea xf xa] := hw
          have lv13 := Int32.le_toInt v13
          have uv13 := Int32.toInt_lt v13
          refine lv_goto (tgt := 102) S.x S.b d_Mpr_withNumber_91 (by decide) ?_
          refine px_callv (pr := []) (px_runV (As := [.int p2, .int v13]) (rest := []) S (c_mr_set l D cs (0 : Int) q qr qg qf qa h r g tf ta pf na ma wa cf ca ef ea xf xa p2 v13  (show 0 ≤ p2.toInt from by first | exact g0 | omega) (show p2.toInt < 32 from by first | exact g1 | omega) _) hT (pr := []) (pcs := [wd_Mpr cs q qr (fun k => if k = 0 then (some h) else none) qf qa qg, wdP cs h r g tf ta pf na ma wa cf ca ef ea xf xa]) hw (oX_call (P := (fun A U H => (oP A g U H))) (pr := []) oG_P hw hA hP) (px_recv hT hw 0 0 rfl rfl rfl) m13_216 m13_213 m13_215 ms_15_4 m1_22 q_Mpr_set ⟨Nat.le_of_ble_eq_true rfl, Nat.le_of_ble_eq_true rfl⟩ hl.1 rfl (Nat.le_of_ble_eq_true rfl) d_Mpr_withNumber_102 ⟨Nat.le_of_ble_eq_true rfl, Nat.le_of_ble_eq_true rfl⟩) hw hA (fun p16 H locs hp16 hw => ?_)
          obtain ⟨qa15, rfl⟩ := hp16
          replace hw : pw D A s.heap H locs [wd_Mpr cs q qr (fun k => if k = 0 then (some h) else none) qf qa15 qg, wdP cs h r g tf ta pf na ma wa cf ca ef ea xf xa] := hw
          refine lv_aload_n S.x S.b d_Mpr_withNumber_105 rfl (lv_at hl 0 rfl) ?_
          refine px_get S k_Mpr hT hw 0 0 11 (v := .int (qf 11)) rfl rfl rfl (by decide) m11_2 d_Mpr_withNumber_106 ?_
          refine lv_iconst (v := 4) S.x S.b d_Mpr_withNumber_109 (by decide) ?_
          refine lv_iadd S.x S.b d_Mpr_withNumber_110 ?_
          have lr18 := Int32.le_toInt (qf 11)
          have ur18 := Int32.toInt_lt (qf 11)
          refine lv_topi (fun z19 ez19 => ?_)
          have tz19 : z19.toInt = ((qf 11).toInt + (4 : Int) + 2147483648) % 4294967296 - 2147483648 := by rw [ez19]; exact i_add (qf 11) 4
          have lz19 := Int32.le_toInt z19
          have uz19 := Int32.toInt_lt z19
          try replace tz19 : z19.toInt = (qf 11).toInt + (4 : Int) := by omega
          exact px_iret (v := z19) S hr rfl hlk hAe hw (Nat.le_of_ble_eq_true rfl) (Nat.le_of_ble_eq_true rfl) (⟨qf, qa15, rfl, (show (qf 2).toInt = (qf 2).toInt ∨ (qf 2).toInt = 7 from by first | with_reducible rfl | with_reducible assumption | omega), (show (qf 1).toInt = (qf 1).toInt from rfl), (show (qf 4).toInt = (qf 4).toInt from rfl), (show (qf 5).toInt = (qf 5).toInt from rfl), (show (qf 6).toInt = (qf 6).toInt from rfl), (show (qf 7).toInt = (qf 7).toInt from rfl), (show (qf 10).toInt = (qf 10).toInt from rfl), (show (qf 11).toInt = (qf 11).toInt from rfl), (show (qf 12).toInt = (qf 12).toInt from rfl), (show (qf 13).toInt = (qf 13).toInt from rfl), (show (qf 14).toInt = (qf 14).toInt from rfl), (show (qf 21).toInt = (qf 21).toInt from rfl), (show (qf 23).toInt = (qf 23).toInt from rfl), (show (qf 24).toInt = (qf 24).toInt from rfl)⟩) d_Mpr_withNumber_111
        · have nc11 : x52_7.toInt = (32 : Int) := (i_eq (x := x52_7) (y := 32)).mp c11
          refine lv_iconst (v := 1) S.x S.b d_Mpr_withNumber_83 (by decide) ?_
          refine lv_goto (tgt := 88) S.x S.b d_Mpr_withNumber_84 (by decide) ?_
          refine px_calli (pr := [wd_Mpr cs q qr (fun k => if k = 0 then (some h) else none) qf qa qg, wdP cs h r g tf ta pf na ma wa cf ca ef ea xf xa]) (px_runS (As := [.int p3, .int x52_6, .int 1]) (rest := [.int p2, .ref q]) S (c_mr_right l D cs  p3 x52_6 1   _) hT (pr := [wd_Mpr cs q qr (fun k => if k = 0 then (some h) else none) qf qa qg, wdP cs h r g tf ta pf na ma wa cf ca ef ea xf xa]) (pcs := []) hw px_X.tt m14_16 m14_14 m14_15 m1_22 q_Mpr_right ⟨Nat.le_of_ble_eq_true rfl, Nat.le_of_ble_eq_true rfl⟩ hl.1 rfl (Nat.le_of_ble_eq_true rfl) d_Mpr_withNumber_88 ⟨Nat.le_of_ble_eq_true rfl, Nat.le_of_ble_eq_true rfl⟩) hw hA (fun v21 p20 H locs hp20 hw => ?_)
          subst hp20
          replace hw : pw D A s.heap H locs [wd_Mpr cs q qr (fun k => if k = 0 then (some h) else none) qf qa qg, wdP cs h r g tf ta pf na ma wa cf ca ef ea xf xa] := hw
          have lv21 := Int32.le_toInt v21
          have uv21 := Int32.toInt_lt v21
          refine lv_goto (tgt := 102) S.x S.b d_Mpr_withNumber_91 (by decide) ?_
          refine px_callv (pr := []) (px_runV (As := [.int p2, .int v21]) (rest := []) S (c_mr_set l D cs (0 : Int) q qr qg qf qa h r g tf ta pf na ma wa cf ca ef ea xf xa p2 v21  (show 0 ≤ p2.toInt from by first | exact g0 | omega) (show p2.toInt < 32 from by first | exact g1 | omega) _) hT (pr := []) (pcs := [wd_Mpr cs q qr (fun k => if k = 0 then (some h) else none) qf qa qg, wdP cs h r g tf ta pf na ma wa cf ca ef ea xf xa]) hw (oX_call (P := (fun A U H => (oP A g U H))) (pr := []) oG_P hw hA hP) (px_recv hT hw 0 0 rfl rfl rfl) m13_216 m13_213 m13_215 ms_15_4 m1_22 q_Mpr_set ⟨Nat.le_of_ble_eq_true rfl, Nat.le_of_ble_eq_true rfl⟩ hl.1 rfl (Nat.le_of_ble_eq_true rfl) d_Mpr_withNumber_102 ⟨Nat.le_of_ble_eq_true rfl, Nat.le_of_ble_eq_true rfl⟩) hw hA (fun p24 H locs hp24 hw => ?_)
          obtain ⟨qa23, rfl⟩ := hp24
          replace hw : pw D A s.heap H locs [wd_Mpr cs q qr (fun k => if k = 0 then (some h) else none) qf qa23 qg, wdP cs h r g tf ta pf na ma wa cf ca ef ea xf xa] := hw
          refine lv_aload_n S.x S.b d_Mpr_withNumber_105 rfl (lv_at hl 0 rfl) ?_
          refine px_get S k_Mpr hT hw 0 0 11 (v := .int (qf 11)) rfl rfl rfl (by decide) m11_2 d_Mpr_withNumber_106 ?_
          refine lv_iconst (v := 4) S.x S.b d_Mpr_withNumber_109 (by decide) ?_
          refine lv_iadd S.x S.b d_Mpr_withNumber_110 ?_
          have lr26 := Int32.le_toInt (qf 11)
          have ur26 := Int32.toInt_lt (qf 11)
          refine lv_topi (fun z27 ez27 => ?_)
          have tz27 : z27.toInt = ((qf 11).toInt + (4 : Int) + 2147483648) % 4294967296 - 2147483648 := by rw [ez27]; exact i_add (qf 11) 4
          have lz27 := Int32.le_toInt z27
          have uz27 := Int32.toInt_lt z27
          try replace tz27 : z27.toInt = (qf 11).toInt + (4 : Int) := by omega
          exact px_iret (v := z27) S hr rfl hlk hAe hw (Nat.le_of_ble_eq_true rfl) (Nat.le_of_ble_eq_true rfl) (⟨qf, qa23, rfl, (show (qf 2).toInt = (qf 2).toInt ∨ (qf 2).toInt = 7 from by first | with_reducible rfl | with_reducible assumption | omega), (show (qf 1).toInt = (qf 1).toInt from rfl), (show (qf 4).toInt = (qf 4).toInt from rfl), (show (qf 5).toInt = (qf 5).toInt from rfl), (show (qf 6).toInt = (qf 6).toInt from rfl), (show (qf 7).toInt = (qf 7).toInt from rfl), (show (qf 10).toInt = (qf 10).toInt from rfl), (show (qf 11).toInt = (qf 11).toInt from rfl), (show (qf 12).toInt = (qf 12).toInt from rfl), (show (qf 13).toInt = (qf 13).toInt from rfl), (show (qf 14).toInt = (qf 14).toInt from rfl), (show (qf 21).toInt = (qf 21).toInt from rfl), (show (qf 23).toInt = (qf 23).toInt from rfl), (show (qf 24).toInt = (qf 24).toInt from rfl)⟩) d_Mpr_withNumber_111
    · have nc1 : p1.toInt = (1 : Int) := (i_eq (x := p1) (y := 1)).mp c1
      refine lv_iload S.x S.b d_Mpr_withNumber_59 (lv_at hl 4 rfl) ?_
      refine lv_iload S.x S.b d_Mpr_withNumber_61 (lv_at hl 6 rfl) ?_
      refine lv_ishl S.x S.b d_Mpr_withNumber_63 ?_
      refine lv_topi (fun z28 ez28 => ?_)
      have lz28 := Int32.le_toInt z28
      have uz28 := Int32.toInt_lt z28
      refine lv_goto (tgt := 102) S.x S.b d_Mpr_withNumber_64 (by decide) ?_
      refine px_callv (pr := []) (px_runV (As := [.int p2, .int z28]) (rest := []) S (c_mr_set l D cs (0 : Int) q qr qg qf qa h r g tf ta pf na ma wa cf ca ef ea xf xa p2 z28  (show 0 ≤ p2.toInt from by first | exact g0 | omega) (show p2.toInt < 32 from by first | exact g1 | omega) _) hT (pr := []) (pcs := [wd_Mpr cs q qr (fun k => if k = 0 then (some h) else none) qf qa qg, wdP cs h r g tf ta pf na ma wa cf ca ef ea xf xa]) hw (oX_call (P := (fun A U H => (oP A g U H))) (pr := []) oG_P hw hA hP) (px_recv hT hw 0 0 rfl rfl rfl) m13_216 m13_213 m13_215 ms_15_4 m1_22 q_Mpr_set ⟨Nat.le_of_ble_eq_true rfl, Nat.le_of_ble_eq_true rfl⟩ hl.1 rfl (Nat.le_of_ble_eq_true rfl) d_Mpr_withNumber_102 ⟨Nat.le_of_ble_eq_true rfl, Nat.le_of_ble_eq_true rfl⟩) hw hA (fun p31 H locs hp31 hw => ?_)
      obtain ⟨qa30, rfl⟩ := hp31
      replace hw : pw D A s.heap H locs [wd_Mpr cs q qr (fun k => if k = 0 then (some h) else none) qf qa30 qg, wdP cs h r g tf ta pf na ma wa cf ca ef ea xf xa] := hw
      refine lv_aload_n S.x S.b d_Mpr_withNumber_105 rfl (lv_at hl 0 rfl) ?_
      refine px_get S k_Mpr hT hw 0 0 11 (v := .int (qf 11)) rfl rfl rfl (by decide) m11_2 d_Mpr_withNumber_106 ?_
      refine lv_iconst (v := 4) S.x S.b d_Mpr_withNumber_109 (by decide) ?_
      refine lv_iadd S.x S.b d_Mpr_withNumber_110 ?_
      have lr33 := Int32.le_toInt (qf 11)
      have ur33 := Int32.toInt_lt (qf 11)
      refine lv_topi (fun z34 ez34 => ?_)
      have tz34 : z34.toInt = ((qf 11).toInt + (4 : Int) + 2147483648) % 4294967296 - 2147483648 := by rw [ez34]; exact i_add (qf 11) 4
      have lz34 := Int32.le_toInt z34
      have uz34 := Int32.toInt_lt z34
      try replace tz34 : z34.toInt = (qf 11).toInt + (4 : Int) := by omega
      exact px_iret (v := z34) S hr rfl hlk hAe hw (Nat.le_of_ble_eq_true rfl) (Nat.le_of_ble_eq_true rfl) (⟨qf, qa30, rfl, (show (qf 2).toInt = (qf 2).toInt ∨ (qf 2).toInt = 7 from by first | with_reducible rfl | with_reducible assumption | omega), (show (qf 1).toInt = (qf 1).toInt from rfl), (show (qf 4).toInt = (qf 4).toInt from rfl), (show (qf 5).toInt = (qf 5).toInt from rfl), (show (qf 6).toInt = (qf 6).toInt from rfl), (show (qf 7).toInt = (qf 7).toInt from rfl), (show (qf 10).toInt = (qf 10).toInt from rfl), (show (qf 11).toInt = (qf 11).toInt from rfl), (show (qf 12).toInt = (qf 12).toInt from rfl), (show (qf 13).toInt = (qf 13).toInt from rfl), (show (qf 14).toInt = (qf 14).toInt from rfl), (show (qf 21).toInt = (qf 21).toInt from rfl), (show (qf 23).toInt = (qf 23).toInt from rfl), (show (qf 24).toInt = (qf 24).toInt from rfl)⟩) d_Mpr_withNumber_111
  refine lv_iload_n S.x S.b d_Mpr_withNumber_0 rfl (lv_at hl 1 rfl) ?_
  refine lv_bipush (v := 20) S.x S.b d_Mpr_withNumber_1 (by decide) ?_
  refine lv_bipush (v := 24) S.x S.b d_Mpr_withNumber_3 (by decide) ?_
  refine px_calli (pr := [wd_Mpr cs q qr (fun k => if k = 0 then (some h) else none) qf qa qg, wdP cs h r g tf ta pf na ma wa cf ca ef ea xf xa]) (px_runS (As := [.int p0, .int 20, .int 24]) (rest := []) S (c_mr_bits l D cs  p0 20 24   _) hT (pr := [wd_Mpr cs q qr (fun k => if k = 0 then (some h) else none) qf qa qg, wdP cs h r g tf ta pf na ma wa cf ca ef ea xf xa]) (pcs := []) hw px_X.tt m13_212 m13_210 m13_211 m1_22 q_Mpr_bits ⟨Nat.le_of_ble_eq_true rfl, Nat.le_of_ble_eq_true rfl⟩ hl.1 rfl (Nat.le_of_ble_eq_true rfl) d_Mpr_withNumber_5 ⟨Nat.le_of_ble_eq_true rfl, Nat.le_of_ble_eq_true rfl⟩) hw hA (fun v36 p35 H locs hp35 hw => ?_)
  obtain ⟨rfl, e37⟩ := hp35
  replace e37 : (24 : Int) = (20 : Int) + 4 → 0 ≤ v36.toInt ∧ v36.toInt < 32 := e37
  replace hw : pw D A s.heap H locs [wd_Mpr cs q qr (fun k => if k = 0 then (some h) else none) qf qa qg, wdP cs h r g tf ta pf na ma wa cf ca ef ea xf xa] := hw
  have lv36 := Int32.le_toInt v36
  have uv36 := Int32.toInt_lt v36
  refine lv_istore (lv' := [(6, .int v36), (0, .ref q), (1, .int p0), (2, .int p1), (3, .int p2), (4, .int p3), (5, .int p4)]) S.x S.b d_Mpr_withNumber_8 hl (by decide) rfl (fun ls hl => ?_)
  refine lv_iload_n S.x S.b d_Mpr_withNumber_10 rfl (lv_at hl 2 rfl) ?_
  refine lv_bipush (v := 25) S.x S.b d_Mpr_withNumber_11 (by decide) ?_
  refine lv_bipush (v := 31) S.x S.b d_Mpr_withNumber_13 (by decide) ?_
  refine px_calli (pr := [wd_Mpr cs q qr (fun k => if k = 0 then (some h) else none) qf qa qg, wdP cs h r g tf ta pf na ma wa cf ca ef ea xf xa]) (px_runS (As := [.int p0, .int 25, .int 31]) (rest := []) S (c_mr_bits l D cs  p0 25 31   _) hT (pr := [wd_Mpr cs q qr (fun k => if k = 0 then (some h) else none) qf qa qg, wdP cs h r g tf ta pf na ma wa cf ca ef ea xf xa]) (pcs := []) hw px_X.tt m13_212 m13_210 m13_211 m1_22 q_Mpr_bits ⟨Nat.le_of_ble_eq_true rfl, Nat.le_of_ble_eq_true rfl⟩ hl.1 rfl (Nat.le_of_ble_eq_true rfl) d_Mpr_withNumber_15 ⟨Nat.le_of_ble_eq_true rfl, Nat.le_of_ble_eq_true rfl⟩) hw hA (fun v39 p38 H locs hp38 hw => ?_)
  obtain ⟨rfl, e40⟩ := hp38
  replace e40 : (31 : Int) = (25 : Int) + 4 → 0 ≤ v39.toInt ∧ v39.toInt < 32 := e40
  replace hw : pw D A s.heap H locs [wd_Mpr cs q qr (fun k => if k = 0 then (some h) else none) qf qa qg, wdP cs h r g tf ta pf na ma wa cf ca ef ea xf xa] := hw
  have lv39 := Int32.le_toInt v39
  have uv39 := Int32.toInt_lt v39
  refine lv_istore (lv' := [(7, .int v39), (6, .int v36), (0, .ref q), (1, .int p0), (2, .int p1), (3, .int p2), (4, .int p3), (5, .int p4)]) S.x S.b d_Mpr_withNumber_18 hl (by decide) rfl (fun ls hl => ?_)
  refine lv_iload_n S.x S.b d_Mpr_withNumber_20 rfl (lv_at hl 4 rfl) ?_
  refine lv_iconst (v := 1) S.x S.b d_Mpr_withNumber_21 (by decide) ?_
  refine lv_icmp_ne (tgt := 30) S.x S.b d_Mpr_withNumber_22 (by decide) (fun c41 => ?_) (fun c41 => ?_)
  · have nc41 : ¬ p1.toInt = (1 : Int) := mt (i_eq (x := p1) (y := 1)).mpr c41
    refine lv_iload_n S.x S.b d_Mpr_withNumber_30 rfl (lv_at hl 4 rfl) ?_
    refine lv_iconst (v := 5) S.x S.b d_Mpr_withNumber_31 (by decide) ?_
    refine lv_icmp_ne (tgt := 52) S.x S.b d_Mpr_withNumber_32 (by decide) (fun c42 => ?_) (fun c42 => ?_)
    · have nc42 : ¬ p1.toInt = (5 : Int) := mt (i_eq (x := p1) (y := 5)).mpr c42
      exact J52 v36 v39 _ _ ls  hw (lv_sub hl [2, 3, 4, 5, 6, 7, 1, 0] rfl)
    · have nc42 : p1.toInt = (5 : Int) := (i_eq (x := p1) (y := 5)).mp c42
      refine lv_iload S.x S.b d_Mpr_withNumber_35 (lv_at hl 0 rfl) ?_
      refine lv_if_eq (tgt := 52) S.x S.b d_Mpr_withNumber_37 (by decide) (fun c43 => ?_) (fun c43 => ?_)
      · have nc43 : v39.toInt = (0 : Int) := (i_eq (x := v39) (y := 0)).mp c43
        exact J52 v36 v39 _ _ ls  hw (lv_sub hl [2, 3, 4, 5, 6, 7, 1, 0] rfl)
      · have nc43 : ¬ v39.toInt = (0 : Int) := mt (i_eq (x := v39) (y := 0)).mpr c43
        refine lv_iload S.x S.b d_Mpr_withNumber_40 (lv_at hl 0 rfl) ?_
        refine lv_bipush (v := 32) S.x S.b d_Mpr_withNumber_42 (by decide) ?_
        refine lv_icmp_eq (tgt := 52) S.x S.b d_Mpr_withNumber_44 (by decide) (fun c44 => ?_) (fun c44 => ?_)
        · have nc44 : v39.toInt = (32 : Int) := (i_eq (x := v39) (y := 32)).mp c44
          exact J52 v36 v39 _ _ ls  hw (lv_sub hl [2, 3, 4, 5, 6, 7, 1, 0] rfl)
        · have nc44 : ¬ v39.toInt = (32 : Int) := mt (i_eq (x := v39) (y := 32)).mpr c44
          refine lv_aload_n S.x S.b d_Mpr_withNumber_47 rfl (lv_at hl 2 rfl) ?_
          refine px_calli (pr := []) (px_runV (As := []) (rest := []) S (c_mr_bad l D cs (0 : Int) q qr qg qa qf h r g tf ta pf na ma wa cf ca ef ea xf xa    _) hT (pr := []) (pcs := [wd_Mpr cs q qr (fun k => if k = 0 then (some h) else none) qf qa qg, wdP cs h r g tf ta pf na ma wa cf ca ef ea xf xa]) hw (oX_call (P := (fun A U H => (oP A g U H))) (pr := []) oG_P hw hA hP) (px_recv hT hw 0 0 rfl rfl rfl) m13_225 m13_222 m13_224 ms_15_6 m1_22 q_Mpr_bad ⟨Nat.le_of_ble_eq_true rfl, Nat.le_of_ble_eq_true rfl⟩ hl.1 rfl (Nat.le_of_ble_eq_true rfl) d_Mpr_withNumber_48 ⟨Nat.le_of_ble_eq_true rfl, Nat.le_of_ble_eq_true rfl⟩) hw hA (fun v48 p47 H locs hp47 hw => ?_)
          obtain ⟨qf46, rfl, e49, e50, e51, e52, e53, e54, e55, e56, e57, e58, e59, e60, e61, e62⟩ := hp47
          replace e49 : (qf46 2).toInt = 7 := e49
          replace e50 : (qf46 1).toInt = (qf 1).toInt := e50
          replace e51 : (qf46 4).toInt = (qf 4).toInt := e51
          replace e52 : (qf46 5).toInt = (qf 5).toInt := e52
          replace e53 : (qf46 6).toInt = (qf 6).toInt := e53
          replace e54 : (qf46 7).toInt = (qf 7).toInt := e54
          replace e55 : (qf46 10).toInt = (qf 10).toInt := e55
          replace e56 : (qf46 11).toInt = (qf 11).toInt := e56
          replace e57 : (qf46 12).toInt = (qf 12).toInt := e57
          replace e58 : (qf46 13).toInt = (qf 13).toInt := e58
          replace e59 : (qf46 14).toInt = (qf 14).toInt := e59
          replace e60 : (qf46 21).toInt = (qf 21).toInt := e60
          replace e61 : (qf46 23).toInt = (qf 23).toInt := e61
          replace e62 : (qf46 24).toInt = (qf 24).toInt := e62
          replace hw : pw D A s.heap H locs [wd_Mpr cs q qr (fun k => if k = 0 then (some h) else none) qf46 qa qg, wdP cs h r g tf ta pf na ma wa cf ca ef ea xf xa] := hw
          have lv48 := Int32.le_toInt v48
          have uv48 := Int32.toInt_lt v48
          exact px_iret (v := v48) S hr rfl hlk hAe hw (Nat.le_of_ble_eq_true rfl) (Nat.le_of_ble_eq_true rfl) (⟨qf46, qa, rfl, (show (qf46 2).toInt = (qf 2).toInt ∨ (qf46 2).toInt = 7 from by first | with_reducible rfl | with_reducible assumption | omega), (show (qf46 1).toInt = (qf 1).toInt from by first | exact e50 | omega), (show (qf46 4).toInt = (qf 4).toInt from by first | exact e51 | omega), (show (qf46 5).toInt = (qf 5).toInt from by first | exact e52 | omega), (show (qf46 6).toInt = (qf 6).toInt from by first | exact e53 | omega), (show (qf46 7).toInt = (qf 7).toInt from by first | exact e54 | omega), (show (qf46 10).toInt = (qf 10).toInt from by first | exact e55 | omega), (show (qf46 11).toInt = (qf 11).toInt from by first | exact e56 | omega), (show (qf46 12).toInt = (qf 12).toInt from by first | exact e57 | omega), (show (qf46 13).toInt = (qf 13).toInt from by first | exact e58 | omega), (show (qf46 14).toInt = (qf 14).toInt from by first | exact e59 | omega), (show (qf46 21).toInt = (qf 21).toInt from by first | exact e60 | omega), (show (qf46 23).toInt = (qf 23).toInt from by first | exact e61 | omega), (show (qf46 24).toInt = (qf 24).toInt from by first | exact e62 | omega)⟩) d_Mpr_withNumber_51
  · have nc41 : p1.toInt = (1 : Int) := (i_eq (x := p1) (y := 1)).mp c41
    refine lv_iload S.x S.b d_Mpr_withNumber_25 (lv_at hl 0 rfl) ?_
    refine lv_if_ne (tgt := 47) S.x S.b d_Mpr_withNumber_27 (by decide) (fun c63 => ?_) (fun c63 => ?_)
    · have nc63 : ¬ v39.toInt = (0 : Int) := mt (i_eq (x := v39) (y := 0)).mpr c63
      refine lv_aload_n S.x S.b d_Mpr_withNumber_47 rfl (lv_at hl 2 rfl) ?_
      refine px_calli (pr := []) (px_runV (As := []) (rest := []) S (c_mr_bad l D cs (0 : Int) q qr qg qa qf h r g tf ta pf na ma wa cf ca ef ea xf xa    _) hT (pr := []) (pcs := [wd_Mpr cs q qr (fun k => if k = 0 then (some h) else none) qf qa qg, wdP cs h r g tf ta pf na ma wa cf ca ef ea xf xa]) hw (oX_call (P := (fun A U H => (oP A g U H))) (pr := []) oG_P hw hA hP) (px_recv hT hw 0 0 rfl rfl rfl) m13_225 m13_222 m13_224 ms_15_6 m1_22 q_Mpr_bad ⟨Nat.le_of_ble_eq_true rfl, Nat.le_of_ble_eq_true rfl⟩ hl.1 rfl (Nat.le_of_ble_eq_true rfl) d_Mpr_withNumber_48 ⟨Nat.le_of_ble_eq_true rfl, Nat.le_of_ble_eq_true rfl⟩) hw hA (fun v67 p66 H locs hp66 hw => ?_)
      obtain ⟨qf65, rfl, e68, e69, e70, e71, e72, e73, e74, e75, e76, e77, e78, e79, e80, e81⟩ := hp66
      replace e68 : (qf65 2).toInt = 7 := e68
      replace e69 : (qf65 1).toInt = (qf 1).toInt := e69
      replace e70 : (qf65 4).toInt = (qf 4).toInt := e70
      replace e71 : (qf65 5).toInt = (qf 5).toInt := e71
      replace e72 : (qf65 6).toInt = (qf 6).toInt := e72
      replace e73 : (qf65 7).toInt = (qf 7).toInt := e73
      replace e74 : (qf65 10).toInt = (qf 10).toInt := e74
      replace e75 : (qf65 11).toInt = (qf 11).toInt := e75
      replace e76 : (qf65 12).toInt = (qf 12).toInt := e76
      replace e77 : (qf65 13).toInt = (qf 13).toInt := e77
      replace e78 : (qf65 14).toInt = (qf 14).toInt := e78
      replace e79 : (qf65 21).toInt = (qf 21).toInt := e79
      replace e80 : (qf65 23).toInt = (qf 23).toInt := e80
      replace e81 : (qf65 24).toInt = (qf 24).toInt := e81
      replace hw : pw D A s.heap H locs [wd_Mpr cs q qr (fun k => if k = 0 then (some h) else none) qf65 qa qg, wdP cs h r g tf ta pf na ma wa cf ca ef ea xf xa] := hw
      have lv67 := Int32.le_toInt v67
      have uv67 := Int32.toInt_lt v67
      exact px_iret (v := v67) S hr rfl hlk hAe hw (Nat.le_of_ble_eq_true rfl) (Nat.le_of_ble_eq_true rfl) (⟨qf65, qa, rfl, (show (qf65 2).toInt = (qf 2).toInt ∨ (qf65 2).toInt = 7 from by first | with_reducible rfl | with_reducible assumption | omega), (show (qf65 1).toInt = (qf 1).toInt from by first | exact e69 | omega), (show (qf65 4).toInt = (qf 4).toInt from by first | exact e70 | omega), (show (qf65 5).toInt = (qf 5).toInt from by first | exact e71 | omega), (show (qf65 6).toInt = (qf 6).toInt from by first | exact e72 | omega), (show (qf65 7).toInt = (qf 7).toInt from by first | exact e73 | omega), (show (qf65 10).toInt = (qf 10).toInt from by first | exact e74 | omega), (show (qf65 11).toInt = (qf 11).toInt from by first | exact e75 | omega), (show (qf65 12).toInt = (qf 12).toInt from by first | exact e76 | omega), (show (qf65 13).toInt = (qf 13).toInt from by first | exact e77 | omega), (show (qf65 14).toInt = (qf 14).toInt from by first | exact e78 | omega), (show (qf65 21).toInt = (qf 21).toInt from by first | exact e79 | omega), (show (qf65 23).toInt = (qf 23).toInt from by first | exact e80 | omega), (show (qf65 24).toInt = (qf 24).toInt from by first | exact e81 | omega)⟩) d_Mpr_withNumber_51
    · have nc63 : v39.toInt = (0 : Int) := (i_eq (x := v39) (y := 0)).mp c63
      refine lv_iload_n S.x S.b d_Mpr_withNumber_30 rfl (lv_at hl 4 rfl) ?_
      refine lv_iconst (v := 5) S.x S.b d_Mpr_withNumber_31 (by decide) ?_
      refine lv_icmp_ne (tgt := 52) S.x S.b d_Mpr_withNumber_32 (by decide) (fun c82 => ?_) (fun c82 => ?_)
      · have nc82 : ¬ p1.toInt = (5 : Int) := mt (i_eq (x := p1) (y := 5)).mpr c82
        exact J52 v36 v39 _ _ ls  hw (lv_sub hl [2, 3, 4, 5, 6, 7, 1, 0] rfl)
      · have nc82 : p1.toInt = (5 : Int) := (i_eq (x := p1) (y := 5)).mp c82
        refine lv_iload S.x S.b d_Mpr_withNumber_35 (lv_at hl 0 rfl) ?_
        refine lv_if_eq (tgt := 52) S.x S.b d_Mpr_withNumber_37 (by decide) (fun c83 => ?_) (fun c83 => ?_)
        · have nc83 : v39.toInt = (0 : Int) := (i_eq (x := v39) (y := 0)).mp c83
          exact J52 v36 v39 _ _ ls  hw (lv_sub hl [2, 3, 4, 5, 6, 7, 1, 0] rfl)
        · have nc83 : ¬ v39.toInt = (0 : Int) := mt (i_eq (x := v39) (y := 0)).mpr c83
          refine lv_iload S.x S.b d_Mpr_withNumber_40 (lv_at hl 0 rfl) ?_
          refine lv_bipush (v := 32) S.x S.b d_Mpr_withNumber_42 (by decide) ?_
          refine lv_icmp_eq (tgt := 52) S.x S.b d_Mpr_withNumber_44 (by decide) (fun c84 => ?_) (fun c84 => ?_)
          · have nc84 : v39.toInt = (32 : Int) := (i_eq (x := v39) (y := 32)).mp c84
            exact J52 v36 v39 _ _ ls  hw (lv_sub hl [2, 3, 4, 5, 6, 7, 1, 0] rfl)
          · have nc84 : ¬ v39.toInt = (32 : Int) := mt (i_eq (x := v39) (y := 32)).mpr c84
            refine lv_aload_n S.x S.b d_Mpr_withNumber_47 rfl (lv_at hl 2 rfl) ?_
            refine px_calli (pr := []) (px_runV (As := []) (rest := []) S (c_mr_bad l D cs (0 : Int) q qr qg qa qf h r g tf ta pf na ma wa cf ca ef ea xf xa    _) hT (pr := []) (pcs := [wd_Mpr cs q qr (fun k => if k = 0 then (some h) else none) qf qa qg, wdP cs h r g tf ta pf na ma wa cf ca ef ea xf xa]) hw (oX_call (P := (fun A U H => (oP A g U H))) (pr := []) oG_P hw hA hP) (px_recv hT hw 0 0 rfl rfl rfl) m13_225 m13_222 m13_224 ms_15_6 m1_22 q_Mpr_bad ⟨Nat.le_of_ble_eq_true rfl, Nat.le_of_ble_eq_true rfl⟩ hl.1 rfl (Nat.le_of_ble_eq_true rfl) d_Mpr_withNumber_48 ⟨Nat.le_of_ble_eq_true rfl, Nat.le_of_ble_eq_true rfl⟩) hw hA (fun v88 p87 H locs hp87 hw => ?_)
            obtain ⟨qf86, rfl, e89, e90, e91, e92, e93, e94, e95, e96, e97, e98, e99, e100, e101, e102⟩ := hp87
            replace e89 : (qf86 2).toInt = 7 := e89
            replace e90 : (qf86 1).toInt = (qf 1).toInt := e90
            replace e91 : (qf86 4).toInt = (qf 4).toInt := e91
            replace e92 : (qf86 5).toInt = (qf 5).toInt := e92
            replace e93 : (qf86 6).toInt = (qf 6).toInt := e93
            replace e94 : (qf86 7).toInt = (qf 7).toInt := e94
            replace e95 : (qf86 10).toInt = (qf 10).toInt := e95
            replace e96 : (qf86 11).toInt = (qf 11).toInt := e96
            replace e97 : (qf86 12).toInt = (qf 12).toInt := e97
            replace e98 : (qf86 13).toInt = (qf 13).toInt := e98
            replace e99 : (qf86 14).toInt = (qf 14).toInt := e99
            replace e100 : (qf86 21).toInt = (qf 21).toInt := e100
            replace e101 : (qf86 23).toInt = (qf 23).toInt := e101
            replace e102 : (qf86 24).toInt = (qf 24).toInt := e102
            replace hw : pw D A s.heap H locs [wd_Mpr cs q qr (fun k => if k = 0 then (some h) else none) qf86 qa qg, wdP cs h r g tf ta pf na ma wa cf ca ef ea xf xa] := hw
            have lv88 := Int32.le_toInt v88
            have uv88 := Int32.toInt_lt v88
            exact px_iret (v := v88) S hr rfl hlk hAe hw (Nat.le_of_ble_eq_true rfl) (Nat.le_of_ble_eq_true rfl) (⟨qf86, qa, rfl, (show (qf86 2).toInt = (qf 2).toInt ∨ (qf86 2).toInt = 7 from by first | with_reducible rfl | with_reducible assumption | omega), (show (qf86 1).toInt = (qf 1).toInt from by first | exact e90 | omega), (show (qf86 4).toInt = (qf 4).toInt from by first | exact e91 | omega), (show (qf86 5).toInt = (qf 5).toInt from by first | exact e92 | omega), (show (qf86 6).toInt = (qf 6).toInt from by first | exact e93 | omega), (show (qf86 7).toInt = (qf 7).toInt from by first | exact e94 | omega), (show (qf86 10).toInt = (qf 10).toInt from by first | exact e95 | omega), (show (qf86 11).toInt = (qf 11).toInt from by first | exact e96 | omega), (show (qf86 12).toInt = (qf 12).toInt from by first | exact e97 | omega), (show (qf86 13).toInt = (qf 13).toInt from by first | exact e98 | omega), (show (qf86 14).toInt = (qf 14).toInt from by first | exact e99 | omega), (show (qf86 21).toInt = (qf 21).toInt from by first | exact e100 | omega), (show (qf86 23).toInt = (qf 23).toInt from by first | exact e101 | omega), (show (qf86 24).toInt = (qf 24).toInt from by first | exact e102 | omega)⟩) d_Mpr_withNumber_51
abbrev b_Mpr_withTwo : ByteArray := prog_15_method_42_code
def y_Mpr_withTwo : MethodName := ⟨"HomeSystemModel$Process", "withTwo", "(IIIII)I"⟩
theorem d_Mpr_withTwo_0 : decode b_Mpr_withTwo 0 = .ok (.iload_n 1, 1) := by decide +kernel
theorem d_Mpr_withTwo_1 : decode b_Mpr_withTwo 1 = .ok (.bipush 25, 2) := by decide +kernel
theorem d_Mpr_withTwo_3 : decode b_Mpr_withTwo 3 = .ok (.bipush 31, 2) := by decide +kernel
theorem d_Mpr_withTwo_5 : decode b_Mpr_withTwo 5 = .ok (.invokestatic 264, 3) := by decide +kernel
theorem d_Mpr_withTwo_8 : decode b_Mpr_withTwo 8 = .ok (.istore 6, 2) := by decide +kernel
theorem d_Mpr_withTwo_10 : decode b_Mpr_withTwo 10 = .ok (.iload 5, 2) := by decide +kernel
theorem d_Mpr_withTwo_12 : decode b_Mpr_withTwo 12 = .ok (.iconst 0, 1) := by decide +kernel
theorem d_Mpr_withTwo_13 : decode b_Mpr_withTwo 13 = .ok (.iconst 4, 1) := by decide +kernel
theorem d_Mpr_withTwo_14 : decode b_Mpr_withTwo 14 = .ok (.invokestatic 264, 3) := by decide +kernel
theorem d_Mpr_withTwo_17 : decode b_Mpr_withTwo 17 = .ok (.istore 7, 2) := by decide +kernel
theorem d_Mpr_withTwo_19 : decode b_Mpr_withTwo 19 = .ok (.iload 6, 2) := by decide +kernel
theorem d_Mpr_withTwo_21 : decode b_Mpr_withTwo 21 = .ok (.iconst 1, 1) := by decide +kernel
theorem d_Mpr_withTwo_22 : decode b_Mpr_withTwo 22 = .ok (.if_icmp .ne 35, 3) := by decide +kernel
theorem d_Mpr_withTwo_25 : decode b_Mpr_withTwo 25 = .ok (.aload_n 0, 1) := by decide +kernel
theorem d_Mpr_withTwo_26 : decode b_Mpr_withTwo 26 = .ok (.iload_n 3, 1) := by decide +kernel
theorem d_Mpr_withTwo_27 : decode b_Mpr_withTwo 27 = .ok (.iload_n 2, 1) := by decide +kernel
theorem d_Mpr_withTwo_28 : decode b_Mpr_withTwo 28 = .ok (.iconst 4, 1) := by decide +kernel
theorem d_Mpr_withTwo_29 : decode b_Mpr_withTwo 29 = .ok (.if_icmp .ge 14, 3) := by decide +kernel
theorem d_Mpr_withTwo_32 : decode b_Mpr_withTwo 32 = .ok (.iload_n 2, 1) := by decide +kernel
theorem d_Mpr_withTwo_33 : decode b_Mpr_withTwo 33 = .ok (.iload 4, 2) := by decide +kernel
theorem d_Mpr_withTwo_35 : decode b_Mpr_withTwo 35 = .ok (.iload 5, 2) := by decide +kernel
theorem d_Mpr_withTwo_37 : decode b_Mpr_withTwo 37 = .ok (.invokestatic 311, 3) := by decide +kernel
theorem d_Mpr_withTwo_40 : decode b_Mpr_withTwo 40 = .ok (.goto 11, 3) := by decide +kernel
theorem d_Mpr_withTwo_43 : decode b_Mpr_withTwo 43 = .ok (.iload_n 2, 1) := by decide +kernel
theorem d_Mpr_withTwo_44 : decode b_Mpr_withTwo 44 = .ok (.iload 4, 2) := by decide +kernel
theorem d_Mpr_withTwo_46 : decode b_Mpr_withTwo 46 = .ok (.iload 5, 2) := by decide +kernel
theorem d_Mpr_withTwo_48 : decode b_Mpr_withTwo 48 = .ok (.invokestatic 314, 3) := by decide +kernel
theorem d_Mpr_withTwo_51 : decode b_Mpr_withTwo 51 = .ok (.invokevirtual 268, 3) := by decide +kernel
theorem d_Mpr_withTwo_54 : decode b_Mpr_withTwo 54 = .ok (.goto 102, 3) := by decide +kernel
theorem d_Mpr_withTwo_57 : decode b_Mpr_withTwo 57 = .ok (.iload 6, 2) := by decide +kernel
theorem d_Mpr_withTwo_59 : decode b_Mpr_withTwo 59 = .ok (.ifCond .ne 48, 3) := by decide +kernel
theorem d_Mpr_withTwo_62 : decode b_Mpr_withTwo 62 = .ok (.aload_n 0, 1) := by decide +kernel
theorem d_Mpr_withTwo_63 : decode b_Mpr_withTwo 63 = .ok (.iload_n 3, 1) := by decide +kernel
theorem d_Mpr_withTwo_64 : decode b_Mpr_withTwo 64 = .ok (.iload_n 2, 1) := by decide +kernel
theorem d_Mpr_withTwo_65 : decode b_Mpr_withTwo 65 = .ok (.iconst 1, 1) := by decide +kernel
theorem d_Mpr_withTwo_66 : decode b_Mpr_withTwo 66 = .ok (.if_icmp .ne 11, 3) := by decide +kernel
theorem d_Mpr_withTwo_69 : decode b_Mpr_withTwo 69 = .ok (.iload 4, 2) := by decide +kernel
theorem d_Mpr_withTwo_71 : decode b_Mpr_withTwo 71 = .ok (.iload 7, 2) := by decide +kernel
theorem d_Mpr_withTwo_73 : decode b_Mpr_withTwo 73 = .ok (.ishl, 1) := by decide +kernel
theorem d_Mpr_withTwo_74 : decode b_Mpr_withTwo 74 = .ok (.goto 27, 3) := by decide +kernel
theorem d_Mpr_withTwo_77 : decode b_Mpr_withTwo 77 = .ok (.iload_n 2, 1) := by decide +kernel
theorem d_Mpr_withTwo_78 : decode b_Mpr_withTwo 78 = .ok (.iconst 5, 1) := by decide +kernel
theorem d_Mpr_withTwo_79 : decode b_Mpr_withTwo 79 = .ok (.if_icmp .ne 14, 3) := by decide +kernel
theorem d_Mpr_withTwo_82 : decode b_Mpr_withTwo 82 = .ok (.iload 4, 2) := by decide +kernel
theorem d_Mpr_withTwo_84 : decode b_Mpr_withTwo 84 = .ok (.iload 7, 2) := by decide +kernel
theorem d_Mpr_withTwo_86 : decode b_Mpr_withTwo 86 = .ok (.iconst 0, 1) := by decide +kernel
theorem d_Mpr_withTwo_87 : decode b_Mpr_withTwo 87 = .ok (.invokestatic 304, 3) := by decide +kernel
theorem d_Mpr_withTwo_90 : decode b_Mpr_withTwo 90 = .ok (.goto 11, 3) := by decide +kernel
theorem d_Mpr_withTwo_93 : decode b_Mpr_withTwo 93 = .ok (.iload_n 2, 1) := by decide +kernel
theorem d_Mpr_withTwo_94 : decode b_Mpr_withTwo 94 = .ok (.iload 4, 2) := by decide +kernel
theorem d_Mpr_withTwo_96 : decode b_Mpr_withTwo 96 = .ok (.iload 5, 2) := by decide +kernel
theorem d_Mpr_withTwo_98 : decode b_Mpr_withTwo 98 = .ok (.invokestatic 308, 3) := by decide +kernel
theorem d_Mpr_withTwo_101 : decode b_Mpr_withTwo 101 = .ok (.invokevirtual 268, 3) := by decide +kernel
theorem d_Mpr_withTwo_104 : decode b_Mpr_withTwo 104 = .ok (.goto 52, 3) := by decide +kernel
theorem d_Mpr_withTwo_107 : decode b_Mpr_withTwo 107 = .ok (.iload 6, 2) := by decide +kernel
theorem d_Mpr_withTwo_109 : decode b_Mpr_withTwo 109 = .ok (.bipush 32, 2) := by decide +kernel
theorem d_Mpr_withTwo_111 : decode b_Mpr_withTwo 111 = .ok (.if_icmp .ne 40, 3) := by decide +kernel
theorem d_Mpr_withTwo_114 : decode b_Mpr_withTwo 114 = .ok (.iload_n 2, 1) := by decide +kernel
theorem d_Mpr_withTwo_115 : decode b_Mpr_withTwo 115 = .ok (.ifCond .eq 8, 3) := by decide +kernel
theorem d_Mpr_withTwo_118 : decode b_Mpr_withTwo 118 = .ok (.iload_n 2, 1) := by decide +kernel
theorem d_Mpr_withTwo_119 : decode b_Mpr_withTwo 119 = .ok (.iconst 5, 1) := by decide +kernel
theorem d_Mpr_withTwo_120 : decode b_Mpr_withTwo 120 = .ok (.if_icmp .ne 31, 3) := by decide +kernel
theorem d_Mpr_withTwo_123 : decode b_Mpr_withTwo 123 = .ok (.aload_n 0, 1) := by decide +kernel
theorem d_Mpr_withTwo_124 : decode b_Mpr_withTwo 124 = .ok (.iload_n 3, 1) := by decide +kernel
theorem d_Mpr_withTwo_125 : decode b_Mpr_withTwo 125 = .ok (.iload_n 2, 1) := by decide +kernel
theorem d_Mpr_withTwo_126 : decode b_Mpr_withTwo 126 = .ok (.ifCond .ne 11, 3) := by decide +kernel
theorem d_Mpr_withTwo_129 : decode b_Mpr_withTwo 129 = .ok (.iload 4, 2) := by decide +kernel
theorem d_Mpr_withTwo_131 : decode b_Mpr_withTwo 131 = .ok (.iload 5, 2) := by decide +kernel
theorem d_Mpr_withTwo_133 : decode b_Mpr_withTwo 133 = .ok (.isub, 1) := by decide +kernel
theorem d_Mpr_withTwo_134 : decode b_Mpr_withTwo 134 = .ok (.goto 11, 3) := by decide +kernel
theorem d_Mpr_withTwo_137 : decode b_Mpr_withTwo 137 = .ok (.iload 4, 2) := by decide +kernel
theorem d_Mpr_withTwo_139 : decode b_Mpr_withTwo 139 = .ok (.iload 7, 2) := by decide +kernel
theorem d_Mpr_withTwo_141 : decode b_Mpr_withTwo 141 = .ok (.iconst 1, 1) := by decide +kernel
theorem d_Mpr_withTwo_142 : decode b_Mpr_withTwo 142 = .ok (.invokestatic 304, 3) := by decide +kernel
theorem d_Mpr_withTwo_145 : decode b_Mpr_withTwo 145 = .ok (.invokevirtual 268, 3) := by decide +kernel
theorem d_Mpr_withTwo_148 : decode b_Mpr_withTwo 148 = .ok (.goto 8, 3) := by decide +kernel
theorem d_Mpr_withTwo_151 : decode b_Mpr_withTwo 151 = .ok (.aload_n 0, 1) := by decide +kernel
theorem d_Mpr_withTwo_152 : decode b_Mpr_withTwo 152 = .ok (.invokevirtual 275, 3) := by decide +kernel
theorem d_Mpr_withTwo_155 : decode b_Mpr_withTwo 155 = .ok (.ireturn, 1) := by decide +kernel
theorem d_Mpr_withTwo_156 : decode b_Mpr_withTwo 156 = .ok (.aload_n 0, 1) := by decide +kernel
theorem d_Mpr_withTwo_157 : decode b_Mpr_withTwo 157 = .ok (.getfield 95, 3) := by decide +kernel
theorem d_Mpr_withTwo_160 : decode b_Mpr_withTwo 160 = .ok (.iconst 4, 1) := by decide +kernel
theorem d_Mpr_withTwo_161 : decode b_Mpr_withTwo 161 = .ok (.iadd, 1) := by decide +kernel
theorem d_Mpr_withTwo_162 : decode b_Mpr_withTwo 162 = .ok (.ireturn, 1) := by decide +kernel
theorem q_Mpr_withTwo : px_y y_Mpr_withTwo 5 := by unfold px_y; decide +kernel
set_option maxHeartbeats 4000000 in
set_option maxRecDepth 100000 in
theorem c_mr_withTwo (l : Launch) (D : va_G) (cs : Nat → ClassId) (nf : Int) (q : Nat) (qr : Nat → Nat) (qg : Nat → Nat → Option Nat) (qf : Nat → Int32) (qa : Nat → Nat → Int32) (h : Nat) (r : Nat → Nat) (g : Nat → Nat → Option Nat) (tf : Nat → Int32) (ta : Nat → Nat → Int32) (pf : Nat → Int32) (na : Nat → Nat → Int32) (ma : Nat → Nat → Int32) (wa : Nat → Nat → Int32) (cf : Nat → Int32) (ca : Nat → Nat → Int32) (ef : Nat → Int32) (ea : Nat → Nat → Int32) (xf : Nat → Int32) (xa : Nat → Nat → Int32) (p0 p1 p2 p3 p4 : Int32)  (g0 : 0 ≤ p2.toInt) (g1 : p2.toInt < 32) : MetI l y_Mpr_withTwo b_Mpr_withTwo 8 (.int) D cs 3 110 (0) (0) [.ref q, .int p0, .int p1, .int p2, .int p3, .int p4] [wd_Mpr cs q qr (fun k => if k = 0 then (some h) else none) qf qa qg, wdP cs h r g tf ta pf na ma wa cf ca ef ea xf xa] (oX (fun A U H => (oP A g U H)) [wd_Mpr cs q qr (fun k => if k = 0 then (some h) else none) qf qa qg, wdP cs h r g tf ta pf na ma wa cf ca ef ea xf xa]) (fun v ps => ∃ (qf' : Nat → Int32) (qa' : Nat → Nat → Int32), (ps = [wd_Mpr cs q qr (fun k => if k = 0 then (some h) else none) qf' qa' qg, wdP cs h r g tf ta pf na ma wa cf ca ef ea xf xa]) ∧ ((qf' 2).toInt = (qf 2).toInt ∨ (qf' 2).toInt = 7) ∧ ((qf' 1).toInt = (qf 1).toInt) ∧ ((qf' 4).toInt = (qf 4).toInt) ∧ ((qf' 5).toInt = (qf 5).toInt) ∧ ((qf' 6).toInt = (qf 6).toInt) ∧ ((qf' 7).toInt = (qf 7).toInt) ∧ ((qf' 10).toInt = (qf 10).toInt) ∧ ((qf' 11).toInt = (qf 11).toInt) ∧ ((qf' 12).toInt = (qf 12).toInt) ∧ ((qf' 13).toInt = (qf 13).toInt) ∧ ((qf' 14).toInt = (qf 14).toInt) ∧ ((qf' 21).toInt = (qf 21).toInt) ∧ ((qf' 23).toInt = (qf 23).toInt) ∧ ((qf' 24).toInt = (qf 24).toInt)) := by
  refine px_enter (by decide) (Nat.le_of_ble_eq_true rfl) ?_
  intro p e s m below meth c A ls hAe S hr hlk hnm hA hT hX hw hl
  replace hl : lv_has ls 8 [(0, .ref q), (1, .int p0), (2, .int p1), (3, .int p2), (4, .int p3), (5, .int p4)] := hl
  have lp0 := Int32.le_toInt p0
  have up0 := Int32.toInt_lt p0
  have lp1 := Int32.le_toInt p1
  have up1 := Int32.toInt_lt p1
  have lp2 := Int32.le_toInt p2
  have up2 := Int32.toInt_lt p2
  have lp3 := Int32.le_toInt p3
  have up3 := Int32.toInt_lt p3
  have lp4 := Int32.le_toInt p4
  have up4 := Int32.toInt_lt p4
  have cst0 : (0 : Int32).toInt = 0 := rfl
  have cst1 : (1 : Int32).toInt = 1 := rfl
  have cst4 : (4 : Int32).toInt = 4 := rfl
  have cst5 : (5 : Int32).toInt = 5 := rfl
  have cst25 : (25 : Int32).toInt = 25 := rfl
  have cst31 : (31 : Int32).toInt = 31 := rfl
  have cst32 : (32 : Int32).toInt = 32 := rfl
  have hX : (fun A U H => (oP A g U H)) A s s.heap := by rw [hAe]; exact hX
  have hP := hX
  have hZ := hP.1
  have hF0 := hP.2.1
  refine lv_iload_n S.x S.b d_Mpr_withTwo_0 rfl (lv_at hl 1 rfl) ?_
  refine lv_bipush (v := 25) S.x S.b d_Mpr_withTwo_1 (by decide) ?_
  refine lv_bipush (v := 31) S.x S.b d_Mpr_withTwo_3 (by decide) ?_
  refine px_calli (pr := [wd_Mpr cs q qr (fun k => if k = 0 then (some h) else none) qf qa qg, wdP cs h r g tf ta pf na ma wa cf ca ef ea xf xa]) (px_runS (As := [.int p0, .int 25, .int 31]) (rest := []) S (c_mr_bits l D cs  p0 25 31   _) hT (pr := [wd_Mpr cs q qr (fun k => if k = 0 then (some h) else none) qf qa qg, wdP cs h r g tf ta pf na ma wa cf ca ef ea xf xa]) (pcs := []) hw px_X.tt m13_212 m13_210 m13_211 m1_22 q_Mpr_bits ⟨Nat.le_of_ble_eq_true rfl, Nat.le_of_ble_eq_true rfl⟩ hl.1 rfl (Nat.le_of_ble_eq_true rfl) d_Mpr_withTwo_5 ⟨Nat.le_of_ble_eq_true rfl, Nat.le_of_ble_eq_true rfl⟩) hw hA (fun v2 p1 H locs hp1 hw => ?_)
  obtain ⟨rfl, e3⟩ := hp1
  replace e3 : (31 : Int) = (25 : Int) + 4 → 0 ≤ v2.toInt ∧ v2.toInt < 32 := e3
  replace hw : pw D A s.heap H locs [wd_Mpr cs q qr (fun k => if k = 0 then (some h) else none) qf qa qg, wdP cs h r g tf ta pf na ma wa cf ca ef ea xf xa] := hw
  have lv2 := Int32.le_toInt v2
  have uv2 := Int32.toInt_lt v2
  refine lv_istore (lv' := [(6, .int v2), (0, .ref q), (1, .int p0), (2, .int p1), (3, .int p2), (4, .int p3), (5, .int p4)]) S.x S.b d_Mpr_withTwo_8 hl (by decide) rfl (fun ls hl => ?_)
  refine lv_iload S.x S.b d_Mpr_withTwo_10 (lv_at hl 6 rfl) ?_
  refine lv_iconst (v := 0) S.x S.b d_Mpr_withTwo_12 (by decide) ?_
  refine lv_iconst (v := 4) S.x S.b d_Mpr_withTwo_13 (by decide) ?_
  refine px_calli (pr := [wd_Mpr cs q qr (fun k => if k = 0 then (some h) else none) qf qa qg, wdP cs h r g tf ta pf na ma wa cf ca ef ea xf xa]) (px_runS (As := [.int p4, .int 0, .int 4]) (rest := []) S (c_mr_bits l D cs  p4 0 4   _) hT (pr := [wd_Mpr cs q qr (fun k => if k = 0 then (some h) else none) qf qa qg, wdP cs h r g tf ta pf na ma wa cf ca ef ea xf xa]) (pcs := []) hw px_X.tt m13_212 m13_210 m13_211 m1_22 q_Mpr_bits ⟨Nat.le_of_ble_eq_true rfl, Nat.le_of_ble_eq_true rfl⟩ hl.1 rfl (Nat.le_of_ble_eq_true rfl) d_Mpr_withTwo_14 ⟨Nat.le_of_ble_eq_true rfl, Nat.le_of_ble_eq_true rfl⟩) hw hA (fun v5 p4 H locs hp4 hw => ?_)
  obtain ⟨rfl, e6⟩ := hp4
  replace e6 : (4 : Int) = (0 : Int) + 4 → 0 ≤ v5.toInt ∧ v5.toInt < 32 := e6
  replace hw : pw D A s.heap H locs [wd_Mpr cs q qr (fun k => if k = 0 then (some h) else none) qf qa qg, wdP cs h r g tf ta pf na ma wa cf ca ef ea xf xa] := hw
  have lv5 := Int32.le_toInt v5
  have uv5 := Int32.toInt_lt v5
  refine lv_istore (lv' := [(7, .int v5), (6, .int v2), (0, .ref q), (1, .int p0), (2, .int p1), (3, .int p2), (4, .int p3), (5, .int p4)]) S.x S.b d_Mpr_withTwo_17 hl (by decide) rfl (fun ls hl => ?_)
  refine lv_iload S.x S.b d_Mpr_withTwo_19 (lv_at hl 1 rfl) ?_
  refine lv_iconst (v := 1) S.x S.b d_Mpr_withTwo_21 (by decide) ?_
  refine lv_icmp_ne (tgt := 57) S.x S.b d_Mpr_withTwo_22 (by decide) (fun c7 => ?_) (fun c7 => ?_)
  · have nc7 : ¬ v2.toInt = (1 : Int) := mt (i_eq (x := v2) (y := 1)).mpr c7
    refine lv_iload S.x S.b d_Mpr_withTwo_57 (lv_at hl 1 rfl) ?_
    refine lv_if_ne (tgt := 107) S.x S.b d_Mpr_withTwo_59 (by decide) (fun c8 => ?_) (fun c8 => ?_)
    · have nc8 : ¬ v2.toInt = (0 : Int) := mt (i_eq (x := v2) (y := 0)).mpr c8
      refine lv_iload S.x S.b d_Mpr_withTwo_107 (lv_at hl 1 rfl) ?_
      refine lv_bipush (v := 32) S.x S.b d_Mpr_withTwo_109 (by decide) ?_
      refine lv_icmp_ne (tgt := 151) S.x S.b d_Mpr_withTwo_111 (by decide) (fun c9 => ?_) (fun c9 => ?_)
      · have nc9 : ¬ v2.toInt = (32 : Int) := mt (i_eq (x := v2) (y := 32)).mpr c9
        refine lv_aload_n S.x S.b d_Mpr_withTwo_151 rfl (lv_at hl 2 rfl) ?_
        refine px_calli (pr := []) (px_runV (As := []) (rest := []) S (c_mr_bad l D cs (0 : Int) q qr qg qa qf h r g tf ta pf na ma wa cf ca ef ea xf xa    _) hT (pr := []) (pcs := [wd_Mpr cs q qr (fun k => if k = 0 then (some h) else none) qf qa qg, wdP cs h r g tf ta pf na ma wa cf ca ef ea xf xa]) hw (oX_call (P := (fun A U H => (oP A g U H))) (pr := []) oG_P hw hA hP) (px_recv hT hw 0 0 rfl rfl rfl) m13_225 m13_222 m13_224 ms_15_6 m1_22 q_Mpr_bad ⟨Nat.le_of_ble_eq_true rfl, Nat.le_of_ble_eq_true rfl⟩ hl.1 rfl (Nat.le_of_ble_eq_true rfl) d_Mpr_withTwo_152 ⟨Nat.le_of_ble_eq_true rfl, Nat.le_of_ble_eq_true rfl⟩) hw hA (fun v13 p12 H locs hp12 hw => ?_)
        obtain ⟨qf11, rfl, e14, e15, e16, e17, e18, e19, e20, e21, e22, e23, e24, e25, e26, e27⟩ := hp12
        replace e14 : (qf11 2).toInt = 7 := e14
        replace e15 : (qf11 1).toInt = (qf 1).toInt := e15
        replace e16 : (qf11 4).toInt = (qf 4).toInt := e16
        replace e17 : (qf11 5).toInt = (qf 5).toInt := e17
        replace e18 : (qf11 6).toInt = (qf 6).toInt := e18
        replace e19 : (qf11 7).toInt = (qf 7).toInt := e19
        replace e20 : (qf11 10).toInt = (qf 10).toInt := e20
        replace e21 : (qf11 11).toInt = (qf 11).toInt := e21
        replace e22 : (qf11 12).toInt = (qf 12).toInt := e22
        replace e23 : (qf11 13).toInt = (qf 13).toInt := e23
        replace e24 : (qf11 14).toInt = (qf 14).toInt := e24
        replace e25 : (qf11 21).toInt = (qf 21).toInt := e25
        replace e26 : (qf11 23).toInt = (qf 23).toInt := e26
        replace e27 : (qf11 24).toInt = (qf 24).toInt := e27
        replace hw : pw D A s.heap H locs [wd_Mpr cs q qr (fun k => if k = 0 then (some h) else none) qf11 qa qg, wdP cs h r g tf ta pf na ma wa cf ca ef ea xf xa] := hw
        have lv13 := Int32.le_toInt v13
        have uv13 := Int32.toInt_lt v13
        exact px_iret (v := v13) S hr rfl hlk hAe hw (Nat.le_of_ble_eq_true rfl) (Nat.le_of_ble_eq_true rfl) (⟨qf11, qa, rfl, (show (qf11 2).toInt = (qf 2).toInt ∨ (qf11 2).toInt = 7 from by first | with_reducible rfl | with_reducible assumption | omega), (show (qf11 1).toInt = (qf 1).toInt from by first | exact e15 | omega), (show (qf11 4).toInt = (qf 4).toInt from by first | exact e16 | omega), (show (qf11 5).toInt = (qf 5).toInt from by first | exact e17 | omega), (show (qf11 6).toInt = (qf 6).toInt from by first | exact e18 | omega), (show (qf11 7).toInt = (qf 7).toInt from by first | exact e19 | omega), (show (qf11 10).toInt = (qf 10).toInt from by first | exact e20 | omega), (show (qf11 11).toInt = (qf 11).toInt from by first | exact e21 | omega), (show (qf11 12).toInt = (qf 12).toInt from by first | exact e22 | omega), (show (qf11 13).toInt = (qf 13).toInt from by first | exact e23 | omega), (show (qf11 14).toInt = (qf 14).toInt from by first | exact e24 | omega), (show (qf11 21).toInt = (qf 21).toInt from by first | exact e25 | omega), (show (qf11 23).toInt = (qf 23).toInt from by first | exact e26 | omega), (show (qf11 24).toInt = (qf 24).toInt from by first | exact e27 | omega)⟩) d_Mpr_withTwo_155
      · have nc9 : v2.toInt = (32 : Int) := (i_eq (x := v2) (y := 32)).mp c9
        refine lv_iload_n S.x S.b d_Mpr_withTwo_114 rfl (lv_at hl 4 rfl) ?_
        refine lv_if_eq (tgt := 123) S.x S.b d_Mpr_withTwo_115 (by decide) (fun c28 => ?_) (fun c28 => ?_)
        · have nc28 : p1.toInt = (0 : Int) := (i_eq (x := p1) (y := 0)).mp c28
          refine lv_aload_n S.x S.b d_Mpr_withTwo_123 rfl (lv_at hl 2 rfl) ?_
          refine lv_iload_n S.x S.b d_Mpr_withTwo_124 rfl (lv_at hl 5 rfl) ?_
          refine lv_iload_n S.x S.b d_Mpr_withTwo_125 rfl (lv_at hl 4 rfl) ?_
          refine lv_if_ne (tgt := 137) S.x S.b d_Mpr_withTwo_126 (by decide) (fun c29 => ?_) (fun c29 => ?_)
          · have nc29 : ¬ p1.toInt = (0 : Int) := mt (i_eq (x := p1) (y := 0)).mpr c29
            refine lv_iload S.x S.b d_Mpr_withTwo_137 (lv_at hl 6 rfl) ?_
            refine lv_iload S.x S.b d_Mpr_withTwo_139 (lv_at hl 0 rfl) ?_
            refine lv_iconst (v := 1) S.x S.b d_Mpr_withTwo_141 (by decide) ?_
            refine px_calli (pr := [wd_Mpr cs q qr (fun k => if k = 0 then (some h) else none) qf qa qg, wdP cs h r g tf ta pf na ma wa cf ca ef ea xf xa]) (px_runS (As := [.int p3, .int v5, .int 1]) (rest := [.int p2, .ref q]) S (c_mr_right l D cs  p3 v5 1   _) hT (pr := [wd_Mpr cs q qr (fun k => if k = 0 then (some h) else none) qf qa qg, wdP cs h r g tf ta pf na ma wa cf ca ef ea xf xa]) (pcs := []) hw px_X.tt m14_16 m14_14 m14_15 m1_22 q_Mpr_right ⟨Nat.le_of_ble_eq_true rfl, Nat.le_of_ble_eq_true rfl⟩ hl.1 rfl (Nat.le_of_ble_eq_true rfl) d_Mpr_withTwo_142 ⟨Nat.le_of_ble_eq_true rfl, Nat.le_of_ble_eq_true rfl⟩) hw hA (fun v31 p30 H locs hp30 hw => ?_)
            subst hp30
            replace hw : pw D A s.heap H locs [wd_Mpr cs q qr (fun k => if k = 0 then (some h) else none) qf qa qg, wdP cs h r g tf ta pf na ma wa cf ca ef ea xf xa] := hw
            have lv31 := Int32.le_toInt v31
            have uv31 := Int32.toInt_lt v31
            refine px_callv (pr := []) (px_runV (As := [.int p2, .int v31]) (rest := []) S (c_mr_set l D cs (0 : Int) q qr qg qf qa h r g tf ta pf na ma wa cf ca ef ea xf xa p2 v31  (show 0 ≤ p2.toInt from by first | exact g0 | omega) (show p2.toInt < 32 from by first | exact g1 | omega) _) hT (pr := []) (pcs := [wd_Mpr cs q qr (fun k => if k = 0 then (some h) else none) qf qa qg, wdP cs h r g tf ta pf na ma wa cf ca ef ea xf xa]) hw (oX_call (P := (fun A U H => (oP A g U H))) (pr := []) oG_P hw hA hP) (px_recv hT hw 0 0 rfl rfl rfl) m13_216 m13_213 m13_215 ms_15_4 m1_22 q_Mpr_set ⟨Nat.le_of_ble_eq_true rfl, Nat.le_of_ble_eq_true rfl⟩ hl.1 rfl (Nat.le_of_ble_eq_true rfl) d_Mpr_withTwo_145 ⟨Nat.le_of_ble_eq_true rfl, Nat.le_of_ble_eq_true rfl⟩) hw hA (fun p34 H locs hp34 hw => ?_)
            obtain ⟨qa33, rfl⟩ := hp34
            replace hw : pw D A s.heap H locs [wd_Mpr cs q qr (fun k => if k = 0 then (some h) else none) qf qa33 qg, wdP cs h r g tf ta pf na ma wa cf ca ef ea xf xa] := hw
            refine lv_goto (tgt := 156) S.x S.b d_Mpr_withTwo_148 (by decide) ?_
            refine lv_aload_n S.x S.b d_Mpr_withTwo_156 rfl (lv_at hl 2 rfl) ?_
            refine px_get S k_Mpr hT hw 0 0 11 (v := .int (qf 11)) rfl rfl rfl (by decide) m11_2 d_Mpr_withTwo_157 ?_
            refine lv_iconst (v := 4) S.x S.b d_Mpr_withTwo_160 (by decide) ?_
            refine lv_iadd S.x S.b d_Mpr_withTwo_161 ?_
            have lr36 := Int32.le_toInt (qf 11)
            have ur36 := Int32.toInt_lt (qf 11)
            refine lv_topi (fun z37 ez37 => ?_)
            have tz37 : z37.toInt = ((qf 11).toInt + (4 : Int) + 2147483648) % 4294967296 - 2147483648 := by rw [ez37]; exact i_add (qf 11) 4
            have lz37 := Int32.le_toInt z37
            have uz37 := Int32.toInt_lt z37
            try replace tz37 : z37.toInt = (qf 11).toInt + (4 : Int) := by omega
            exact px_iret (v := z37) S hr rfl hlk hAe hw (Nat.le_of_ble_eq_true rfl) (Nat.le_of_ble_eq_true rfl) (⟨qf, qa33, rfl, (show (qf 2).toInt = (qf 2).toInt ∨ (qf 2).toInt = 7 from by first | with_reducible rfl | with_reducible assumption | omega), (show (qf 1).toInt = (qf 1).toInt from rfl), (show (qf 4).toInt = (qf 4).toInt from rfl), (show (qf 5).toInt = (qf 5).toInt from rfl), (show (qf 6).toInt = (qf 6).toInt from rfl), (show (qf 7).toInt = (qf 7).toInt from rfl), (show (qf 10).toInt = (qf 10).toInt from rfl), (show (qf 11).toInt = (qf 11).toInt from rfl), (show (qf 12).toInt = (qf 12).toInt from rfl), (show (qf 13).toInt = (qf 13).toInt from rfl), (show (qf 14).toInt = (qf 14).toInt from rfl), (show (qf 21).toInt = (qf 21).toInt from rfl), (show (qf 23).toInt = (qf 23).toInt from rfl), (show (qf 24).toInt = (qf 24).toInt from rfl)⟩) d_Mpr_withTwo_162
          · have nc29 : p1.toInt = (0 : Int) := (i_eq (x := p1) (y := 0)).mp c29
            refine lv_iload S.x S.b d_Mpr_withTwo_129 (lv_at hl 6 rfl) ?_
            refine lv_iload S.x S.b d_Mpr_withTwo_131 (lv_at hl 7 rfl) ?_
            refine lv_isub S.x S.b d_Mpr_withTwo_133 ?_
            refine lv_topi (fun z38 ez38 => ?_)
            have tz38 : z38.toInt = (p3.toInt - p4.toInt + 2147483648) % 4294967296 - 2147483648 := by rw [ez38]; exact i_sub p3 p4
            have lz38 := Int32.le_toInt z38
            have uz38 := Int32.toInt_lt z38
            try replace tz38 : z38.toInt = p3.toInt - p4.toInt := by omega
            refine lv_goto (tgt := 145) S.x S.b d_Mpr_withTwo_134 (by decide) ?_
            refine px_callv (pr := []) (px_runV (As := [.int p2, .int z38]) (rest := []) S (c_mr_set l D cs (0 : Int) q qr qg qf qa h r g tf ta pf na ma wa cf ca ef ea xf xa p2 z38  (show 0 ≤ p2.toInt from by first | exact g0 | omega) (show p2.toInt < 32 from by first | exact g1 | omega) _) hT (pr := []) (pcs := [wd_Mpr cs q qr (fun k => if k = 0 then (some h) else none) qf qa qg, wdP cs h r g tf ta pf na ma wa cf ca ef ea xf xa]) hw (oX_call (P := (fun A U H => (oP A g U H))) (pr := []) oG_P hw hA hP) (px_recv hT hw 0 0 rfl rfl rfl) m13_216 m13_213 m13_215 ms_15_4 m1_22 q_Mpr_set ⟨Nat.le_of_ble_eq_true rfl, Nat.le_of_ble_eq_true rfl⟩ hl.1 rfl (Nat.le_of_ble_eq_true rfl) d_Mpr_withTwo_145 ⟨Nat.le_of_ble_eq_true rfl, Nat.le_of_ble_eq_true rfl⟩) hw hA (fun p41 H locs hp41 hw => ?_)
            obtain ⟨qa40, rfl⟩ := hp41
            replace hw : pw D A s.heap H locs [wd_Mpr cs q qr (fun k => if k = 0 then (some h) else none) qf qa40 qg, wdP cs h r g tf ta pf na ma wa cf ca ef ea xf xa] := hw
            refine lv_goto (tgt := 156) S.x S.b d_Mpr_withTwo_148 (by decide) ?_
            refine lv_aload_n S.x S.b d_Mpr_withTwo_156 rfl (lv_at hl 2 rfl) ?_
            refine px_get S k_Mpr hT hw 0 0 11 (v := .int (qf 11)) rfl rfl rfl (by decide) m11_2 d_Mpr_withTwo_157 ?_
            refine lv_iconst (v := 4) S.x S.b d_Mpr_withTwo_160 (by decide) ?_
            refine lv_iadd S.x S.b d_Mpr_withTwo_161 ?_
            have lr43 := Int32.le_toInt (qf 11)
            have ur43 := Int32.toInt_lt (qf 11)
            refine lv_topi (fun z44 ez44 => ?_)
            have tz44 : z44.toInt = ((qf 11).toInt + (4 : Int) + 2147483648) % 4294967296 - 2147483648 := by rw [ez44]; exact i_add (qf 11) 4
            have lz44 := Int32.le_toInt z44
            have uz44 := Int32.toInt_lt z44
            try replace tz44 : z44.toInt = (qf 11).toInt + (4 : Int) := by omega
            exact px_iret (v := z44) S hr rfl hlk hAe hw (Nat.le_of_ble_eq_true rfl) (Nat.le_of_ble_eq_true rfl) (⟨qf, qa40, rfl, (show (qf 2).toInt = (qf 2).toInt ∨ (qf 2).toInt = 7 from by first | with_reducible rfl | with_reducible assumption | omega), (show (qf 1).toInt = (qf 1).toInt from rfl), (show (qf 4).toInt = (qf 4).toInt from rfl), (show (qf 5).toInt = (qf 5).toInt from rfl), (show (qf 6).toInt = (qf 6).toInt from rfl), (show (qf 7).toInt = (qf 7).toInt from rfl), (show (qf 10).toInt = (qf 10).toInt from rfl), (show (qf 11).toInt = (qf 11).toInt from rfl), (show (qf 12).toInt = (qf 12).toInt from rfl), (show (qf 13).toInt = (qf 13).toInt from rfl), (show (qf 14).toInt = (qf 14).toInt from rfl), (show (qf 21).toInt = (qf 21).toInt from rfl), (show (qf 23).toInt = (qf 23).toInt from rfl), (show (qf 24).toInt = (qf 24).toInt from rfl)⟩) d_Mpr_withTwo_162
        · have nc28 : ¬ p1.toInt = (0 : Int) := mt (i_eq (x := p1) (y := 0)).mpr c28
          refine lv_iload_n S.x S.b d_Mpr_withTwo_118 rfl (lv_at hl 4 rfl) ?_
          refine lv_iconst (v := 5) S.x S.b d_Mpr_withTwo_119 (by decide) ?_
          refine lv_icmp_ne (tgt := 151) S.x S.b d_Mpr_withTwo_120 (by decide) (fun c45 => ?_) (fun c45 => ?_)
          · have nc45 : ¬ p1.toInt = (5 : Int) := mt (i_eq (x := p1) (y := 5)).mpr c45
            refine lv_aload_n S.x S.b d_Mpr_withTwo_151 rfl (lv_at hl 2 rfl) ?_
            refine px_calli (pr := []) (px_runV (As := []) (rest := []) S (c_mr_bad l D cs (0 : Int) q qr qg qa qf h r g tf ta pf na ma wa cf ca ef ea xf xa    _) hT (pr := []) (pcs := [wd_Mpr cs q qr (fun k => if k = 0 then (some h) else none) qf qa qg, wdP cs h r g tf ta pf na ma wa cf ca ef ea xf xa]) hw (oX_call (P := (fun A U H => (oP A g U H))) (pr := []) oG_P hw hA hP) (px_recv hT hw 0 0 rfl rfl rfl) m13_225 m13_222 m13_224 ms_15_6 m1_22 q_Mpr_bad ⟨Nat.le_of_ble_eq_true rfl, Nat.le_of_ble_eq_true rfl⟩ hl.1 rfl (Nat.le_of_ble_eq_true rfl) d_Mpr_withTwo_152 ⟨Nat.le_of_ble_eq_true rfl, Nat.le_of_ble_eq_true rfl⟩) hw hA (fun v49 p48 H locs hp48 hw => ?_)
            obtain ⟨qf47, rfl, e50, e51, e52, e53, e54, e55, e56, e57, e58, e59, e60, e61, e62, e63⟩ := hp48
            replace e50 : (qf47 2).toInt = 7 := e50
            replace e51 : (qf47 1).toInt = (qf 1).toInt := e51
            replace e52 : (qf47 4).toInt = (qf 4).toInt := e52
            replace e53 : (qf47 5).toInt = (qf 5).toInt := e53
            replace e54 : (qf47 6).toInt = (qf 6).toInt := e54
            replace e55 : (qf47 7).toInt = (qf 7).toInt := e55
            replace e56 : (qf47 10).toInt = (qf 10).toInt := e56
            replace e57 : (qf47 11).toInt = (qf 11).toInt := e57
            replace e58 : (qf47 12).toInt = (qf 12).toInt := e58
            replace e59 : (qf47 13).toInt = (qf 13).toInt := e59
            replace e60 : (qf47 14).toInt = (qf 14).toInt := e60
            replace e61 : (qf47 21).toInt = (qf 21).toInt := e61
            replace e62 : (qf47 23).toInt = (qf 23).toInt := e62
            replace e63 : (qf47 24).toInt = (qf 24).toInt := e63
            replace hw : pw D A s.heap H locs [wd_Mpr cs q qr (fun k => if k = 0 then (some h) else none) qf47 qa qg, wdP cs h r g tf ta pf na ma wa cf ca ef ea xf xa] := hw
            have lv49 := Int32.le_toInt v49
            have uv49 := Int32.toInt_lt v49
            exact px_iret (v := v49) S hr rfl hlk hAe hw (Nat.le_of_ble_eq_true rfl) (Nat.le_of_ble_eq_true rfl) (⟨qf47, qa, rfl, (show (qf47 2).toInt = (qf 2).toInt ∨ (qf47 2).toInt = 7 from by first | with_reducible rfl | with_reducible assumption | omega), (show (qf47 1).toInt = (qf 1).toInt from by first | exact e51 | omega), (show (qf47 4).toInt = (qf 4).toInt from by first | exact e52 | omega), (show (qf47 5).toInt = (qf 5).toInt from by first | exact e53 | omega), (show (qf47 6).toInt = (qf 6).toInt from by first | exact e54 | omega), (show (qf47 7).toInt = (qf 7).toInt from by first | exact e55 | omega), (show (qf47 10).toInt = (qf 10).toInt from by first | exact e56 | omega), (show (qf47 11).toInt = (qf 11).toInt from by first | exact e57 | omega), (show (qf47 12).toInt = (qf 12).toInt from by first | exact e58 | omega), (show (qf47 13).toInt = (qf 13).toInt from by first | exact e59 | omega), (show (qf47 14).toInt = (qf 14).toInt from by first | exact e60 | omega), (show (qf47 21).toInt = (qf 21).toInt from by first | exact e61 | omega), (show (qf47 23).toInt = (qf 23).toInt from by first | exact e62 | omega), (show (qf47 24).toInt = (qf 24).toInt from by first | exact e63 | omega)⟩) d_Mpr_withTwo_155
          · have nc45 : p1.toInt = (5 : Int) := (i_eq (x := p1) (y := 5)).mp c45
            refine lv_aload_n S.x S.b d_Mpr_withTwo_123 rfl (lv_at hl 2 rfl) ?_
            refine lv_iload_n S.x S.b d_Mpr_withTwo_124 rfl (lv_at hl 5 rfl) ?_
            refine lv_iload_n S.x S.b d_Mpr_withTwo_125 rfl (lv_at hl 4 rfl) ?_
            refine lv_if_ne (tgt := 137) S.x S.b d_Mpr_withTwo_126 (by decide) (fun c64 => ?_) (fun c64 => ?_)
            · have nc64 : ¬ p1.toInt = (0 : Int) := mt (i_eq (x := p1) (y := 0)).mpr c64
              refine lv_iload S.x S.b d_Mpr_withTwo_137 (lv_at hl 6 rfl) ?_
              refine lv_iload S.x S.b d_Mpr_withTwo_139 (lv_at hl 0 rfl) ?_
              refine lv_iconst (v := 1) S.x S.b d_Mpr_withTwo_141 (by decide) ?_
              refine px_calli (pr := [wd_Mpr cs q qr (fun k => if k = 0 then (some h) else none) qf qa qg, wdP cs h r g tf ta pf na ma wa cf ca ef ea xf xa]) (px_runS (As := [.int p3, .int v5, .int 1]) (rest := [.int p2, .ref q]) S (c_mr_right l D cs  p3 v5 1   _) hT (pr := [wd_Mpr cs q qr (fun k => if k = 0 then (some h) else none) qf qa qg, wdP cs h r g tf ta pf na ma wa cf ca ef ea xf xa]) (pcs := []) hw px_X.tt m14_16 m14_14 m14_15 m1_22 q_Mpr_right ⟨Nat.le_of_ble_eq_true rfl, Nat.le_of_ble_eq_true rfl⟩ hl.1 rfl (Nat.le_of_ble_eq_true rfl) d_Mpr_withTwo_142 ⟨Nat.le_of_ble_eq_true rfl, Nat.le_of_ble_eq_true rfl⟩) hw hA (fun v66 p65 H locs hp65 hw => ?_)
              subst hp65
              replace hw : pw D A s.heap H locs [wd_Mpr cs q qr (fun k => if k = 0 then (some h) else none) qf qa qg, wdP cs h r g tf ta pf na ma wa cf ca ef ea xf xa] := hw
              have lv66 := Int32.le_toInt v66
              have uv66 := Int32.toInt_lt v66
              refine px_callv (pr := []) (px_runV (As := [.int p2, .int v66]) (rest := []) S (c_mr_set l D cs (0 : Int) q qr qg qf qa h r g tf ta pf na ma wa cf ca ef ea xf xa p2 v66  (show 0 ≤ p2.toInt from by first | exact g0 | omega) (show p2.toInt < 32 from by first | exact g1 | omega) _) hT (pr := []) (pcs := [wd_Mpr cs q qr (fun k => if k = 0 then (some h) else none) qf qa qg, wdP cs h r g tf ta pf na ma wa cf ca ef ea xf xa]) hw (oX_call (P := (fun A U H => (oP A g U H))) (pr := []) oG_P hw hA hP) (px_recv hT hw 0 0 rfl rfl rfl) m13_216 m13_213 m13_215 ms_15_4 m1_22 q_Mpr_set ⟨Nat.le_of_ble_eq_true rfl, Nat.le_of_ble_eq_true rfl⟩ hl.1 rfl (Nat.le_of_ble_eq_true rfl) d_Mpr_withTwo_145 ⟨Nat.le_of_ble_eq_true rfl, Nat.le_of_ble_eq_true rfl⟩) hw hA (fun p69 H locs hp69 hw => ?_)
              obtain ⟨qa68, rfl⟩ := hp69
              replace hw : pw D A s.heap H locs [wd_Mpr cs q qr (fun k => if k = 0 then (some h) else none) qf qa68 qg, wdP cs h r g tf ta pf na ma wa cf ca ef ea xf xa] := hw
              refine lv_goto (tgt := 156) S.x S.b d_Mpr_withTwo_148 (by decide) ?_
              refine lv_aload_n S.x S.b d_Mpr_withTwo_156 rfl (lv_at hl 2 rfl) ?_
              refine px_get S k_Mpr hT hw 0 0 11 (v := .int (qf 11)) rfl rfl rfl (by decide) m11_2 d_Mpr_withTwo_157 ?_
              refine lv_iconst (v := 4) S.x S.b d_Mpr_withTwo_160 (by decide) ?_
              refine lv_iadd S.x S.b d_Mpr_withTwo_161 ?_
              have lr71 := Int32.le_toInt (qf 11)
              have ur71 := Int32.toInt_lt (qf 11)
              refine lv_topi (fun z72 ez72 => ?_)
              have tz72 : z72.toInt = ((qf 11).toInt + (4 : Int) + 2147483648) % 4294967296 - 2147483648 := by rw [ez72]; exact i_add (qf 11) 4
              have lz72 := Int32.le_toInt z72
              have uz72 := Int32.toInt_lt z72
              try replace tz72 : z72.toInt = (qf 11).toInt + (4 : Int) := by omega
              exact px_iret (v := z72) S hr rfl hlk hAe hw (Nat.le_of_ble_eq_true rfl) (Nat.le_of_ble_eq_true rfl) (⟨qf, qa68, rfl, (show (qf 2).toInt = (qf 2).toInt ∨ (qf 2).toInt = 7 from by first | with_reducible rfl | with_reducible assumption | omega), (show (qf 1).toInt = (qf 1).toInt from rfl), (show (qf 4).toInt = (qf 4).toInt from rfl), (show (qf 5).toInt = (qf 5).toInt from rfl), (show (qf 6).toInt = (qf 6).toInt from rfl), (show (qf 7).toInt = (qf 7).toInt from rfl), (show (qf 10).toInt = (qf 10).toInt from rfl), (show (qf 11).toInt = (qf 11).toInt from rfl), (show (qf 12).toInt = (qf 12).toInt from rfl), (show (qf 13).toInt = (qf 13).toInt from rfl), (show (qf 14).toInt = (qf 14).toInt from rfl), (show (qf 21).toInt = (qf 21).toInt from rfl), (show (qf 23).toInt = (qf 23).toInt from rfl), (show (qf 24).toInt = (qf 24).toInt from rfl)⟩) d_Mpr_withTwo_162
            · have nc64 : p1.toInt = (0 : Int) := (i_eq (x := p1) (y := 0)).mp c64
              refine lv_iload S.x S.b d_Mpr_withTwo_129 (lv_at hl 6 rfl) ?_
              refine lv_iload S.x S.b d_Mpr_withTwo_131 (lv_at hl 7 rfl) ?_
              refine lv_isub S.x S.b d_Mpr_withTwo_133 ?_
              refine lv_topi (fun z73 ez73 => ?_)
              have tz73 : z73.toInt = (p3.toInt - p4.toInt + 2147483648) % 4294967296 - 2147483648 := by rw [ez73]; exact i_sub p3 p4
              have lz73 := Int32.le_toInt z73
              have uz73 := Int32.toInt_lt z73
              try replace tz73 : z73.toInt = p3.toInt - p4.toInt := by omega
              refine lv_goto (tgt := 145) S.x S.b d_Mpr_withTwo_134 (by decide) ?_
              refine px_callv (pr := []) (px_runV (As := [.int p2, .int z73]) (rest := []) S (c_mr_set l D cs (0 : Int) q qr qg qf qa h r g tf ta pf na ma wa cf ca ef ea xf xa p2 z73  (show 0 ≤ p2.toInt from by first | exact g0 | omega) (show p2.toInt < 32 from by first | exact g1 | omega) _) hT (pr := []) (pcs := [wd_Mpr cs q qr (fun k => if k = 0 then (some h) else none) qf qa qg, wdP cs h r g tf ta pf na ma wa cf ca ef ea xf xa]) hw (oX_call (P := (fun A U H => (oP A g U H))) (pr := []) oG_P hw hA hP) (px_recv hT hw 0 0 rfl rfl rfl) m13_216 m13_213 m13_215 ms_15_4 m1_22 q_Mpr_set ⟨Nat.le_of_ble_eq_true rfl, Nat.le_of_ble_eq_true rfl⟩ hl.1 rfl (Nat.le_of_ble_eq_true rfl) d_Mpr_withTwo_145 ⟨Nat.le_of_ble_eq_true rfl, Nat.le_of_ble_eq_true rfl⟩) hw hA (fun p76 H locs hp76 hw => ?_)
              obtain ⟨qa75, rfl⟩ := hp76
              replace hw : pw D A s.heap H locs [wd_Mpr cs q qr (fun k => if k = 0 then (some h) else none) qf qa75 qg, wdP cs h r g tf ta pf na ma wa cf ca ef ea xf xa] := hw
              refine lv_goto (tgt := 156) S.x S.b d_Mpr_withTwo_148 (by decide) ?_
              refine lv_aload_n S.x S.b d_Mpr_withTwo_156 rfl (lv_at hl 2 rfl) ?_
              refine px_get S k_Mpr hT hw 0 0 11 (v := .int (qf 11)) rfl rfl rfl (by decide) m11_2 d_Mpr_withTwo_157 ?_
              refine lv_iconst (v := 4) S.x S.b d_Mpr_withTwo_160 (by decide) ?_
              refine lv_iadd S.x S.b d_Mpr_withTwo_161 ?_
              have lr78 := Int32.le_toInt (qf 11)
              have ur78 := Int32.toInt_lt (qf 11)
              refine lv_topi (fun z79 ez79 => ?_)
              have tz79 : z79.toInt = ((qf 11).toInt + (4 : Int) + 2147483648) % 4294967296 - 2147483648 := by rw [ez79]; exact i_add (qf 11) 4
              have lz79 := Int32.le_toInt z79
              have uz79 := Int32.toInt_lt z79
              try replace tz79 : z79.toInt = (qf 11).toInt + (4 : Int) := by omega
              exact px_iret (v := z79) S hr rfl hlk hAe hw (Nat.le_of_ble_eq_true rfl) (Nat.le_of_ble_eq_true rfl) (⟨qf, qa75, rfl, (show (qf 2).toInt = (qf 2).toInt ∨ (qf 2).toInt = 7 from by first | with_reducible rfl | with_reducible assumption | omega), (show (qf 1).toInt = (qf 1).toInt from rfl), (show (qf 4).toInt = (qf 4).toInt from rfl), (show (qf 5).toInt = (qf 5).toInt from rfl), (show (qf 6).toInt = (qf 6).toInt from rfl), (show (qf 7).toInt = (qf 7).toInt from rfl), (show (qf 10).toInt = (qf 10).toInt from rfl), (show (qf 11).toInt = (qf 11).toInt from rfl), (show (qf 12).toInt = (qf 12).toInt from rfl), (show (qf 13).toInt = (qf 13).toInt from rfl), (show (qf 14).toInt = (qf 14).toInt from rfl), (show (qf 21).toInt = (qf 21).toInt from rfl), (show (qf 23).toInt = (qf 23).toInt from rfl), (show (qf 24).toInt = (qf 24).toInt from rfl)⟩) d_Mpr_withTwo_162
    · have nc8 : v2.toInt = (0 : Int) := (i_eq (x := v2) (y := 0)).mp c8
      refine lv_aload_n S.x S.b d_Mpr_withTwo_62 rfl (lv_at hl 2 rfl) ?_
      refine lv_iload_n S.x S.b d_Mpr_withTwo_63 rfl (lv_at hl 5 rfl) ?_
      refine lv_iload_n S.x S.b d_Mpr_withTwo_64 rfl (lv_at hl 4 rfl) ?_
      refine lv_iconst (v := 1) S.x S.b d_Mpr_withTwo_65 (by decide) ?_
      refine lv_icmp_ne (tgt := 77) S.x S.b d_Mpr_withTwo_66 (by decide) (fun c80 => ?_) (fun c80 => ?_)
      · have nc80 : ¬ p1.toInt = (1 : Int) := mt (i_eq (x := p1) (y := 1)).mpr c80
        refine lv_iload_n S.x S.b d_Mpr_withTwo_77 rfl (lv_at hl 4 rfl) ?_
        refine lv_iconst (v := 5) S.x S.b d_Mpr_withTwo_78 (by decide) ?_
        refine lv_icmp_ne (tgt := 93) S.x S.b d_Mpr_withTwo_79 (by decide) (fun c81 => ?_) (fun c81 => ?_)
        · have nc81 : ¬ p1.toInt = (5 : Int) := mt (i_eq (x := p1) (y := 5)).mpr c81
          refine lv_iload_n S.x S.b d_Mpr_withTwo_93 rfl (lv_at hl 4 rfl) ?_
          refine lv_iload S.x S.b d_Mpr_withTwo_94 (lv_at hl 6 rfl) ?_
          refine lv_iload S.x S.b d_Mpr_withTwo_96 (lv_at hl 7 rfl) ?_
          refine px_calli (pr := [wd_Mpr cs q qr (fun k => if k = 0 then (some h) else none) qf qa qg, wdP cs h r g tf ta pf na ma wa cf ca ef ea xf xa]) (px_runS (As := [.int p1, .int p3, .int p4]) (rest := [.int p2, .ref q]) S (c_mr_simple l D cs  p1 p3 p4   _) hT (pr := [wd_Mpr cs q qr (fun k => if k = 0 then (some h) else none) qf qa qg, wdP cs h r g tf ta pf na ma wa cf ca ef ea xf xa]) (pcs := []) hw px_X.tt m14_19 m14_17 m14_18 m1_22 q_Mpr_simple ⟨Nat.le_of_ble_eq_true rfl, Nat.le_of_ble_eq_true rfl⟩ hl.1 rfl (Nat.le_of_ble_eq_true rfl) d_Mpr_withTwo_98 ⟨Nat.le_of_ble_eq_true rfl, Nat.le_of_ble_eq_true rfl⟩) hw hA (fun v83 p82 H locs hp82 hw => ?_)
          subst hp82
          replace hw : pw D A s.heap H locs [wd_Mpr cs q qr (fun k => if k = 0 then (some h) else none) qf qa qg, wdP cs h r g tf ta pf na ma wa cf ca ef ea xf xa] := hw
          have lv83 := Int32.le_toInt v83
          have uv83 := Int32.toInt_lt v83
          refine px_callv (pr := []) (px_runV (As := [.int p2, .int v83]) (rest := []) S (c_mr_set l D cs (0 : Int) q qr qg qf qa h r g tf ta pf na ma wa cf ca ef ea xf xa p2 v83  (show 0 ≤ p2.toInt from by first | exact g0 | omega) (show p2.toInt < 32 from by first | exact g1 | omega) _) hT (pr := []) (pcs := [wd_Mpr cs q qr (fun k => if k = 0 then (some h) else none) qf qa qg, wdP cs h r g tf ta pf na ma wa cf ca ef ea xf xa]) hw (oX_call (P := (fun A U H => (oP A g U H))) (pr := []) oG_P hw hA hP) (px_recv hT hw 0 0 rfl rfl rfl) m13_216 m13_213 m13_215 ms_15_4 m1_22 q_Mpr_set ⟨Nat.le_of_ble_eq_true rfl, Nat.le_of_ble_eq_true rfl⟩ hl.1 rfl (Nat.le_of_ble_eq_true rfl) d_Mpr_withTwo_101 ⟨Nat.le_of_ble_eq_true rfl, Nat.le_of_ble_eq_true rfl⟩) hw hA (fun p86 H locs hp86 hw => ?_)
          obtain ⟨qa85, rfl⟩ := hp86
          replace hw : pw D A s.heap H locs [wd_Mpr cs q qr (fun k => if k = 0 then (some h) else none) qf qa85 qg, wdP cs h r g tf ta pf na ma wa cf ca ef ea xf xa] := hw
          refine lv_goto (tgt := 156) S.x S.b d_Mpr_withTwo_104 (by decide) ?_
          refine lv_aload_n S.x S.b d_Mpr_withTwo_156 rfl (lv_at hl 2 rfl) ?_
          refine px_get S k_Mpr hT hw 0 0 11 (v := .int (qf 11)) rfl rfl rfl (by decide) m11_2 d_Mpr_withTwo_157 ?_
          refine lv_iconst (v := 4) S.x S.b d_Mpr_withTwo_160 (by decide) ?_
          refine lv_iadd S.x S.b d_Mpr_withTwo_161 ?_
          have lr88 := Int32.le_toInt (qf 11)
          have ur88 := Int32.toInt_lt (qf 11)
          refine lv_topi (fun z89 ez89 => ?_)
          have tz89 : z89.toInt = ((qf 11).toInt + (4 : Int) + 2147483648) % 4294967296 - 2147483648 := by rw [ez89]; exact i_add (qf 11) 4
          have lz89 := Int32.le_toInt z89
          have uz89 := Int32.toInt_lt z89
          try replace tz89 : z89.toInt = (qf 11).toInt + (4 : Int) := by omega
          exact px_iret (v := z89) S hr rfl hlk hAe hw (Nat.le_of_ble_eq_true rfl) (Nat.le_of_ble_eq_true rfl) (⟨qf, qa85, rfl, (show (qf 2).toInt = (qf 2).toInt ∨ (qf 2).toInt = 7 from by first | with_reducible rfl | with_reducible assumption | omega), (show (qf 1).toInt = (qf 1).toInt from rfl), (show (qf 4).toInt = (qf 4).toInt from rfl), (show (qf 5).toInt = (qf 5).toInt from rfl), (show (qf 6).toInt = (qf 6).toInt from rfl), (show (qf 7).toInt = (qf 7).toInt from rfl), (show (qf 10).toInt = (qf 10).toInt from rfl), (show (qf 11).toInt = (qf 11).toInt from rfl), (show (qf 12).toInt = (qf 12).toInt from rfl), (show (qf 13).toInt = (qf 13).toInt from rfl), (show (qf 14).toInt = (qf 14).toInt from rfl), (show (qf 21).toInt = (qf 21).toInt from rfl), (show (qf 23).toInt = (qf 23).toInt from rfl), (show (qf 24).toInt = (qf 24).toInt from rfl)⟩) d_Mpr_withTwo_162
        · have nc81 : p1.toInt = (5 : Int) := (i_eq (x := p1) (y := 5)).mp c81
          refine lv_iload S.x S.b d_Mpr_withTwo_82 (lv_at hl 6 rfl) ?_
          refine lv_iload S.x S.b d_Mpr_withTwo_84 (lv_at hl 0 rfl) ?_
          refine lv_iconst (v := 0) S.x S.b d_Mpr_withTwo_86 (by decide) ?_
          refine px_calli (pr := [wd_Mpr cs q qr (fun k => if k = 0 then (some h) else none) qf qa qg, wdP cs h r g tf ta pf na ma wa cf ca ef ea xf xa]) (px_runS (As := [.int p3, .int v5, .int 0]) (rest := [.int p2, .ref q]) S (c_mr_right l D cs  p3 v5 0   _) hT (pr := [wd_Mpr cs q qr (fun k => if k = 0 then (some h) else none) qf qa qg, wdP cs h r g tf ta pf na ma wa cf ca ef ea xf xa]) (pcs := []) hw px_X.tt m14_16 m14_14 m14_15 m1_22 q_Mpr_right ⟨Nat.le_of_ble_eq_true rfl, Nat.le_of_ble_eq_true rfl⟩ hl.1 rfl (Nat.le_of_ble_eq_true rfl) d_Mpr_withTwo_87 ⟨Nat.le_of_ble_eq_true rfl, Nat.le_of_ble_eq_true rfl⟩) hw hA (fun v91 p90 H locs hp90 hw => ?_)
          subst hp90
          replace hw : pw D A s.heap H locs [wd_Mpr cs q qr (fun k => if k = 0 then (some h) else none) qf qa qg, wdP cs h r g tf ta pf na ma wa cf ca ef ea xf xa] := hw
          have lv91 := Int32.le_toInt v91
          have uv91 := Int32.toInt_lt v91
          refine lv_goto (tgt := 101) S.x S.b d_Mpr_withTwo_90 (by decide) ?_
          refine px_callv (pr := []) (px_runV (As := [.int p2, .int v91]) (rest := []) S (c_mr_set l D cs (0 : Int) q qr qg qf qa h r g tf ta pf na ma wa cf ca ef ea xf xa p2 v91  (show 0 ≤ p2.toInt from by first | exact g0 | omega) (show p2.toInt < 32 from by first | exact g1 | omega) _) hT (pr := []) (pcs := [wd_Mpr cs q qr (fun k => if k = 0 then (some h) else none) qf qa qg, wdP cs h r g tf ta pf na ma wa cf ca ef ea xf xa]) hw (oX_call (P := (fun A U H => (oP A g U H))) (pr := []) oG_P hw hA hP) (px_recv hT hw 0 0 rfl rfl rfl) m13_216 m13_213 m13_215 ms_15_4 m1_22 q_Mpr_set ⟨Nat.le_of_ble_eq_true rfl, Nat.le_of_ble_eq_true rfl⟩ hl.1 rfl (Nat.le_of_ble_eq_true rfl) d_Mpr_withTwo_101 ⟨Nat.le_of_ble_eq_true rfl, Nat.le_of_ble_eq_true rfl⟩) hw hA (fun p94 H locs hp94 hw => ?_)
          obtain ⟨qa93, rfl⟩ := hp94
          replace hw : pw D A s.heap H locs [wd_Mpr cs q qr (fun k => if k = 0 then (some h) else none) qf qa93 qg, wdP cs h r g tf ta pf na ma wa cf ca ef ea xf xa] := hw
          refine lv_goto (tgt := 156) S.x S.b d_Mpr_withTwo_104 (by decide) ?_
          refine lv_aload_n S.x S.b d_Mpr_withTwo_156 rfl (lv_at hl 2 rfl) ?_
          refine px_get S k_Mpr hT hw 0 0 11 (v := .int (qf 11)) rfl rfl rfl (by decide) m11_2 d_Mpr_withTwo_157 ?_
          refine lv_iconst (v := 4) S.x S.b d_Mpr_withTwo_160 (by decide) ?_
          refine lv_iadd S.x S.b d_Mpr_withTwo_161 ?_
          have lr96 := Int32.le_toInt (qf 11)
          have ur96 := Int32.toInt_lt (qf 11)
          refine lv_topi (fun z97 ez97 => ?_)
          have tz97 : z97.toInt = ((qf 11).toInt + (4 : Int) + 2147483648) % 4294967296 - 2147483648 := by rw [ez97]; exact i_add (qf 11) 4
          have lz97 := Int32.le_toInt z97
          have uz97 := Int32.toInt_lt z97
          try replace tz97 : z97.toInt = (qf 11).toInt + (4 : Int) := by omega
          exact px_iret (v := z97) S hr rfl hlk hAe hw (Nat.le_of_ble_eq_true rfl) (Nat.le_of_ble_eq_true rfl) (⟨qf, qa93, rfl, (show (qf 2).toInt = (qf 2).toInt ∨ (qf 2).toInt = 7 from by first | with_reducible rfl | with_reducible assumption | omega), (show (qf 1).toInt = (qf 1).toInt from rfl), (show (qf 4).toInt = (qf 4).toInt from rfl), (show (qf 5).toInt = (qf 5).toInt from rfl), (show (qf 6).toInt = (qf 6).toInt from rfl), (show (qf 7).toInt = (qf 7).toInt from rfl), (show (qf 10).toInt = (qf 10).toInt from rfl), (show (qf 11).toInt = (qf 11).toInt from rfl), (show (qf 12).toInt = (qf 12).toInt from rfl), (show (qf 13).toInt = (qf 13).toInt from rfl), (show (qf 14).toInt = (qf 14).toInt from rfl), (show (qf 21).toInt = (qf 21).toInt from rfl), (show (qf 23).toInt = (qf 23).toInt from rfl), (show (qf 24).toInt = (qf 24).toInt from rfl)⟩) d_Mpr_withTwo_162
      · have nc80 : p1.toInt = (1 : Int) := (i_eq (x := p1) (y := 1)).mp c80
        refine lv_iload S.x S.b d_Mpr_withTwo_69 (lv_at hl 6 rfl) ?_
        refine lv_iload S.x S.b d_Mpr_withTwo_71 (lv_at hl 0 rfl) ?_
        refine lv_ishl S.x S.b d_Mpr_withTwo_73 ?_
        refine lv_topi (fun z98 ez98 => ?_)
        have lz98 := Int32.le_toInt z98
        have uz98 := Int32.toInt_lt z98
        refine lv_goto (tgt := 101) S.x S.b d_Mpr_withTwo_74 (by decide) ?_
        refine px_callv (pr := []) (px_runV (As := [.int p2, .int z98]) (rest := []) S (c_mr_set l D cs (0 : Int) q qr qg qf qa h r g tf ta pf na ma wa cf ca ef ea xf xa p2 z98  (show 0 ≤ p2.toInt from by first | exact g0 | omega) (show p2.toInt < 32 from by first | exact g1 | omega) _) hT (pr := []) (pcs := [wd_Mpr cs q qr (fun k => if k = 0 then (some h) else none) qf qa qg, wdP cs h r g tf ta pf na ma wa cf ca ef ea xf xa]) hw (oX_call (P := (fun A U H => (oP A g U H))) (pr := []) oG_P hw hA hP) (px_recv hT hw 0 0 rfl rfl rfl) m13_216 m13_213 m13_215 ms_15_4 m1_22 q_Mpr_set ⟨Nat.le_of_ble_eq_true rfl, Nat.le_of_ble_eq_true rfl⟩ hl.1 rfl (Nat.le_of_ble_eq_true rfl) d_Mpr_withTwo_101 ⟨Nat.le_of_ble_eq_true rfl, Nat.le_of_ble_eq_true rfl⟩) hw hA (fun p101 H locs hp101 hw => ?_)
        obtain ⟨qa100, rfl⟩ := hp101
        replace hw : pw D A s.heap H locs [wd_Mpr cs q qr (fun k => if k = 0 then (some h) else none) qf qa100 qg, wdP cs h r g tf ta pf na ma wa cf ca ef ea xf xa] := hw
        refine lv_goto (tgt := 156) S.x S.b d_Mpr_withTwo_104 (by decide) ?_
        refine lv_aload_n S.x S.b d_Mpr_withTwo_156 rfl (lv_at hl 2 rfl) ?_
        refine px_get S k_Mpr hT hw 0 0 11 (v := .int (qf 11)) rfl rfl rfl (by decide) m11_2 d_Mpr_withTwo_157 ?_
        refine lv_iconst (v := 4) S.x S.b d_Mpr_withTwo_160 (by decide) ?_
        refine lv_iadd S.x S.b d_Mpr_withTwo_161 ?_
        have lr103 := Int32.le_toInt (qf 11)
        have ur103 := Int32.toInt_lt (qf 11)
        refine lv_topi (fun z104 ez104 => ?_)
        have tz104 : z104.toInt = ((qf 11).toInt + (4 : Int) + 2147483648) % 4294967296 - 2147483648 := by rw [ez104]; exact i_add (qf 11) 4
        have lz104 := Int32.le_toInt z104
        have uz104 := Int32.toInt_lt z104
        try replace tz104 : z104.toInt = (qf 11).toInt + (4 : Int) := by omega
        exact px_iret (v := z104) S hr rfl hlk hAe hw (Nat.le_of_ble_eq_true rfl) (Nat.le_of_ble_eq_true rfl) (⟨qf, qa100, rfl, (show (qf 2).toInt = (qf 2).toInt ∨ (qf 2).toInt = 7 from by first | with_reducible rfl | with_reducible assumption | omega), (show (qf 1).toInt = (qf 1).toInt from rfl), (show (qf 4).toInt = (qf 4).toInt from rfl), (show (qf 5).toInt = (qf 5).toInt from rfl), (show (qf 6).toInt = (qf 6).toInt from rfl), (show (qf 7).toInt = (qf 7).toInt from rfl), (show (qf 10).toInt = (qf 10).toInt from rfl), (show (qf 11).toInt = (qf 11).toInt from rfl), (show (qf 12).toInt = (qf 12).toInt from rfl), (show (qf 13).toInt = (qf 13).toInt from rfl), (show (qf 14).toInt = (qf 14).toInt from rfl), (show (qf 21).toInt = (qf 21).toInt from rfl), (show (qf 23).toInt = (qf 23).toInt from rfl), (show (qf 24).toInt = (qf 24).toInt from rfl)⟩) d_Mpr_withTwo_162
  · have nc7 : v2.toInt = (1 : Int) := (i_eq (x := v2) (y := 1)).mp c7
    refine lv_aload_n S.x S.b d_Mpr_withTwo_25 rfl (lv_at hl 2 rfl) ?_
    refine lv_iload_n S.x S.b d_Mpr_withTwo_26 rfl (lv_at hl 5 rfl) ?_
    refine lv_iload_n S.x S.b d_Mpr_withTwo_27 rfl (lv_at hl 4 rfl) ?_
    refine lv_iconst (v := 4) S.x S.b d_Mpr_withTwo_28 (by decide) ?_
    refine lv_icmp_ge (tgt := 43) S.x S.b d_Mpr_withTwo_29 (by decide) (fun c105 => ?_) (fun c105 => ?_)
    · have nc105 : (4 : Int) ≤ p1.toInt := (i_le (x := 4) (y := p1)).mp c105
      refine lv_iload_n S.x S.b d_Mpr_withTwo_43 rfl (lv_at hl 4 rfl) ?_
      refine lv_iload S.x S.b d_Mpr_withTwo_44 (lv_at hl 6 rfl) ?_
      refine lv_iload S.x S.b d_Mpr_withTwo_46 (lv_at hl 7 rfl) ?_
      refine px_calli (pr := [wd_Mpr cs q qr (fun k => if k = 0 then (some h) else none) qf qa qg, wdP cs h r g tf ta pf na ma wa cf ca ef ea xf xa]) (px_runS (As := [.int p1, .int p3, .int p4]) (rest := [.int p2, .ref q]) S (c_mr_quotient l D cs  p1 p3 p4   _) hT (pr := [wd_Mpr cs q qr (fun k => if k = 0 then (some h) else none) qf qa qg, wdP cs h r g tf ta pf na ma wa cf ca ef ea xf xa]) (pcs := []) hw px_X.tt m14_30 m14_28 m14_29 m1_22 q_Mpr_quotient ⟨Nat.le_of_ble_eq_true rfl, Nat.le_of_ble_eq_true rfl⟩ hl.1 rfl (Nat.le_of_ble_eq_true rfl) d_Mpr_withTwo_48 ⟨Nat.le_of_ble_eq_true rfl, Nat.le_of_ble_eq_true rfl⟩) hw hA (fun v107 p106 H locs hp106 hw => ?_)
      subst hp106
      replace hw : pw D A s.heap H locs [wd_Mpr cs q qr (fun k => if k = 0 then (some h) else none) qf qa qg, wdP cs h r g tf ta pf na ma wa cf ca ef ea xf xa] := hw
      have lv107 := Int32.le_toInt v107
      have uv107 := Int32.toInt_lt v107
      refine px_callv (pr := []) (px_runV (As := [.int p2, .int v107]) (rest := []) S (c_mr_set l D cs (0 : Int) q qr qg qf qa h r g tf ta pf na ma wa cf ca ef ea xf xa p2 v107  (show 0 ≤ p2.toInt from by first | exact g0 | omega) (show p2.toInt < 32 from by first | exact g1 | omega) _) hT (pr := []) (pcs := [wd_Mpr cs q qr (fun k => if k = 0 then (some h) else none) qf qa qg, wdP cs h r g tf ta pf na ma wa cf ca ef ea xf xa]) hw (oX_call (P := (fun A U H => (oP A g U H))) (pr := []) oG_P hw hA hP) (px_recv hT hw 0 0 rfl rfl rfl) m13_216 m13_213 m13_215 ms_15_4 m1_22 q_Mpr_set ⟨Nat.le_of_ble_eq_true rfl, Nat.le_of_ble_eq_true rfl⟩ hl.1 rfl (Nat.le_of_ble_eq_true rfl) d_Mpr_withTwo_51 ⟨Nat.le_of_ble_eq_true rfl, Nat.le_of_ble_eq_true rfl⟩) hw hA (fun p110 H locs hp110 hw => ?_)
      obtain ⟨qa109, rfl⟩ := hp110
      replace hw : pw D A s.heap H locs [wd_Mpr cs q qr (fun k => if k = 0 then (some h) else none) qf qa109 qg, wdP cs h r g tf ta pf na ma wa cf ca ef ea xf xa] := hw
      refine lv_goto (tgt := 156) S.x S.b d_Mpr_withTwo_54 (by decide) ?_
      refine lv_aload_n S.x S.b d_Mpr_withTwo_156 rfl (lv_at hl 2 rfl) ?_
      refine px_get S k_Mpr hT hw 0 0 11 (v := .int (qf 11)) rfl rfl rfl (by decide) m11_2 d_Mpr_withTwo_157 ?_
      refine lv_iconst (v := 4) S.x S.b d_Mpr_withTwo_160 (by decide) ?_
      refine lv_iadd S.x S.b d_Mpr_withTwo_161 ?_
      have lr112 := Int32.le_toInt (qf 11)
      have ur112 := Int32.toInt_lt (qf 11)
      refine lv_topi (fun z113 ez113 => ?_)
      have tz113 : z113.toInt = ((qf 11).toInt + (4 : Int) + 2147483648) % 4294967296 - 2147483648 := by rw [ez113]; exact i_add (qf 11) 4
      have lz113 := Int32.le_toInt z113
      have uz113 := Int32.toInt_lt z113
      try replace tz113 : z113.toInt = (qf 11).toInt + (4 : Int) := by omega
      exact px_iret (v := z113) S hr rfl hlk hAe hw (Nat.le_of_ble_eq_true rfl) (Nat.le_of_ble_eq_true rfl) (⟨qf, qa109, rfl, (show (qf 2).toInt = (qf 2).toInt ∨ (qf 2).toInt = 7 from by first | with_reducible rfl | with_reducible assumption | omega), (show (qf 1).toInt = (qf 1).toInt from rfl), (show (qf 4).toInt = (qf 4).toInt from rfl), (show (qf 5).toInt = (qf 5).toInt from rfl), (show (qf 6).toInt = (qf 6).toInt from rfl), (show (qf 7).toInt = (qf 7).toInt from rfl), (show (qf 10).toInt = (qf 10).toInt from rfl), (show (qf 11).toInt = (qf 11).toInt from rfl), (show (qf 12).toInt = (qf 12).toInt from rfl), (show (qf 13).toInt = (qf 13).toInt from rfl), (show (qf 14).toInt = (qf 14).toInt from rfl), (show (qf 21).toInt = (qf 21).toInt from rfl), (show (qf 23).toInt = (qf 23).toInt from rfl), (show (qf 24).toInt = (qf 24).toInt from rfl)⟩) d_Mpr_withTwo_162
    · have nc105 : ¬ (4 : Int) ≤ p1.toInt := mt (i_le (x := 4) (y := p1)).mpr c105
      refine lv_iload_n S.x S.b d_Mpr_withTwo_32 rfl (lv_at hl 4 rfl) ?_
      refine lv_iload S.x S.b d_Mpr_withTwo_33 (lv_at hl 6 rfl) ?_
      refine lv_iload S.x S.b d_Mpr_withTwo_35 (lv_at hl 7 rfl) ?_
      refine px_calli (pr := [wd_Mpr cs q qr (fun k => if k = 0 then (some h) else none) qf qa qg, wdP cs h r g tf ta pf na ma wa cf ca ef ea xf xa]) (px_runS (As := [.int p1, .int p3, .int p4]) (rest := [.int p2, .ref q]) S (c_mr_product l D cs  p1 p3 p4   _) hT (pr := [wd_Mpr cs q qr (fun k => if k = 0 then (some h) else none) qf qa qg, wdP cs h r g tf ta pf na ma wa cf ca ef ea xf xa]) (pcs := []) hw px_X.tt m14_26 m14_24 m14_25 m1_22 q_Mpr_product ⟨Nat.le_of_ble_eq_true rfl, Nat.le_of_ble_eq_true rfl⟩ hl.1 rfl (Nat.le_of_ble_eq_true rfl) d_Mpr_withTwo_37 ⟨Nat.le_of_ble_eq_true rfl, Nat.le_of_ble_eq_true rfl⟩) hw hA (fun v115 p114 H locs hp114 hw => ?_)
      subst hp114
      replace hw : pw D A s.heap H locs [wd_Mpr cs q qr (fun k => if k = 0 then (some h) else none) qf qa qg, wdP cs h r g tf ta pf na ma wa cf ca ef ea xf xa] := hw
      have lv115 := Int32.le_toInt v115
      have uv115 := Int32.toInt_lt v115
      refine lv_goto (tgt := 51) S.x S.b d_Mpr_withTwo_40 (by decide) ?_
      refine px_callv (pr := []) (px_runV (As := [.int p2, .int v115]) (rest := []) S (c_mr_set l D cs (0 : Int) q qr qg qf qa h r g tf ta pf na ma wa cf ca ef ea xf xa p2 v115  (show 0 ≤ p2.toInt from by first | exact g0 | omega) (show p2.toInt < 32 from by first | exact g1 | omega) _) hT (pr := []) (pcs := [wd_Mpr cs q qr (fun k => if k = 0 then (some h) else none) qf qa qg, wdP cs h r g tf ta pf na ma wa cf ca ef ea xf xa]) hw (oX_call (P := (fun A U H => (oP A g U H))) (pr := []) oG_P hw hA hP) (px_recv hT hw 0 0 rfl rfl rfl) m13_216 m13_213 m13_215 ms_15_4 m1_22 q_Mpr_set ⟨Nat.le_of_ble_eq_true rfl, Nat.le_of_ble_eq_true rfl⟩ hl.1 rfl (Nat.le_of_ble_eq_true rfl) d_Mpr_withTwo_51 ⟨Nat.le_of_ble_eq_true rfl, Nat.le_of_ble_eq_true rfl⟩) hw hA (fun p118 H locs hp118 hw => ?_)
      obtain ⟨qa117, rfl⟩ := hp118
      replace hw : pw D A s.heap H locs [wd_Mpr cs q qr (fun k => if k = 0 then (some h) else none) qf qa117 qg, wdP cs h r g tf ta pf na ma wa cf ca ef ea xf xa] := hw
      refine lv_goto (tgt := 156) S.x S.b d_Mpr_withTwo_54 (by decide) ?_
      refine lv_aload_n S.x S.b d_Mpr_withTwo_156 rfl (lv_at hl 2 rfl) ?_
      refine px_get S k_Mpr hT hw 0 0 11 (v := .int (qf 11)) rfl rfl rfl (by decide) m11_2 d_Mpr_withTwo_157 ?_
      refine lv_iconst (v := 4) S.x S.b d_Mpr_withTwo_160 (by decide) ?_
      refine lv_iadd S.x S.b d_Mpr_withTwo_161 ?_
      have lr120 := Int32.le_toInt (qf 11)
      have ur120 := Int32.toInt_lt (qf 11)
      refine lv_topi (fun z121 ez121 => ?_)
      have tz121 : z121.toInt = ((qf 11).toInt + (4 : Int) + 2147483648) % 4294967296 - 2147483648 := by rw [ez121]; exact i_add (qf 11) 4
      have lz121 := Int32.le_toInt z121
      have uz121 := Int32.toInt_lt z121
      try replace tz121 : z121.toInt = (qf 11).toInt + (4 : Int) := by omega
      exact px_iret (v := z121) S hr rfl hlk hAe hw (Nat.le_of_ble_eq_true rfl) (Nat.le_of_ble_eq_true rfl) (⟨qf, qa117, rfl, (show (qf 2).toInt = (qf 2).toInt ∨ (qf 2).toInt = 7 from by first | with_reducible rfl | with_reducible assumption | omega), (show (qf 1).toInt = (qf 1).toInt from rfl), (show (qf 4).toInt = (qf 4).toInt from rfl), (show (qf 5).toInt = (qf 5).toInt from rfl), (show (qf 6).toInt = (qf 6).toInt from rfl), (show (qf 7).toInt = (qf 7).toInt from rfl), (show (qf 10).toInt = (qf 10).toInt from rfl), (show (qf 11).toInt = (qf 11).toInt from rfl), (show (qf 12).toInt = (qf 12).toInt from rfl), (show (qf 13).toInt = (qf 13).toInt from rfl), (show (qf 14).toInt = (qf 14).toInt from rfl), (show (qf 21).toInt = (qf 21).toInt from rfl), (show (qf 23).toInt = (qf 23).toInt from rfl), (show (qf 24).toInt = (qf 24).toInt from rfl)⟩) d_Mpr_withTwo_162
abbrev b_Mpr_perform : ByteArray := prog_15_method_33_code
def y_Mpr_perform : MethodName := ⟨"HomeSystemModel$Process", "perform", "(I)I"⟩
theorem d_Mpr_perform_0 : decode b_Mpr_perform 0 = .ok (.iload_n 1, 1) := by decide +kernel
theorem d_Mpr_perform_1 : decode b_Mpr_perform 1 = .ok (.bipush 7, 2) := by decide +kernel
theorem d_Mpr_perform_3 : decode b_Mpr_perform 3 = .ok (.bipush 11, 2) := by decide +kernel
theorem d_Mpr_perform_5 : decode b_Mpr_perform 5 = .ok (.invokestatic 264, 3) := by decide +kernel
theorem d_Mpr_perform_8 : decode b_Mpr_perform 8 = .ok (.istore_n 2, 1) := by decide +kernel
theorem d_Mpr_perform_9 : decode b_Mpr_perform 9 = .ok (.iload_n 1, 1) := by decide +kernel
theorem d_Mpr_perform_10 : decode b_Mpr_perform 10 = .ok (.bipush 12, 2) := by decide +kernel
theorem d_Mpr_perform_12 : decode b_Mpr_perform 12 = .ok (.bipush 14, 2) := by decide +kernel
theorem d_Mpr_perform_14 : decode b_Mpr_perform 14 = .ok (.invokestatic 264, 3) := by decide +kernel
theorem d_Mpr_perform_17 : decode b_Mpr_perform 17 = .ok (.istore_n 3, 1) := by decide +kernel
theorem d_Mpr_perform_18 : decode b_Mpr_perform 18 = .ok (.aload_n 0, 1) := by decide +kernel
theorem d_Mpr_perform_19 : decode b_Mpr_perform 19 = .ok (.getfield 32, 3) := by decide +kernel
theorem d_Mpr_perform_22 : decode b_Mpr_perform 22 = .ok (.iload_n 1, 1) := by decide +kernel
theorem d_Mpr_perform_23 : decode b_Mpr_perform 23 = .ok (.bipush 15, 2) := by decide +kernel
theorem d_Mpr_perform_25 : decode b_Mpr_perform 25 = .ok (.bipush 19, 2) := by decide +kernel
theorem d_Mpr_perform_27 : decode b_Mpr_perform 27 = .ok (.invokestatic 264, 3) := by decide +kernel
theorem d_Mpr_perform_30 : decode b_Mpr_perform 30 = .ok (.iaload, 1) := by decide +kernel
theorem d_Mpr_perform_31 : decode b_Mpr_perform 31 = .ok (.istore 4, 2) := by decide +kernel
theorem d_Mpr_perform_33 : decode b_Mpr_perform 33 = .ok (.aload_n 0, 1) := by decide +kernel
theorem d_Mpr_perform_34 : decode b_Mpr_perform 34 = .ok (.getfield 32, 3) := by decide +kernel
theorem d_Mpr_perform_37 : decode b_Mpr_perform 37 = .ok (.iload_n 1, 1) := by decide +kernel
theorem d_Mpr_perform_38 : decode b_Mpr_perform 38 = .ok (.bipush 20, 2) := by decide +kernel
theorem d_Mpr_perform_40 : decode b_Mpr_perform 40 = .ok (.bipush 24, 2) := by decide +kernel
theorem d_Mpr_perform_42 : decode b_Mpr_perform 42 = .ok (.invokestatic 264, 3) := by decide +kernel
theorem d_Mpr_perform_45 : decode b_Mpr_perform 45 = .ok (.iaload, 1) := by decide +kernel
theorem d_Mpr_perform_46 : decode b_Mpr_perform 46 = .ok (.istore 5, 2) := by decide +kernel
theorem d_Mpr_perform_48 : decode b_Mpr_perform 48 = .ok (.iload_n 1, 1) := by decide +kernel
theorem d_Mpr_perform_49 : decode b_Mpr_perform 49 = .ok (.bipush 20, 2) := by decide +kernel
theorem d_Mpr_perform_51 : decode b_Mpr_perform 51 = .ok (.ishr, 1) := by decide +kernel
theorem d_Mpr_perform_52 : decode b_Mpr_perform 52 = .ok (.istore 6, 2) := by decide +kernel
theorem d_Mpr_perform_54 : decode b_Mpr_perform 54 = .ok (.iload_n 1, 1) := by decide +kernel
theorem d_Mpr_perform_55 : decode b_Mpr_perform 55 = .ok (.iconst 0, 1) := by decide +kernel
theorem d_Mpr_perform_56 : decode b_Mpr_perform 56 = .ok (.bipush 6, 2) := by decide +kernel
theorem d_Mpr_perform_58 : decode b_Mpr_perform 58 = .ok (.invokestatic 264, 3) := by decide +kernel
theorem d_Mpr_perform_61 : decode b_Mpr_perform 61 = .ok (.lookupswitch 313 #[(3, 239), (15, 295), (19, 271), (23, 112), (35, 251), (51, 283), (55, 91), (99, 228), (103, 194), (111, 138)], 91) := by decide +kernel
theorem d_Mpr_perform_152 : decode b_Mpr_perform 152 = .ok (.aload_n 0, 1) := by decide +kernel
theorem d_Mpr_perform_153 : decode b_Mpr_perform 153 = .ok (.iload_n 2, 1) := by decide +kernel
theorem d_Mpr_perform_154 : decode b_Mpr_perform 154 = .ok (.iload_n 1, 1) := by decide +kernel
theorem d_Mpr_perform_155 : decode b_Mpr_perform 155 = .ok (.iload_n 1, 1) := by decide +kernel
theorem d_Mpr_perform_156 : decode b_Mpr_perform 156 = .ok (.iconst 0, 1) := by decide +kernel
theorem d_Mpr_perform_157 : decode b_Mpr_perform 157 = .ok (.bipush 11, 2) := by decide +kernel
theorem d_Mpr_perform_159 : decode b_Mpr_perform 159 = .ok (.invokestatic 264, 3) := by decide +kernel
theorem d_Mpr_perform_162 : decode b_Mpr_perform 162 = .ok (.isub, 1) := by decide +kernel
theorem d_Mpr_perform_163 : decode b_Mpr_perform 163 = .ok (.invokevirtual 268, 3) := by decide +kernel
theorem d_Mpr_perform_166 : decode b_Mpr_perform 166 = .ok (.aload_n 0, 1) := by decide +kernel
theorem d_Mpr_perform_167 : decode b_Mpr_perform 167 = .ok (.getfield 95, 3) := by decide +kernel
theorem d_Mpr_perform_170 : decode b_Mpr_perform 170 = .ok (.iconst 4, 1) := by decide +kernel
theorem d_Mpr_perform_171 : decode b_Mpr_perform 171 = .ok (.iadd, 1) := by decide +kernel
theorem d_Mpr_perform_172 : decode b_Mpr_perform 172 = .ok (.ireturn, 1) := by decide +kernel
theorem d_Mpr_perform_173 : decode b_Mpr_perform 173 = .ok (.aload_n 0, 1) := by decide +kernel
theorem d_Mpr_perform_174 : decode b_Mpr_perform 174 = .ok (.iload_n 2, 1) := by decide +kernel
theorem d_Mpr_perform_175 : decode b_Mpr_perform 175 = .ok (.aload_n 0, 1) := by decide +kernel
theorem d_Mpr_perform_176 : decode b_Mpr_perform 176 = .ok (.getfield 95, 3) := by decide +kernel
theorem d_Mpr_perform_179 : decode b_Mpr_perform 179 = .ok (.iload_n 1, 1) := by decide +kernel
theorem d_Mpr_perform_180 : decode b_Mpr_perform 180 = .ok (.iadd, 1) := by decide +kernel
theorem d_Mpr_perform_181 : decode b_Mpr_perform 181 = .ok (.iload_n 1, 1) := by decide +kernel
theorem d_Mpr_perform_182 : decode b_Mpr_perform 182 = .ok (.iconst 0, 1) := by decide +kernel
theorem d_Mpr_perform_183 : decode b_Mpr_perform 183 = .ok (.bipush 11, 2) := by decide +kernel
theorem d_Mpr_perform_185 : decode b_Mpr_perform 185 = .ok (.invokestatic 264, 3) := by decide +kernel
theorem d_Mpr_perform_188 : decode b_Mpr_perform 188 = .ok (.isub, 1) := by decide +kernel
theorem d_Mpr_perform_189 : decode b_Mpr_perform 189 = .ok (.invokevirtual 268, 3) := by decide +kernel
theorem d_Mpr_perform_192 : decode b_Mpr_perform 192 = .ok (.aload_n 0, 1) := by decide +kernel
theorem d_Mpr_perform_193 : decode b_Mpr_perform 193 = .ok (.getfield 95, 3) := by decide +kernel
theorem d_Mpr_perform_196 : decode b_Mpr_perform 196 = .ok (.iconst 4, 1) := by decide +kernel
theorem d_Mpr_perform_197 : decode b_Mpr_perform 197 = .ok (.iadd, 1) := by decide +kernel
theorem d_Mpr_perform_198 : decode b_Mpr_perform 198 = .ok (.ireturn, 1) := by decide +kernel
theorem d_Mpr_perform_199 : decode b_Mpr_perform 199 = .ok (.aload_n 0, 1) := by decide +kernel
theorem d_Mpr_perform_200 : decode b_Mpr_perform 200 = .ok (.aload_n 0, 1) := by decide +kernel
theorem d_Mpr_perform_201 : decode b_Mpr_perform 201 = .ok (.getfield 95, 3) := by decide +kernel
theorem d_Mpr_perform_204 : decode b_Mpr_perform 204 = .ok (.iload_n 1, 1) := by decide +kernel
theorem d_Mpr_perform_205 : decode b_Mpr_perform 205 = .ok (.bipush 31, 2) := by decide +kernel
theorem d_Mpr_perform_207 : decode b_Mpr_perform 207 = .ok (.ishr, 1) := by decide +kernel
theorem d_Mpr_perform_208 : decode b_Mpr_perform 208 = .ok (.ldc_w 271, 3) := by decide +kernel
theorem d_Mpr_perform_211 : decode b_Mpr_perform 211 = .ok (.imul, 1) := by decide +kernel
theorem d_Mpr_perform_212 : decode b_Mpr_perform 212 = .ok (.iadd, 1) := by decide +kernel
theorem d_Mpr_perform_213 : decode b_Mpr_perform 213 = .ok (.iload_n 1, 1) := by decide +kernel
theorem d_Mpr_perform_214 : decode b_Mpr_perform 214 = .ok (.bipush 12, 2) := by decide +kernel
theorem d_Mpr_perform_216 : decode b_Mpr_perform 216 = .ok (.bipush 19, 2) := by decide +kernel
theorem d_Mpr_perform_218 : decode b_Mpr_perform 218 = .ok (.invokestatic 264, 3) := by decide +kernel
theorem d_Mpr_perform_221 : decode b_Mpr_perform 221 = .ok (.sipush 4096, 3) := by decide +kernel
theorem d_Mpr_perform_224 : decode b_Mpr_perform 224 = .ok (.imul, 1) := by decide +kernel
theorem d_Mpr_perform_225 : decode b_Mpr_perform 225 = .ok (.iadd, 1) := by decide +kernel
theorem d_Mpr_perform_226 : decode b_Mpr_perform 226 = .ok (.iload_n 1, 1) := by decide +kernel
theorem d_Mpr_perform_227 : decode b_Mpr_perform 227 = .ok (.bipush 20, 2) := by decide +kernel
theorem d_Mpr_perform_229 : decode b_Mpr_perform 229 = .ok (.bipush 20, 2) := by decide +kernel
theorem d_Mpr_perform_231 : decode b_Mpr_perform 231 = .ok (.invokestatic 264, 3) := by decide +kernel
theorem d_Mpr_perform_234 : decode b_Mpr_perform 234 = .ok (.sipush 2048, 3) := by decide +kernel
theorem d_Mpr_perform_237 : decode b_Mpr_perform 237 = .ok (.imul, 1) := by decide +kernel
theorem d_Mpr_perform_238 : decode b_Mpr_perform 238 = .ok (.iadd, 1) := by decide +kernel
theorem d_Mpr_perform_239 : decode b_Mpr_perform 239 = .ok (.iload_n 1, 1) := by decide +kernel
theorem d_Mpr_perform_240 : decode b_Mpr_perform 240 = .ok (.bipush 21, 2) := by decide +kernel
theorem d_Mpr_perform_242 : decode b_Mpr_perform 242 = .ok (.bipush 30, 2) := by decide +kernel
theorem d_Mpr_perform_244 : decode b_Mpr_perform 244 = .ok (.invokestatic 264, 3) := by decide +kernel
theorem d_Mpr_perform_247 : decode b_Mpr_perform 247 = .ok (.iconst 2, 1) := by decide +kernel
theorem d_Mpr_perform_248 : decode b_Mpr_perform 248 = .ok (.imul, 1) := by decide +kernel
theorem d_Mpr_perform_249 : decode b_Mpr_perform 249 = .ok (.iadd, 1) := by decide +kernel
theorem d_Mpr_perform_250 : decode b_Mpr_perform 250 = .ok (.iload_n 2, 1) := by decide +kernel
theorem d_Mpr_perform_251 : decode b_Mpr_perform 251 = .ok (.invokevirtual 272, 3) := by decide +kernel
theorem d_Mpr_perform_254 : decode b_Mpr_perform 254 = .ok (.ireturn, 1) := by decide +kernel
theorem d_Mpr_perform_255 : decode b_Mpr_perform 255 = .ok (.iload 4, 2) := by decide +kernel
theorem d_Mpr_perform_257 : decode b_Mpr_perform 257 = .ok (.iload 6, 2) := by decide +kernel
theorem d_Mpr_perform_259 : decode b_Mpr_perform 259 = .ok (.iadd, 1) := by decide +kernel
theorem d_Mpr_perform_260 : decode b_Mpr_perform 260 = .ok (.istore 7, 2) := by decide +kernel
theorem d_Mpr_perform_262 : decode b_Mpr_perform 262 = .ok (.iload_n 3, 1) := by decide +kernel
theorem d_Mpr_perform_263 : decode b_Mpr_perform 263 = .ok (.ifCond .ne 21, 3) := by decide +kernel
theorem d_Mpr_perform_266 : decode b_Mpr_perform 266 = .ok (.aload_n 0, 1) := by decide +kernel
theorem d_Mpr_perform_267 : decode b_Mpr_perform 267 = .ok (.iload 7, 2) := by decide +kernel
theorem d_Mpr_perform_269 : decode b_Mpr_perform 269 = .ok (.iload 7, 2) := by decide +kernel
theorem d_Mpr_perform_271 : decode b_Mpr_perform 271 = .ok (.iconst 0, 1) := by decide +kernel
theorem d_Mpr_perform_272 : decode b_Mpr_perform 272 = .ok (.iconst 0, 1) := by decide +kernel
theorem d_Mpr_perform_273 : decode b_Mpr_perform 273 = .ok (.invokestatic 264, 3) := by decide +kernel
theorem d_Mpr_perform_276 : decode b_Mpr_perform 276 = .ok (.isub, 1) := by decide +kernel
theorem d_Mpr_perform_277 : decode b_Mpr_perform 277 = .ok (.iload_n 2, 1) := by decide +kernel
theorem d_Mpr_perform_278 : decode b_Mpr_perform 278 = .ok (.invokevirtual 272, 3) := by decide +kernel
theorem d_Mpr_perform_281 : decode b_Mpr_perform 281 = .ok (.goto 7, 3) := by decide +kernel
theorem d_Mpr_perform_284 : decode b_Mpr_perform 284 = .ok (.aload_n 0, 1) := by decide +kernel
theorem d_Mpr_perform_285 : decode b_Mpr_perform 285 = .ok (.invokevirtual 275, 3) := by decide +kernel
theorem d_Mpr_perform_288 : decode b_Mpr_perform 288 = .ok (.ireturn, 1) := by decide +kernel
theorem d_Mpr_perform_289 : decode b_Mpr_perform 289 = .ok (.aload_n 0, 1) := by decide +kernel
theorem d_Mpr_perform_290 : decode b_Mpr_perform 290 = .ok (.iload_n 1, 1) := by decide +kernel
theorem d_Mpr_perform_291 : decode b_Mpr_perform 291 = .ok (.iload_n 3, 1) := by decide +kernel
theorem d_Mpr_perform_292 : decode b_Mpr_perform 292 = .ok (.iload 4, 2) := by decide +kernel
theorem d_Mpr_perform_294 : decode b_Mpr_perform 294 = .ok (.iload 5, 2) := by decide +kernel
theorem d_Mpr_perform_296 : decode b_Mpr_perform 296 = .ok (.invokevirtual 278, 3) := by decide +kernel
theorem d_Mpr_perform_299 : decode b_Mpr_perform 299 = .ok (.ireturn, 1) := by decide +kernel
theorem d_Mpr_perform_300 : decode b_Mpr_perform 300 = .ok (.aload_n 0, 1) := by decide +kernel
theorem d_Mpr_perform_301 : decode b_Mpr_perform 301 = .ok (.iload_n 3, 1) := by decide +kernel
theorem d_Mpr_perform_302 : decode b_Mpr_perform 302 = .ok (.iload_n 2, 1) := by decide +kernel
theorem d_Mpr_perform_303 : decode b_Mpr_perform 303 = .ok (.iload 4, 2) := by decide +kernel
theorem d_Mpr_perform_305 : decode b_Mpr_perform 305 = .ok (.iload 6, 2) := by decide +kernel
theorem d_Mpr_perform_307 : decode b_Mpr_perform 307 = .ok (.iadd, 1) := by decide +kernel
theorem d_Mpr_perform_308 : decode b_Mpr_perform 308 = .ok (.invokevirtual 282, 3) := by decide +kernel
theorem d_Mpr_perform_311 : decode b_Mpr_perform 311 = .ok (.ireturn, 1) := by decide +kernel
theorem d_Mpr_perform_312 : decode b_Mpr_perform 312 = .ok (.aload_n 0, 1) := by decide +kernel
theorem d_Mpr_perform_313 : decode b_Mpr_perform 313 = .ok (.iload_n 3, 1) := by decide +kernel
theorem d_Mpr_perform_314 : decode b_Mpr_perform 314 = .ok (.iload 4, 2) := by decide +kernel
theorem d_Mpr_perform_316 : decode b_Mpr_perform 316 = .ok (.iload_n 1, 1) := by decide +kernel
theorem d_Mpr_perform_317 : decode b_Mpr_perform 317 = .ok (.bipush 25, 2) := by decide +kernel
theorem d_Mpr_perform_319 : decode b_Mpr_perform 319 = .ok (.ishr, 1) := by decide +kernel
theorem d_Mpr_perform_320 : decode b_Mpr_perform 320 = .ok (.bipush 32, 2) := by decide +kernel
theorem d_Mpr_perform_322 : decode b_Mpr_perform 322 = .ok (.imul, 1) := by decide +kernel
theorem d_Mpr_perform_323 : decode b_Mpr_perform 323 = .ok (.iadd, 1) := by decide +kernel
theorem d_Mpr_perform_324 : decode b_Mpr_perform 324 = .ok (.iload_n 2, 1) := by decide +kernel
theorem d_Mpr_perform_325 : decode b_Mpr_perform 325 = .ok (.iadd, 1) := by decide +kernel
theorem d_Mpr_perform_326 : decode b_Mpr_perform 326 = .ok (.iload 5, 2) := by decide +kernel
theorem d_Mpr_perform_328 : decode b_Mpr_perform 328 = .ok (.invokevirtual 285, 3) := by decide +kernel
theorem d_Mpr_perform_331 : decode b_Mpr_perform 331 = .ok (.ireturn, 1) := by decide +kernel
theorem d_Mpr_perform_332 : decode b_Mpr_perform 332 = .ok (.aload_n 0, 1) := by decide +kernel
theorem d_Mpr_perform_333 : decode b_Mpr_perform 333 = .ok (.iload_n 1, 1) := by decide +kernel
theorem d_Mpr_perform_334 : decode b_Mpr_perform 334 = .ok (.iload_n 3, 1) := by decide +kernel
theorem d_Mpr_perform_335 : decode b_Mpr_perform 335 = .ok (.iload_n 2, 1) := by decide +kernel
theorem d_Mpr_perform_336 : decode b_Mpr_perform 336 = .ok (.iload 4, 2) := by decide +kernel
theorem d_Mpr_perform_338 : decode b_Mpr_perform 338 = .ok (.iload 6, 2) := by decide +kernel
theorem d_Mpr_perform_340 : decode b_Mpr_perform 340 = .ok (.invokevirtual 288, 3) := by decide +kernel
theorem d_Mpr_perform_343 : decode b_Mpr_perform 343 = .ok (.ireturn, 1) := by decide +kernel
theorem d_Mpr_perform_344 : decode b_Mpr_perform 344 = .ok (.aload_n 0, 1) := by decide +kernel
theorem d_Mpr_perform_345 : decode b_Mpr_perform 345 = .ok (.iload_n 1, 1) := by decide +kernel
theorem d_Mpr_perform_346 : decode b_Mpr_perform 346 = .ok (.iload_n 3, 1) := by decide +kernel
theorem d_Mpr_perform_347 : decode b_Mpr_perform 347 = .ok (.iload_n 2, 1) := by decide +kernel
theorem d_Mpr_perform_348 : decode b_Mpr_perform 348 = .ok (.iload 4, 2) := by decide +kernel
theorem d_Mpr_perform_350 : decode b_Mpr_perform 350 = .ok (.iload 5, 2) := by decide +kernel
theorem d_Mpr_perform_352 : decode b_Mpr_perform 352 = .ok (.invokevirtual 292, 3) := by decide +kernel
theorem d_Mpr_perform_355 : decode b_Mpr_perform 355 = .ok (.ireturn, 1) := by decide +kernel
theorem d_Mpr_perform_356 : decode b_Mpr_perform 356 = .ok (.iload_n 3, 1) := by decide +kernel
theorem d_Mpr_perform_357 : decode b_Mpr_perform 357 = .ok (.ifCond .ne 12, 3) := by decide +kernel
theorem d_Mpr_perform_360 : decode b_Mpr_perform 360 = .ok (.aload_n 0, 1) := by decide +kernel
theorem d_Mpr_perform_361 : decode b_Mpr_perform 361 = .ok (.getfield 95, 3) := by decide +kernel
theorem d_Mpr_perform_364 : decode b_Mpr_perform 364 = .ok (.iconst 4, 1) := by decide +kernel
theorem d_Mpr_perform_365 : decode b_Mpr_perform 365 = .ok (.iadd, 1) := by decide +kernel
theorem d_Mpr_perform_366 : decode b_Mpr_perform 366 = .ok (.goto 7, 3) := by decide +kernel
theorem d_Mpr_perform_369 : decode b_Mpr_perform 369 = .ok (.aload_n 0, 1) := by decide +kernel
theorem d_Mpr_perform_370 : decode b_Mpr_perform 370 = .ok (.invokevirtual 275, 3) := by decide +kernel
theorem d_Mpr_perform_373 : decode b_Mpr_perform 373 = .ok (.ireturn, 1) := by decide +kernel
theorem d_Mpr_perform_374 : decode b_Mpr_perform 374 = .ok (.aload_n 0, 1) := by decide +kernel
theorem d_Mpr_perform_375 : decode b_Mpr_perform 375 = .ok (.invokevirtual 275, 3) := by decide +kernel
theorem d_Mpr_perform_378 : decode b_Mpr_perform 378 = .ok (.ireturn, 1) := by decide +kernel
theorem q_Mpr_perform : px_y y_Mpr_perform 1 := by unfold px_y; decide +kernel
set_option maxHeartbeats 4000000 in
set_option maxRecDepth 100000 in
theorem c_mr_perform (l : Launch) (D : va_G) (cs : Nat → ClassId) (nf : Int) (q : Nat) (qr : Nat → Nat) (qg : Nat → Nat → Option Nat) (qf : Nat → Int32) (qa : Nat → Nat → Int32) (h : Nat) (r : Nat → Nat) (g : Nat → Nat → Option Nat) (tf : Nat → Int32) (ta : Nat → Nat → Int32) (pf : Nat → Int32) (na : Nat → Nat → Int32) (ma : Nat → Nat → Int32) (wa : Nat → Nat → Int32) (cf : Nat → Int32) (ca : Nat → Nat → Int32) (ef : Nat → Int32) (ea : Nat → Nat → Int32) (xf : Nat → Int32) (xa : Nat → Nat → Int32) (p0 : Int32)  (g0 : 0 ≤ (xf 68).toInt) (g1 : (xf 68).toInt ≤ 512) : MetI l y_Mpr_perform b_Mpr_perform 8 (.int) D cs 5 170 (0) (0) [.ref q, .int p0] [wd_Mpr cs q qr (fun k => if k = 0 then (some h) else none) qf qa qg, wdP cs h r g tf ta pf na ma wa cf ca ef ea xf xa] (oX (fun A U H => (oP A g U H)) [wd_Mpr cs q qr (fun k => if k = 0 then (some h) else none) qf qa qg, wdP cs h r g tf ta pf na ma wa cf ca ef ea xf xa]) (fun v ps => ∃ (qf' : Nat → Int32) (qa' : Nat → Nat → Int32), (ps = [wd_Mpr cs q qr (fun k => if k = 0 then (some h) else none) qf' qa' qg, wdP cs h r g tf ta pf na ma wa cf ca ef ea xf xa]) ∧ ((qf' 2).toInt = (qf 2).toInt ∨ (qf' 2).toInt = 7) ∧ ((qf' 1).toInt = (qf 1).toInt) ∧ ((qf' 4).toInt = (qf 4).toInt) ∧ ((qf' 5).toInt = (qf 5).toInt) ∧ ((qf' 6).toInt = (qf 6).toInt) ∧ ((qf' 7).toInt = (qf 7).toInt) ∧ ((qf' 10).toInt = (qf 10).toInt) ∧ ((qf' 11).toInt = (qf 11).toInt) ∧ ((qf' 12).toInt = (qf 12).toInt) ∧ ((qf' 13).toInt = (qf 13).toInt) ∧ ((qf' 14).toInt = (qf 14).toInt) ∧ ((qf' 21).toInt = (qf 21).toInt) ∧ ((qf' 23).toInt = (qf 23).toInt) ∧ ((qf' 24).toInt = (qf 24).toInt)) := by
  refine px_enter (by decide) (Nat.le_of_ble_eq_true rfl) ?_
  intro p e s m below meth c A ls hAe S hr hlk hnm hA hT hX hw hl
  replace hl : lv_has ls 8 [(0, .ref q), (1, .int p0)] := hl
  have lp0 := Int32.le_toInt p0
  have up0 := Int32.toInt_lt p0
  have cst0 : (0 : Int32).toInt = 0 := rfl
  have cst2 : (2 : Int32).toInt = 2 := rfl
  have cst4 : (4 : Int32).toInt = 4 := rfl
  have cst6 : (6 : Int32).toInt = 6 := rfl
  have cst7 : (7 : Int32).toInt = 7 := rfl
  have cst11 : (11 : Int32).toInt = 11 := rfl
  have cst12 : (12 : Int32).toInt = 12 := rfl
  have cst14 : (14 : Int32).toInt = 14 := rfl
  have cst15 : (15 : Int32).toInt = 15 := rfl
  have cst19 : (19 : Int32).toInt = 19 := rfl
  have cst20 : (20 : Int32).toInt = 20 := rfl
  have cst21 : (21 : Int32).toInt = 21 := rfl
  have cst24 : (24 : Int32).toInt = 24 := rfl
  have cst25 : (25 : Int32).toInt = 25 := rfl
  have cst30 : (30 : Int32).toInt = 30 := rfl
  have cst31 : (31 : Int32).toInt = 31 := rfl
  have cst32 : (32 : Int32).toInt = 32 := rfl
  have cst2048 : (2048 : Int32).toInt = 2048 := rfl
  have cst4096 : (4096 : Int32).toInt = 4096 := rfl
  have hX : (fun A U H => (oP A g U H)) A s s.heap := by rw [hAe]; exact hX
  have hP := hX
  have hZ := hP.1
  have hF0 := hP.2.1
  refine lv_iload_n S.x S.b d_Mpr_perform_0 rfl (lv_at hl 1 rfl) ?_
  refine lv_bipush (v := 7) S.x S.b d_Mpr_perform_1 (by decide) ?_
  refine lv_bipush (v := 11) S.x S.b d_Mpr_perform_3 (by decide) ?_
  refine px_calli (pr := [wd_Mpr cs q qr (fun k => if k = 0 then (some h) else none) qf qa qg, wdP cs h r g tf ta pf na ma wa cf ca ef ea xf xa]) (px_runS (As := [.int p0, .int 7, .int 11]) (rest := []) S (c_mr_bits l D cs  p0 7 11   _) hT (pr := [wd_Mpr cs q qr (fun k => if k = 0 then (some h) else none) qf qa qg, wdP cs h r g tf ta pf na ma wa cf ca ef ea xf xa]) (pcs := []) hw px_X.tt m13_212 m13_210 m13_211 m1_22 q_Mpr_bits ⟨Nat.le_of_ble_eq_true rfl, Nat.le_of_ble_eq_true rfl⟩ hl.1 rfl (Nat.le_of_ble_eq_true rfl) d_Mpr_perform_5 ⟨Nat.le_of_ble_eq_true rfl, Nat.le_of_ble_eq_true rfl⟩) hw hA (fun v2 p1 H locs hp1 hw => ?_)
  obtain ⟨rfl, e3⟩ := hp1
  replace e3 : (11 : Int) = (7 : Int) + 4 → 0 ≤ v2.toInt ∧ v2.toInt < 32 := e3
  replace hw : pw D A s.heap H locs [wd_Mpr cs q qr (fun k => if k = 0 then (some h) else none) qf qa qg, wdP cs h r g tf ta pf na ma wa cf ca ef ea xf xa] := hw
  have lv2 := Int32.le_toInt v2
  have uv2 := Int32.toInt_lt v2
  refine lv_istore_n (lv' := [(2, .int v2), (0, .ref q), (1, .int p0)]) S.x S.b d_Mpr_perform_8 rfl hl (by decide) rfl (fun ls hl => ?_)
  refine lv_iload_n S.x S.b d_Mpr_perform_9 rfl (lv_at hl 2 rfl) ?_
  refine lv_bipush (v := 12) S.x S.b d_Mpr_perform_10 (by decide) ?_
  refine lv_bipush (v := 14) S.x S.b d_Mpr_perform_12 (by decide) ?_
  refine px_calli (pr := [wd_Mpr cs q qr (fun k => if k = 0 then (some h) else none) qf qa qg, wdP cs h r g tf ta pf na ma wa cf ca ef ea xf xa]) (px_runS (As := [.int p0, .int 12, .int 14]) (rest := []) S (c_mr_bits l D cs  p0 12 14   _) hT (pr := [wd_Mpr cs q qr (fun k => if k = 0 then (some h) else none) qf qa qg, wdP cs h r g tf ta pf na ma wa cf ca ef ea xf xa]) (pcs := []) hw px_X.tt m13_212 m13_210 m13_211 m1_22 q_Mpr_bits ⟨Nat.le_of_ble_eq_true rfl, Nat.le_of_ble_eq_true rfl⟩ hl.1 rfl (Nat.le_of_ble_eq_true rfl) d_Mpr_perform_14 ⟨Nat.le_of_ble_eq_true rfl, Nat.le_of_ble_eq_true rfl⟩) hw hA (fun v5 p4 H locs hp4 hw => ?_)
  obtain ⟨rfl, e6⟩ := hp4
  replace e6 : (14 : Int) = (12 : Int) + 4 → 0 ≤ v5.toInt ∧ v5.toInt < 32 := e6
  replace hw : pw D A s.heap H locs [wd_Mpr cs q qr (fun k => if k = 0 then (some h) else none) qf qa qg, wdP cs h r g tf ta pf na ma wa cf ca ef ea xf xa] := hw
  have lv5 := Int32.le_toInt v5
  have uv5 := Int32.toInt_lt v5
  refine lv_istore_n (lv' := [(3, .int v5), (2, .int v2), (0, .ref q), (1, .int p0)]) S.x S.b d_Mpr_perform_17 rfl hl (by decide) rfl (fun ls hl => ?_)
  refine lv_aload_n S.x S.b d_Mpr_perform_18 rfl (lv_at hl 2 rfl) ?_
  refine px_get S k_Mpr hT hw 0 0 19 (v := .ref (qr 19)) rfl rfl rfl (by decide) m11_11 d_Mpr_perform_19 ?_
  refine lv_iload_n S.x S.b d_Mpr_perform_22 rfl (lv_at hl 3 rfl) ?_
  refine lv_bipush (v := 15) S.x S.b d_Mpr_perform_23 (by decide) ?_
  refine lv_bipush (v := 19) S.x S.b d_Mpr_perform_25 (by decide) ?_
  refine px_calli (pr := [wd_Mpr cs q qr (fun k => if k = 0 then (some h) else none) qf qa qg, wdP cs h r g tf ta pf na ma wa cf ca ef ea xf xa]) (px_runS (As := [.int p0, .int 15, .int 19]) (rest := [.ref (qr 19)]) S (c_mr_bits l D cs  p0 15 19   _) hT (pr := [wd_Mpr cs q qr (fun k => if k = 0 then (some h) else none) qf qa qg, wdP cs h r g tf ta pf na ma wa cf ca ef ea xf xa]) (pcs := []) hw px_X.tt m13_212 m13_210 m13_211 m1_22 q_Mpr_bits ⟨Nat.le_of_ble_eq_true rfl, Nat.le_of_ble_eq_true rfl⟩ hl.1 rfl (Nat.le_of_ble_eq_true rfl) d_Mpr_perform_27 ⟨Nat.le_of_ble_eq_true rfl, Nat.le_of_ble_eq_true rfl⟩) hw hA (fun v8 p7 H locs hp7 hw => ?_)
  obtain ⟨rfl, e9⟩ := hp7
  replace e9 : (19 : Int) = (15 : Int) + 4 → 0 ≤ v8.toInt ∧ v8.toInt < 32 := e9
  replace hw : pw D A s.heap H locs [wd_Mpr cs q qr (fun k => if k = 0 then (some h) else none) qf qa qg, wdP cs h r g tf ta pf na ma wa cf ca ef ea xf xa] := hw
  have lv8 := Int32.le_toInt v8
  have uv8 := Int32.toInt_lt v8
  refine px_iald S hT hw 0 7 (n := 32) (f := (qa 19)) rfl (ga_Mpr_19 _ _ _ _ _ _ _) (x := v8) (vp_in_iff.mpr (by first | exact oz_69ce8a9dfa e9 | (constructor <;> omega))) d_Mpr_perform_30 ?_
  refine lv_topi (fun z10 ez10 => ?_)
  have lz10 := Int32.le_toInt z10
  have uz10 := Int32.toInt_lt z10
  refine lv_istore (lv' := [(4, .int z10), (3, .int v5), (2, .int v2), (0, .ref q), (1, .int p0)]) S.x S.b d_Mpr_perform_31 hl (by decide) rfl (fun ls hl => ?_)
  refine lv_aload_n S.x S.b d_Mpr_perform_33 rfl (lv_at hl 3 rfl) ?_
  refine px_get S k_Mpr hT hw 0 0 19 (v := .ref (qr 19)) rfl rfl rfl (by decide) m11_11 d_Mpr_perform_34 ?_
  refine lv_iload_n S.x S.b d_Mpr_perform_37 rfl (lv_at hl 4 rfl) ?_
  refine lv_bipush (v := 20) S.x S.b d_Mpr_perform_38 (by decide) ?_
  refine lv_bipush (v := 24) S.x S.b d_Mpr_perform_40 (by decide) ?_
  refine px_calli (pr := [wd_Mpr cs q qr (fun k => if k = 0 then (some h) else none) qf qa qg, wdP cs h r g tf ta pf na ma wa cf ca ef ea xf xa]) (px_runS (As := [.int p0, .int 20, .int 24]) (rest := [.ref (qr 19)]) S (c_mr_bits l D cs  p0 20 24   _) hT (pr := [wd_Mpr cs q qr (fun k => if k = 0 then (some h) else none) qf qa qg, wdP cs h r g tf ta pf na ma wa cf ca ef ea xf xa]) (pcs := []) hw px_X.tt m13_212 m13_210 m13_211 m1_22 q_Mpr_bits ⟨Nat.le_of_ble_eq_true rfl, Nat.le_of_ble_eq_true rfl⟩ hl.1 rfl (Nat.le_of_ble_eq_true rfl) d_Mpr_perform_42 ⟨Nat.le_of_ble_eq_true rfl, Nat.le_of_ble_eq_true rfl⟩) hw hA (fun v12 p11 H locs hp11 hw => ?_)
  obtain ⟨rfl, e13⟩ := hp11
  replace e13 : (24 : Int) = (20 : Int) + 4 → 0 ≤ v12.toInt ∧ v12.toInt < 32 := e13
  replace hw : pw D A s.heap H locs [wd_Mpr cs q qr (fun k => if k = 0 then (some h) else none) qf qa qg, wdP cs h r g tf ta pf na ma wa cf ca ef ea xf xa] := hw
  have lv12 := Int32.le_toInt v12
  have uv12 := Int32.toInt_lt v12
  refine px_iald S hT hw 0 7 (n := 32) (f := (qa 19)) rfl (ga_Mpr_19 _ _ _ _ _ _ _) (x := v12) (vp_in_iff.mpr (by first | exact oz_a5cd21ebd3 e13 | (constructor <;> omega))) d_Mpr_perform_45 ?_
  refine lv_topi (fun z14 ez14 => ?_)
  have lz14 := Int32.le_toInt z14
  have uz14 := Int32.toInt_lt z14
  refine lv_istore (lv' := [(5, .int z14), (4, .int z10), (3, .int v5), (2, .int v2), (0, .ref q), (1, .int p0)]) S.x S.b d_Mpr_perform_46 hl (by decide) rfl (fun ls hl => ?_)
  refine lv_iload_n S.x S.b d_Mpr_perform_48 rfl (lv_at hl 5 rfl) ?_
  refine lv_bipush (v := 20) S.x S.b d_Mpr_perform_49 (by decide) ?_
  refine lv_ishr S.x S.b d_Mpr_perform_51 ?_
  refine lv_topi (fun z15 ez15 => ?_)
  have tz15 : z15.toInt = p0.toInt / 1048576 := by rw [ez15]; exact i_shr p0 20 (k := 20) (d := 1048576) (by decide) (by decide)
  have lz15 := Int32.le_toInt z15
  have uz15 := Int32.toInt_lt z15
  refine lv_istore (lv' := [(6, .int z15), (5, .int z14), (4, .int z10), (3, .int v5), (2, .int v2), (0, .ref q), (1, .int p0)]) S.x S.b d_Mpr_perform_52 hl (by decide) rfl (fun ls hl => ?_)
  refine lv_iload_n S.x S.b d_Mpr_perform_54 rfl (lv_at hl 6 rfl) ?_
  refine lv_iconst (v := 0) S.x S.b d_Mpr_perform_55 (by decide) ?_
  refine lv_bipush (v := 6) S.x S.b d_Mpr_perform_56 (by decide) ?_
  refine px_calli (pr := [wd_Mpr cs q qr (fun k => if k = 0 then (some h) else none) qf qa qg, wdP cs h r g tf ta pf na ma wa cf ca ef ea xf xa]) (px_runS (As := [.int p0, .int 0, .int 6]) (rest := []) S (c_mr_bits l D cs  p0 0 6   _) hT (pr := [wd_Mpr cs q qr (fun k => if k = 0 then (some h) else none) qf qa qg, wdP cs h r g tf ta pf na ma wa cf ca ef ea xf xa]) (pcs := []) hw px_X.tt m13_212 m13_210 m13_211 m1_22 q_Mpr_bits ⟨Nat.le_of_ble_eq_true rfl, Nat.le_of_ble_eq_true rfl⟩ hl.1 rfl (Nat.le_of_ble_eq_true rfl) d_Mpr_perform_58 ⟨Nat.le_of_ble_eq_true rfl, Nat.le_of_ble_eq_true rfl⟩) hw hA (fun v17 p16 H locs hp16 hw => ?_)
  obtain ⟨rfl, e18⟩ := hp16
  replace e18 : (6 : Int) = (0 : Int) + 4 → 0 ≤ v17.toInt ∧ v17.toInt < 32 := e18
  replace hw : pw D A s.heap H locs [wd_Mpr cs q qr (fun k => if k = 0 then (some h) else none) qf qa qg, wdP cs h r g tf ta pf na ma wa cf ca ef ea xf xa] := hw
  have lv17 := Int32.le_toInt v17
  have uv17 := Int32.toInt_lt v17
  refine px_lookupK S (dt := 374) [(300, [3]), (356, [15]), (332, [19]), (173, [23]), (312, [35]), (344, [51]), (152, [55]), (289, [99]), (255, [103]), (199, [111])] d_Mpr_perform_61 (by decide +kernel) (by decide) (by decide +kernel) ?_ ?_
  ·
    refine lv_aload_n S.x S.b d_Mpr_perform_374 rfl (lv_at hl 5 rfl) ?_
    refine px_calli (pr := []) (px_runV (As := []) (rest := []) S (c_mr_bad l D cs (0 : Int) q qr qg qa qf h r g tf ta pf na ma wa cf ca ef ea xf xa    _) hT (pr := []) (pcs := [wd_Mpr cs q qr (fun k => if k = 0 then (some h) else none) qf qa qg, wdP cs h r g tf ta pf na ma wa cf ca ef ea xf xa]) hw (oX_call (P := (fun A U H => (oP A g U H))) (pr := []) oG_P hw hA hP) (px_recv hT hw 0 0 rfl rfl rfl) m13_225 m13_222 m13_224 ms_15_6 m1_22 q_Mpr_bad ⟨Nat.le_of_ble_eq_true rfl, Nat.le_of_ble_eq_true rfl⟩ hl.1 rfl (Nat.le_of_ble_eq_true rfl) d_Mpr_perform_375 ⟨Nat.le_of_ble_eq_true rfl, Nat.le_of_ble_eq_true rfl⟩) hw hA (fun v22 p21 H locs hp21 hw => ?_)
    obtain ⟨qf20, rfl, e23, e24, e25, e26, e27, e28, e29, e30, e31, e32, e33, e34, e35, e36⟩ := hp21
    replace e23 : (qf20 2).toInt = 7 := e23
    replace e24 : (qf20 1).toInt = (qf 1).toInt := e24
    replace e25 : (qf20 4).toInt = (qf 4).toInt := e25
    replace e26 : (qf20 5).toInt = (qf 5).toInt := e26
    replace e27 : (qf20 6).toInt = (qf 6).toInt := e27
    replace e28 : (qf20 7).toInt = (qf 7).toInt := e28
    replace e29 : (qf20 10).toInt = (qf 10).toInt := e29
    replace e30 : (qf20 11).toInt = (qf 11).toInt := e30
    replace e31 : (qf20 12).toInt = (qf 12).toInt := e31
    replace e32 : (qf20 13).toInt = (qf 13).toInt := e32
    replace e33 : (qf20 14).toInt = (qf 14).toInt := e33
    replace e34 : (qf20 21).toInt = (qf 21).toInt := e34
    replace e35 : (qf20 23).toInt = (qf 23).toInt := e35
    replace e36 : (qf20 24).toInt = (qf 24).toInt := e36
    replace hw : pw D A s.heap H locs [wd_Mpr cs q qr (fun k => if k = 0 then (some h) else none) qf20 qa qg, wdP cs h r g tf ta pf na ma wa cf ca ef ea xf xa] := hw
    have lv22 := Int32.le_toInt v22
    have uv22 := Int32.toInt_lt v22
    exact px_iret (v := v22) S hr rfl hlk hAe hw (Nat.le_of_ble_eq_true rfl) (Nat.le_of_ble_eq_true rfl) (⟨qf20, qa, rfl, (show (qf20 2).toInt = (qf 2).toInt ∨ (qf20 2).toInt = 7 from by first | with_reducible rfl | with_reducible assumption | omega), (show (qf20 1).toInt = (qf 1).toInt from by first | exact e24 | omega), (show (qf20 4).toInt = (qf 4).toInt from by first | exact e25 | omega), (show (qf20 5).toInt = (qf 5).toInt from by first | exact e26 | omega), (show (qf20 6).toInt = (qf 6).toInt from by first | exact e27 | omega), (show (qf20 7).toInt = (qf 7).toInt from by first | exact e28 | omega), (show (qf20 10).toInt = (qf 10).toInt from by first | exact e29 | omega), (show (qf20 11).toInt = (qf 11).toInt from by first | exact e30 | omega), (show (qf20 12).toInt = (qf 12).toInt from by first | exact e31 | omega), (show (qf20 13).toInt = (qf 13).toInt from by first | exact e32 | omega), (show (qf20 14).toInt = (qf 14).toInt from by first | exact e33 | omega), (show (qf20 21).toInt = (qf 21).toInt from by first | exact e34 | omega), (show (qf20 23).toInt = (qf 23).toInt from by first | exact e35 | omega), (show (qf20 24).toInt = (qf 24).toInt from by first | exact e36 | omega)⟩) d_Mpr_perform_378
  · refine List.forall_mem_cons.mpr ⟨fun c37 => ?_, List.forall_mem_cons.mpr ⟨fun c37 => ?_, List.forall_mem_cons.mpr ⟨fun c37 => ?_, List.forall_mem_cons.mpr ⟨fun c37 => ?_, List.forall_mem_cons.mpr ⟨fun c37 => ?_, List.forall_mem_cons.mpr ⟨fun c37 => ?_, List.forall_mem_cons.mpr ⟨fun c37 => ?_, List.forall_mem_cons.mpr ⟨fun c37 => ?_, List.forall_mem_cons.mpr ⟨fun c37 => ?_, List.forall_mem_cons.mpr ⟨fun c37 => ?_, fun _ h => absurd h List.not_mem_nil⟩⟩⟩⟩⟩⟩⟩⟩⟩⟩
    · simp only [List.mem_cons, List.not_mem_nil, or_false] at c37
      refine lv_aload_n S.x S.b d_Mpr_perform_300 rfl (lv_at hl 5 rfl) ?_
      refine lv_iload_n S.x S.b d_Mpr_perform_301 rfl (lv_at hl 3 rfl) ?_
      refine lv_iload_n S.x S.b d_Mpr_perform_302 rfl (lv_at hl 4 rfl) ?_
      refine lv_iload S.x S.b d_Mpr_perform_303 (lv_at hl 2 rfl) ?_
      refine lv_iload S.x S.b d_Mpr_perform_305 (lv_at hl 0 rfl) ?_
      refine lv_iadd S.x S.b d_Mpr_perform_307 ?_
      refine lv_topi (fun z38 ez38 => ?_)
      have tz38 : z38.toInt = (z10.toInt + z15.toInt + 2147483648) % 4294967296 - 2147483648 := by rw [ez38]; exact i_add z10 z15
      have lz38 := Int32.le_toInt z38
      have uz38 := Int32.toInt_lt z38
      try replace tz38 : z38.toInt = z10.toInt + z15.toInt := by omega
      refine px_calli (pr := []) (px_runV (As := [.int v5, .int v2, .int z38]) (rest := []) S (c_mr_load l D cs (0 : Int) q qr qg qf qa h r g tf ta pf na ma wa cf ca ef ea xf xa v5 v2 z38  (show 0 ≤ (xf 68).toInt from by first | exact g0 | omega) (show (xf 68).toInt ≤ 512 from by first | exact g1 | omega) (show 0 ≤ v2.toInt from by first | exact oz_befba0f6bd e3 | omega) (show v2.toInt < 32 from by first | exact oz_80c12faf1e e3 | omega) _) hT (pr := []) (pcs := [wd_Mpr cs q qr (fun k => if k = 0 then (some h) else none) qf qa qg, wdP cs h r g tf ta pf na ma wa cf ca ef ea xf xa]) hw (oX_call (P := (fun A U H => (oP A g U H))) (pr := []) oG_P hw hA hP) (px_recv hT hw 0 0 rfl rfl rfl) m13_233 m13_230 m13_232 ms_15_8 m1_22 q_Mpr_load ⟨Nat.le_of_ble_eq_true rfl, Nat.le_of_ble_eq_true rfl⟩ hl.1 rfl (Nat.le_of_ble_eq_true rfl) d_Mpr_perform_308 ⟨Nat.le_of_ble_eq_true rfl, Nat.le_of_ble_eq_true rfl⟩) hw hA (fun v44 p43 H locs hp43 hw => ?_)
      obtain ⟨qf41, qa42, rfl, e45, e46, e47, e48, e49, e50, e51, e52, e53, e54, e55, e56, e57, e58⟩ := hp43
      replace e45 : (qf41 2).toInt = (qf 2).toInt ∨ (qf41 2).toInt = 7 := e45
      replace e46 : (qf41 1).toInt = (qf 1).toInt := e46
      replace e47 : (qf41 4).toInt = (qf 4).toInt := e47
      replace e48 : (qf41 5).toInt = (qf 5).toInt := e48
      replace e49 : (qf41 6).toInt = (qf 6).toInt := e49
      replace e50 : (qf41 7).toInt = (qf 7).toInt := e50
      replace e51 : (qf41 10).toInt = (qf 10).toInt := e51
      replace e52 : (qf41 11).toInt = (qf 11).toInt := e52
      replace e53 : (qf41 12).toInt = (qf 12).toInt := e53
      replace e54 : (qf41 13).toInt = (qf 13).toInt := e54
      replace e55 : (qf41 14).toInt = (qf 14).toInt := e55
      replace e56 : (qf41 21).toInt = (qf 21).toInt := e56
      replace e57 : (qf41 23).toInt = (qf 23).toInt := e57
      replace e58 : (qf41 24).toInt = (qf 24).toInt := e58
      replace hw : pw D A s.heap H locs [wd_Mpr cs q qr (fun k => if k = 0 then (some h) else none) qf41 qa42 qg, wdP cs h r g tf ta pf na ma wa cf ca ef ea xf xa] := hw
      have lv44 := Int32.le_toInt v44
      have uv44 := Int32.toInt_lt v44
      exact px_iret (v := v44) S hr rfl hlk hAe hw (Nat.le_of_ble_eq_true rfl) (Nat.le_of_ble_eq_true rfl) (⟨qf41, qa42, rfl, (show (qf41 2).toInt = (qf 2).toInt ∨ (qf41 2).toInt = 7 from by first | exact e45 | omega), (show (qf41 1).toInt = (qf 1).toInt from by first | exact e46 | omega), (show (qf41 4).toInt = (qf 4).toInt from by first | exact e47 | omega), (show (qf41 5).toInt = (qf 5).toInt from by first | exact e48 | omega), (show (qf41 6).toInt = (qf 6).toInt from by first | exact e49 | omega), (show (qf41 7).toInt = (qf 7).toInt from by first | exact e50 | omega), (show (qf41 10).toInt = (qf 10).toInt from by first | exact e51 | omega), (show (qf41 11).toInt = (qf 11).toInt from by first | exact e52 | omega), (show (qf41 12).toInt = (qf 12).toInt from by first | exact e53 | omega), (show (qf41 13).toInt = (qf 13).toInt from by first | exact e54 | omega), (show (qf41 14).toInt = (qf 14).toInt from by first | exact e55 | omega), (show (qf41 21).toInt = (qf 21).toInt from by first | exact e56 | omega), (show (qf41 23).toInt = (qf 23).toInt from by first | exact e57 | omega), (show (qf41 24).toInt = (qf 24).toInt from by first | exact e58 | omega)⟩) d_Mpr_perform_311
    · simp only [List.mem_cons, List.not_mem_nil, or_false] at c37
      refine lv_iload_n S.x S.b d_Mpr_perform_356 rfl (lv_at hl 3 rfl) ?_
      refine lv_if_ne (tgt := 369) S.x S.b d_Mpr_perform_357 (by decide) (fun c59 => ?_) (fun c59 => ?_)
      · have nc59 : ¬ v5.toInt = (0 : Int) := mt (i_eq (x := v5) (y := 0)).mpr c59
        refine lv_aload_n S.x S.b d_Mpr_perform_369 rfl (lv_at hl 5 rfl) ?_
        refine px_calli (pr := []) (px_runV (As := []) (rest := []) S (c_mr_bad l D cs (0 : Int) q qr qg qa qf h r g tf ta pf na ma wa cf ca ef ea xf xa    _) hT (pr := []) (pcs := [wd_Mpr cs q qr (fun k => if k = 0 then (some h) else none) qf qa qg, wdP cs h r g tf ta pf na ma wa cf ca ef ea xf xa]) hw (oX_call (P := (fun A U H => (oP A g U H))) (pr := []) oG_P hw hA hP) (px_recv hT hw 0 0 rfl rfl rfl) m13_225 m13_222 m13_224 ms_15_6 m1_22 q_Mpr_bad ⟨Nat.le_of_ble_eq_true rfl, Nat.le_of_ble_eq_true rfl⟩ hl.1 rfl (Nat.le_of_ble_eq_true rfl) d_Mpr_perform_370 ⟨Nat.le_of_ble_eq_true rfl, Nat.le_of_ble_eq_true rfl⟩) hw hA (fun v63 p62 H locs hp62 hw => ?_)
        obtain ⟨qf61, rfl, e64, e65, e66, e67, e68, e69, e70, e71, e72, e73, e74, e75, e76, e77⟩ := hp62
        replace e64 : (qf61 2).toInt = 7 := e64
        replace e65 : (qf61 1).toInt = (qf 1).toInt := e65
        replace e66 : (qf61 4).toInt = (qf 4).toInt := e66
        replace e67 : (qf61 5).toInt = (qf 5).toInt := e67
        replace e68 : (qf61 6).toInt = (qf 6).toInt := e68
        replace e69 : (qf61 7).toInt = (qf 7).toInt := e69
        replace e70 : (qf61 10).toInt = (qf 10).toInt := e70
        replace e71 : (qf61 11).toInt = (qf 11).toInt := e71
        replace e72 : (qf61 12).toInt = (qf 12).toInt := e72
        replace e73 : (qf61 13).toInt = (qf 13).toInt := e73
        replace e74 : (qf61 14).toInt = (qf 14).toInt := e74
        replace e75 : (qf61 21).toInt = (qf 21).toInt := e75
        replace e76 : (qf61 23).toInt = (qf 23).toInt := e76
        replace e77 : (qf61 24).toInt = (qf 24).toInt := e77
        replace hw : pw D A s.heap H locs [wd_Mpr cs q qr (fun k => if k = 0 then (some h) else none) qf61 qa qg, wdP cs h r g tf ta pf na ma wa cf ca ef ea xf xa] := hw
        have lv63 := Int32.le_toInt v63
        have uv63 := Int32.toInt_lt v63
        exact px_iret (v := v63) S hr rfl hlk hAe hw (Nat.le_of_ble_eq_true rfl) (Nat.le_of_ble_eq_true rfl) (⟨qf61, qa, rfl, (show (qf61 2).toInt = (qf 2).toInt ∨ (qf61 2).toInt = 7 from by first | with_reducible rfl | with_reducible assumption | omega), (show (qf61 1).toInt = (qf 1).toInt from by first | exact e65 | omega), (show (qf61 4).toInt = (qf 4).toInt from by first | exact e66 | omega), (show (qf61 5).toInt = (qf 5).toInt from by first | exact e67 | omega), (show (qf61 6).toInt = (qf 6).toInt from by first | exact e68 | omega), (show (qf61 7).toInt = (qf 7).toInt from by first | exact e69 | omega), (show (qf61 10).toInt = (qf 10).toInt from by first | exact e70 | omega), (show (qf61 11).toInt = (qf 11).toInt from by first | exact e71 | omega), (show (qf61 12).toInt = (qf 12).toInt from by first | exact e72 | omega), (show (qf61 13).toInt = (qf 13).toInt from by first | exact e73 | omega), (show (qf61 14).toInt = (qf 14).toInt from by first | exact e74 | omega), (show (qf61 21).toInt = (qf 21).toInt from by first | exact e75 | omega), (show (qf61 23).toInt = (qf 23).toInt from by first | exact e76 | omega), (show (qf61 24).toInt = (qf 24).toInt from by first | exact e77 | omega)⟩) d_Mpr_perform_373
      · have nc59 : v5.toInt = (0 : Int) := (i_eq (x := v5) (y := 0)).mp c59
        refine lv_aload_n S.x S.b d_Mpr_perform_360 rfl (lv_at hl 5 rfl) ?_
        refine px_get S k_Mpr hT hw 0 0 11 (v := .int (qf 11)) rfl rfl rfl (by decide) m11_2 d_Mpr_perform_361 ?_
        refine lv_iconst (v := 4) S.x S.b d_Mpr_perform_364 (by decide) ?_
        refine lv_iadd S.x S.b d_Mpr_perform_365 ?_
        have lr78 := Int32.le_toInt (qf 11)
        have ur78 := Int32.toInt_lt (qf 11)
        refine lv_topi (fun z79 ez79 => ?_)
        have tz79 : z79.toInt = ((qf 11).toInt + (4 : Int) + 2147483648) % 4294967296 - 2147483648 := by rw [ez79]; exact i_add (qf 11) 4
        have lz79 := Int32.le_toInt z79
        have uz79 := Int32.toInt_lt z79
        try replace tz79 : z79.toInt = (qf 11).toInt + (4 : Int) := by omega
        refine lv_goto (tgt := 373) S.x S.b d_Mpr_perform_366 (by decide) ?_
        exact px_iret (v := z79) S hr rfl hlk hAe hw (Nat.le_of_ble_eq_true rfl) (Nat.le_of_ble_eq_true rfl) (⟨qf, qa, rfl, (show (qf 2).toInt = (qf 2).toInt ∨ (qf 2).toInt = 7 from by first | with_reducible rfl | with_reducible assumption | omega), (show (qf 1).toInt = (qf 1).toInt from rfl), (show (qf 4).toInt = (qf 4).toInt from rfl), (show (qf 5).toInt = (qf 5).toInt from rfl), (show (qf 6).toInt = (qf 6).toInt from rfl), (show (qf 7).toInt = (qf 7).toInt from rfl), (show (qf 10).toInt = (qf 10).toInt from rfl), (show (qf 11).toInt = (qf 11).toInt from rfl), (show (qf 12).toInt = (qf 12).toInt from rfl), (show (qf 13).toInt = (qf 13).toInt from rfl), (show (qf 14).toInt = (qf 14).toInt from rfl), (show (qf 21).toInt = (qf 21).toInt from rfl), (show (qf 23).toInt = (qf 23).toInt from rfl), (show (qf 24).toInt = (qf 24).toInt from rfl)⟩) d_Mpr_perform_373
    · simp only [List.mem_cons, List.not_mem_nil, or_false] at c37
      refine lv_aload_n S.x S.b d_Mpr_perform_332 rfl (lv_at hl 5 rfl) ?_
      refine lv_iload_n S.x S.b d_Mpr_perform_333 rfl (lv_at hl 6 rfl) ?_
      refine lv_iload_n S.x S.b d_Mpr_perform_334 rfl (lv_at hl 3 rfl) ?_
      refine lv_iload_n S.x S.b d_Mpr_perform_335 rfl (lv_at hl 4 rfl) ?_
      refine lv_iload S.x S.b d_Mpr_perform_336 (lv_at hl 2 rfl) ?_
      refine lv_iload S.x S.b d_Mpr_perform_338 (lv_at hl 0 rfl) ?_
      refine px_calli (pr := []) (px_runV (As := [.int p0, .int v5, .int v2, .int z10, .int z15]) (rest := []) S (c_mr_withNumber l D cs (0 : Int) q qr qg qf qa h r g tf ta pf na ma wa cf ca ef ea xf xa p0 v5 v2 z10 z15  (show 0 ≤ v2.toInt from by first | exact oz_befba0f6bd e3 | omega) (show v2.toInt < 32 from by first | exact oz_80c12faf1e e3 | omega) _) hT (pr := []) (pcs := [wd_Mpr cs q qr (fun k => if k = 0 then (some h) else none) qf qa qg, wdP cs h r g tf ta pf na ma wa cf ca ef ea xf xa]) hw (oX_call (P := (fun A U H => (oP A g U H))) (pr := []) oG_P hw hA hP) (px_recv hT hw 0 0 rfl rfl rfl) m14_13 m14_10 m14_12 ms_15_10 m1_22 q_Mpr_withNumber ⟨Nat.le_of_ble_eq_true rfl, Nat.le_of_ble_eq_true rfl⟩ hl.1 rfl (Nat.le_of_ble_eq_true rfl) d_Mpr_perform_340 ⟨Nat.le_of_ble_eq_true rfl, Nat.le_of_ble_eq_true rfl⟩) hw hA (fun v85 p84 H locs hp84 hw => ?_)
      obtain ⟨qf82, qa83, rfl, e86, e87, e88, e89, e90, e91, e92, e93, e94, e95, e96, e97, e98, e99⟩ := hp84
      replace e86 : (qf82 2).toInt = (qf 2).toInt ∨ (qf82 2).toInt = 7 := e86
      replace e87 : (qf82 1).toInt = (qf 1).toInt := e87
      replace e88 : (qf82 4).toInt = (qf 4).toInt := e88
      replace e89 : (qf82 5).toInt = (qf 5).toInt := e89
      replace e90 : (qf82 6).toInt = (qf 6).toInt := e90
      replace e91 : (qf82 7).toInt = (qf 7).toInt := e91
      replace e92 : (qf82 10).toInt = (qf 10).toInt := e92
      replace e93 : (qf82 11).toInt = (qf 11).toInt := e93
      replace e94 : (qf82 12).toInt = (qf 12).toInt := e94
      replace e95 : (qf82 13).toInt = (qf 13).toInt := e95
      replace e96 : (qf82 14).toInt = (qf 14).toInt := e96
      replace e97 : (qf82 21).toInt = (qf 21).toInt := e97
      replace e98 : (qf82 23).toInt = (qf 23).toInt := e98
      replace e99 : (qf82 24).toInt = (qf 24).toInt := e99
      replace hw : pw D A s.heap H locs [wd_Mpr cs q qr (fun k => if k = 0 then (some h) else none) qf82 qa83 qg, wdP cs h r g tf ta pf na ma wa cf ca ef ea xf xa] := hw
      have lv85 := Int32.le_toInt v85
      have uv85 := Int32.toInt_lt v85
      exact px_iret (v := v85) S hr rfl hlk hAe hw (Nat.le_of_ble_eq_true rfl) (Nat.le_of_ble_eq_true rfl) (⟨qf82, qa83, rfl, (show (qf82 2).toInt = (qf 2).toInt ∨ (qf82 2).toInt = 7 from by first | exact e86 | omega), (show (qf82 1).toInt = (qf 1).toInt from by first | exact e87 | omega), (show (qf82 4).toInt = (qf 4).toInt from by first | exact e88 | omega), (show (qf82 5).toInt = (qf 5).toInt from by first | exact e89 | omega), (show (qf82 6).toInt = (qf 6).toInt from by first | exact e90 | omega), (show (qf82 7).toInt = (qf 7).toInt from by first | exact e91 | omega), (show (qf82 10).toInt = (qf 10).toInt from by first | exact e92 | omega), (show (qf82 11).toInt = (qf 11).toInt from by first | exact e93 | omega), (show (qf82 12).toInt = (qf 12).toInt from by first | exact e94 | omega), (show (qf82 13).toInt = (qf 13).toInt from by first | exact e95 | omega), (show (qf82 14).toInt = (qf 14).toInt from by first | exact e96 | omega), (show (qf82 21).toInt = (qf 21).toInt from by first | exact e97 | omega), (show (qf82 23).toInt = (qf 23).toInt from by first | exact e98 | omega), (show (qf82 24).toInt = (qf 24).toInt from by first | exact e99 | omega)⟩) d_Mpr_perform_343
    · simp only [List.mem_cons, List.not_mem_nil, or_false] at c37
      refine lv_aload_n S.x S.b d_Mpr_perform_173 rfl (lv_at hl 5 rfl) ?_
      refine lv_iload_n S.x S.b d_Mpr_perform_174 rfl (lv_at hl 4 rfl) ?_
      refine lv_aload_n S.x S.b d_Mpr_perform_175 rfl (lv_at hl 5 rfl) ?_
      refine px_get S k_Mpr hT hw 0 0 11 (v := .int (qf 11)) rfl rfl rfl (by decide) m11_2 d_Mpr_perform_176 ?_
      refine lv_iload_n S.x S.b d_Mpr_perform_179 rfl (lv_at hl 6 rfl) ?_
      refine lv_iadd S.x S.b d_Mpr_perform_180 ?_
      have lr100 := Int32.le_toInt (qf 11)
      have ur100 := Int32.toInt_lt (qf 11)
      refine lv_topi (fun z101 ez101 => ?_)
      have tz101 : z101.toInt = ((qf 11).toInt + p0.toInt + 2147483648) % 4294967296 - 2147483648 := by rw [ez101]; exact i_add (qf 11) p0
      have lz101 := Int32.le_toInt z101
      have uz101 := Int32.toInt_lt z101
      try replace tz101 : z101.toInt = (qf 11).toInt + p0.toInt := by omega
      refine lv_iload_n S.x S.b d_Mpr_perform_181 rfl (lv_at hl 6 rfl) ?_
      refine lv_iconst (v := 0) S.x S.b d_Mpr_perform_182 (by decide) ?_
      refine lv_bipush (v := 11) S.x S.b d_Mpr_perform_183 (by decide) ?_
      refine px_calli (pr := [wd_Mpr cs q qr (fun k => if k = 0 then (some h) else none) qf qa qg, wdP cs h r g tf ta pf na ma wa cf ca ef ea xf xa]) (px_runS (As := [.int p0, .int 0, .int 11]) (rest := [.int z101, .int v2, .ref q]) S (c_mr_bits l D cs  p0 0 11   _) hT (pr := [wd_Mpr cs q qr (fun k => if k = 0 then (some h) else none) qf qa qg, wdP cs h r g tf ta pf na ma wa cf ca ef ea xf xa]) (pcs := []) hw px_X.tt m13_212 m13_210 m13_211 m1_22 q_Mpr_bits ⟨Nat.le_of_ble_eq_true rfl, Nat.le_of_ble_eq_true rfl⟩ hl.1 rfl (Nat.le_of_ble_eq_true rfl) d_Mpr_perform_185 ⟨Nat.le_of_ble_eq_true rfl, Nat.le_of_ble_eq_true rfl⟩) hw hA (fun v103 p102 H locs hp102 hw => ?_)
      obtain ⟨rfl, e104⟩ := hp102
      replace e104 : (11 : Int) = (0 : Int) + 4 → 0 ≤ v103.toInt ∧ v103.toInt < 32 := e104
      replace hw : pw D A s.heap H locs [wd_Mpr cs q qr (fun k => if k = 0 then (some h) else none) qf qa qg, wdP cs h r g tf ta pf na ma wa cf ca ef ea xf xa] := hw
      have lv103 := Int32.le_toInt v103
      have uv103 := Int32.toInt_lt v103
      refine lv_isub S.x S.b d_Mpr_perform_188 ?_
      refine lv_topi (fun z105 ez105 => ?_)
      have tz105 : z105.toInt = (z101.toInt - v103.toInt + 2147483648) % 4294967296 - 2147483648 := by rw [ez105]; exact i_sub z101 v103
      have lz105 := Int32.le_toInt z105
      have uz105 := Int32.toInt_lt z105
      try replace tz105 : z105.toInt = z101.toInt - v103.toInt := by omega
      refine px_callv (pr := []) (px_runV (As := [.int v2, .int z105]) (rest := []) S (c_mr_set l D cs (0 : Int) q qr qg qf qa h r g tf ta pf na ma wa cf ca ef ea xf xa v2 z105  (show 0 ≤ v2.toInt from by first | exact oz_befba0f6bd e3 | omega) (show v2.toInt < 32 from by first | exact oz_80c12faf1e e3 | omega) _) hT (pr := []) (pcs := [wd_Mpr cs q qr (fun k => if k = 0 then (some h) else none) qf qa qg, wdP cs h r g tf ta pf na ma wa cf ca ef ea xf xa]) hw (oX_call (P := (fun A U H => (oP A g U H))) (pr := []) oG_P hw hA hP) (px_recv hT hw 0 0 rfl rfl rfl) m13_216 m13_213 m13_215 ms_15_4 m1_22 q_Mpr_set ⟨Nat.le_of_ble_eq_true rfl, Nat.le_of_ble_eq_true rfl⟩ hl.1 rfl (Nat.le_of_ble_eq_true rfl) d_Mpr_perform_189 ⟨Nat.le_of_ble_eq_true rfl, Nat.le_of_ble_eq_true rfl⟩) hw hA (fun p108 H locs hp108 hw => ?_)
      obtain ⟨qa107, rfl⟩ := hp108
      replace hw : pw D A s.heap H locs [wd_Mpr cs q qr (fun k => if k = 0 then (some h) else none) qf qa107 qg, wdP cs h r g tf ta pf na ma wa cf ca ef ea xf xa] := hw
      refine lv_aload_n S.x S.b d_Mpr_perform_192 rfl (lv_at hl 5 rfl) ?_
      refine px_get S k_Mpr hT hw 0 0 11 (v := .int (qf 11)) rfl rfl rfl (by decide) m11_2 d_Mpr_perform_193 ?_
      refine lv_iconst (v := 4) S.x S.b d_Mpr_perform_196 (by decide) ?_
      refine lv_iadd S.x S.b d_Mpr_perform_197 ?_
      have lr110 := Int32.le_toInt (qf 11)
      have ur110 := Int32.toInt_lt (qf 11)
      refine lv_topi (fun z111 ez111 => ?_)
      have tz111 : z111.toInt = ((qf 11).toInt + (4 : Int) + 2147483648) % 4294967296 - 2147483648 := by rw [ez111]; exact i_add (qf 11) 4
      have lz111 := Int32.le_toInt z111
      have uz111 := Int32.toInt_lt z111
      try replace tz111 : z111.toInt = (qf 11).toInt + (4 : Int) := by omega
      exact px_iret (v := z111) S hr rfl hlk hAe hw (Nat.le_of_ble_eq_true rfl) (Nat.le_of_ble_eq_true rfl) (⟨qf, qa107, rfl, (show (qf 2).toInt = (qf 2).toInt ∨ (qf 2).toInt = 7 from by first | with_reducible rfl | with_reducible assumption | omega), (show (qf 1).toInt = (qf 1).toInt from rfl), (show (qf 4).toInt = (qf 4).toInt from rfl), (show (qf 5).toInt = (qf 5).toInt from rfl), (show (qf 6).toInt = (qf 6).toInt from rfl), (show (qf 7).toInt = (qf 7).toInt from rfl), (show (qf 10).toInt = (qf 10).toInt from rfl), (show (qf 11).toInt = (qf 11).toInt from rfl), (show (qf 12).toInt = (qf 12).toInt from rfl), (show (qf 13).toInt = (qf 13).toInt from rfl), (show (qf 14).toInt = (qf 14).toInt from rfl), (show (qf 21).toInt = (qf 21).toInt from rfl), (show (qf 23).toInt = (qf 23).toInt from rfl), (show (qf 24).toInt = (qf 24).toInt from rfl)⟩) d_Mpr_perform_198
    · simp only [List.mem_cons, List.not_mem_nil, or_false] at c37
      refine lv_aload_n S.x S.b d_Mpr_perform_312 rfl (lv_at hl 5 rfl) ?_
      refine lv_iload_n S.x S.b d_Mpr_perform_313 rfl (lv_at hl 3 rfl) ?_
      refine lv_iload S.x S.b d_Mpr_perform_314 (lv_at hl 2 rfl) ?_
      refine lv_iload_n S.x S.b d_Mpr_perform_316 rfl (lv_at hl 6 rfl) ?_
      refine lv_bipush (v := 25) S.x S.b d_Mpr_perform_317 (by decide) ?_
      refine lv_ishr S.x S.b d_Mpr_perform_319 ?_
      refine lv_topi (fun z112 ez112 => ?_)
      have tz112 : z112.toInt = p0.toInt / 33554432 := by rw [ez112]; exact i_shr p0 25 (k := 25) (d := 33554432) (by decide) (by decide)
      have lz112 := Int32.le_toInt z112
      have uz112 := Int32.toInt_lt z112
      refine lv_bipush (v := 32) S.x S.b d_Mpr_perform_320 (by decide) ?_
      refine lv_imul S.x S.b d_Mpr_perform_322 ?_
      refine lv_topi (fun z113 ez113 => ?_)
      have lz113 := Int32.le_toInt z113
      have uz113 := Int32.toInt_lt z113
      refine lv_iadd S.x S.b d_Mpr_perform_323 ?_
      refine lv_topi (fun z114 ez114 => ?_)
      have tz114 : z114.toInt = (z10.toInt + z113.toInt + 2147483648) % 4294967296 - 2147483648 := by rw [ez114]; exact i_add z10 z113
      have lz114 := Int32.le_toInt z114
      have uz114 := Int32.toInt_lt z114
      try replace tz114 : z114.toInt = z10.toInt + z113.toInt := by omega
      refine lv_iload_n S.x S.b d_Mpr_perform_324 rfl (lv_at hl 4 rfl) ?_
      refine lv_iadd S.x S.b d_Mpr_perform_325 ?_
      refine lv_topi (fun z115 ez115 => ?_)
      have tz115 : z115.toInt = (z114.toInt + v2.toInt + 2147483648) % 4294967296 - 2147483648 := by rw [ez115]; exact i_add z114 v2
      have lz115 := Int32.le_toInt z115
      have uz115 := Int32.toInt_lt z115
      try replace tz115 : z115.toInt = z114.toInt + v2.toInt := by omega
      refine lv_iload S.x S.b d_Mpr_perform_326 (lv_at hl 1 rfl) ?_
      refine px_calli (pr := []) (px_runV (As := [.int v5, .int z115, .int z14]) (rest := []) S (c_mr_store l D cs (0 : Int) q qr qg qf qa h r g tf ta pf na ma wa cf ca ef ea xf xa v5 z115 z14  (show 0 ≤ (xf 68).toInt from by first | exact g0 | omega) (show (xf 68).toInt ≤ 512 from by first | exact g1 | omega) _) hT (pr := []) (pcs := [wd_Mpr cs q qr (fun k => if k = 0 then (some h) else none) qf qa qg, wdP cs h r g tf ta pf na ma wa cf ca ef ea xf xa]) hw (oX_call (P := (fun A U H => (oP A g U H))) (pr := []) oG_P hw hA hP) (px_recv hT hw 0 0 rfl rfl rfl) m14_1 m13_238 m14_0 ms_15_9 m1_22 q_Mpr_store ⟨Nat.le_of_ble_eq_true rfl, Nat.le_of_ble_eq_true rfl⟩ hl.1 rfl (Nat.le_of_ble_eq_true rfl) d_Mpr_perform_328 ⟨Nat.le_of_ble_eq_true rfl, Nat.le_of_ble_eq_true rfl⟩) hw hA (fun v121 p120 H locs hp120 hw => ?_)
      obtain ⟨qf118, qa119, rfl, e122, e123, e124, e125, e126, e127, e128, e129, e130, e131, e132, e133, e134, e135⟩ := hp120
      replace e122 : (qf118 2).toInt = (qf 2).toInt ∨ (qf118 2).toInt = 7 := e122
      replace e123 : (qf118 1).toInt = (qf 1).toInt := e123
      replace e124 : (qf118 4).toInt = (qf 4).toInt := e124
      replace e125 : (qf118 5).toInt = (qf 5).toInt := e125
      replace e126 : (qf118 6).toInt = (qf 6).toInt := e126
      replace e127 : (qf118 7).toInt = (qf 7).toInt := e127
      replace e128 : (qf118 10).toInt = (qf 10).toInt := e128
      replace e129 : (qf118 11).toInt = (qf 11).toInt := e129
      replace e130 : (qf118 12).toInt = (qf 12).toInt := e130
      replace e131 : (qf118 13).toInt = (qf 13).toInt := e131
      replace e132 : (qf118 14).toInt = (qf 14).toInt := e132
      replace e133 : (qf118 21).toInt = (qf 21).toInt := e133
      replace e134 : (qf118 23).toInt = (qf 23).toInt := e134
      replace e135 : (qf118 24).toInt = (qf 24).toInt := e135
      replace hw : pw D A s.heap H locs [wd_Mpr cs q qr (fun k => if k = 0 then (some h) else none) qf118 qa119 qg, wdP cs h r g tf ta pf na ma wa cf ca ef ea xf xa] := hw
      have lv121 := Int32.le_toInt v121
      have uv121 := Int32.toInt_lt v121
      exact px_iret (v := v121) S hr rfl hlk hAe hw (Nat.le_of_ble_eq_true rfl) (Nat.le_of_ble_eq_true rfl) (⟨qf118, qa119, rfl, (show (qf118 2).toInt = (qf 2).toInt ∨ (qf118 2).toInt = 7 from by first | exact e122 | omega), (show (qf118 1).toInt = (qf 1).toInt from by first | exact e123 | omega), (show (qf118 4).toInt = (qf 4).toInt from by first | exact e124 | omega), (show (qf118 5).toInt = (qf 5).toInt from by first | exact e125 | omega), (show (qf118 6).toInt = (qf 6).toInt from by first | exact e126 | omega), (show (qf118 7).toInt = (qf 7).toInt from by first | exact e127 | omega), (show (qf118 10).toInt = (qf 10).toInt from by first | exact e128 | omega), (show (qf118 11).toInt = (qf 11).toInt from by first | exact e129 | omega), (show (qf118 12).toInt = (qf 12).toInt from by first | exact e130 | omega), (show (qf118 13).toInt = (qf 13).toInt from by first | exact e131 | omega), (show (qf118 14).toInt = (qf 14).toInt from by first | exact e132 | omega), (show (qf118 21).toInt = (qf 21).toInt from by first | exact e133 | omega), (show (qf118 23).toInt = (qf 23).toInt from by first | exact e134 | omega), (show (qf118 24).toInt = (qf 24).toInt from by first | exact e135 | omega)⟩) d_Mpr_perform_331
    · simp only [List.mem_cons, List.not_mem_nil, or_false] at c37
      refine lv_aload_n S.x S.b d_Mpr_perform_344 rfl (lv_at hl 5 rfl) ?_
      refine lv_iload_n S.x S.b d_Mpr_perform_345 rfl (lv_at hl 6 rfl) ?_
      refine lv_iload_n S.x S.b d_Mpr_perform_346 rfl (lv_at hl 3 rfl) ?_
      refine lv_iload_n S.x S.b d_Mpr_perform_347 rfl (lv_at hl 4 rfl) ?_
      refine lv_iload S.x S.b d_Mpr_perform_348 (lv_at hl 2 rfl) ?_
      refine lv_iload S.x S.b d_Mpr_perform_350 (lv_at hl 1 rfl) ?_
      refine px_calli (pr := []) (px_runV (As := [.int p0, .int v5, .int v2, .int z10, .int z14]) (rest := []) S (c_mr_withTwo l D cs (0 : Int) q qr qg qf qa h r g tf ta pf na ma wa cf ca ef ea xf xa p0 v5 v2 z10 z14  (show 0 ≤ v2.toInt from by first | exact oz_befba0f6bd e3 | omega) (show v2.toInt < 32 from by first | exact oz_80c12faf1e e3 | omega) _) hT (pr := []) (pcs := [wd_Mpr cs q qr (fun k => if k = 0 then (some h) else none) qf qa qg, wdP cs h r g tf ta pf na ma wa cf ca ef ea xf xa]) hw (oX_call (P := (fun A U H => (oP A g U H))) (pr := []) oG_P hw hA hP) (px_recv hT hw 0 0 rfl rfl rfl) m14_23 m14_20 m14_22 ms_15_11 m1_22 q_Mpr_withTwo ⟨Nat.le_of_ble_eq_true rfl, Nat.le_of_ble_eq_true rfl⟩ hl.1 rfl (Nat.le_of_ble_eq_true rfl) d_Mpr_perform_352 ⟨Nat.le_of_ble_eq_true rfl, Nat.le_of_ble_eq_true rfl⟩) hw hA (fun v141 p140 H locs hp140 hw => ?_)
      obtain ⟨qf138, qa139, rfl, e142, e143, e144, e145, e146, e147, e148, e149, e150, e151, e152, e153, e154, e155⟩ := hp140
      replace e142 : (qf138 2).toInt = (qf 2).toInt ∨ (qf138 2).toInt = 7 := e142
      replace e143 : (qf138 1).toInt = (qf 1).toInt := e143
      replace e144 : (qf138 4).toInt = (qf 4).toInt := e144
      replace e145 : (qf138 5).toInt = (qf 5).toInt := e145
      replace e146 : (qf138 6).toInt = (qf 6).toInt := e146
      replace e147 : (qf138 7).toInt = (qf 7).toInt := e147
      replace e148 : (qf138 10).toInt = (qf 10).toInt := e148
      replace e149 : (qf138 11).toInt = (qf 11).toInt := e149
      replace e150 : (qf138 12).toInt = (qf 12).toInt := e150
      replace e151 : (qf138 13).toInt = (qf 13).toInt := e151
      replace e152 : (qf138 14).toInt = (qf 14).toInt := e152
      replace e153 : (qf138 21).toInt = (qf 21).toInt := e153
      replace e154 : (qf138 23).toInt = (qf 23).toInt := e154
      replace e155 : (qf138 24).toInt = (qf 24).toInt := e155
      replace hw : pw D A s.heap H locs [wd_Mpr cs q qr (fun k => if k = 0 then (some h) else none) qf138 qa139 qg, wdP cs h r g tf ta pf na ma wa cf ca ef ea xf xa] := hw
      have lv141 := Int32.le_toInt v141
      have uv141 := Int32.toInt_lt v141
      exact px_iret (v := v141) S hr rfl hlk hAe hw (Nat.le_of_ble_eq_true rfl) (Nat.le_of_ble_eq_true rfl) (⟨qf138, qa139, rfl, (show (qf138 2).toInt = (qf 2).toInt ∨ (qf138 2).toInt = 7 from by first | exact e142 | omega), (show (qf138 1).toInt = (qf 1).toInt from by first | exact e143 | omega), (show (qf138 4).toInt = (qf 4).toInt from by first | exact e144 | omega), (show (qf138 5).toInt = (qf 5).toInt from by first | exact e145 | omega), (show (qf138 6).toInt = (qf 6).toInt from by first | exact e146 | omega), (show (qf138 7).toInt = (qf 7).toInt from by first | exact e147 | omega), (show (qf138 10).toInt = (qf 10).toInt from by first | exact e148 | omega), (show (qf138 11).toInt = (qf 11).toInt from by first | exact e149 | omega), (show (qf138 12).toInt = (qf 12).toInt from by first | exact e150 | omega), (show (qf138 13).toInt = (qf 13).toInt from by first | exact e151 | omega), (show (qf138 14).toInt = (qf 14).toInt from by first | exact e152 | omega), (show (qf138 21).toInt = (qf 21).toInt from by first | exact e153 | omega), (show (qf138 23).toInt = (qf 23).toInt from by first | exact e154 | omega), (show (qf138 24).toInt = (qf 24).toInt from by first | exact e155 | omega)⟩) d_Mpr_perform_355
    · simp only [List.mem_cons, List.not_mem_nil, or_false] at c37
      refine lv_aload_n S.x S.b d_Mpr_perform_152 rfl (lv_at hl 5 rfl) ?_
      refine lv_iload_n S.x S.b d_Mpr_perform_153 rfl (lv_at hl 4 rfl) ?_
      refine lv_iload_n S.x S.b d_Mpr_perform_154 rfl (lv_at hl 6 rfl) ?_
      refine lv_iload_n S.x S.b d_Mpr_perform_155 rfl (lv_at hl 6 rfl) ?_
      refine lv_iconst (v := 0) S.x S.b d_Mpr_perform_156 (by decide) ?_
      refine lv_bipush (v := 11) S.x S.b d_Mpr_perform_157 (by decide) ?_
      refine px_calli (pr := [wd_Mpr cs q qr (fun k => if k = 0 then (some h) else none) qf qa qg, wdP cs h r g tf ta pf na ma wa cf ca ef ea xf xa]) (px_runS (As := [.int p0, .int 0, .int 11]) (rest := [.int p0, .int v2, .ref q]) S (c_mr_bits l D cs  p0 0 11   _) hT (pr := [wd_Mpr cs q qr (fun k => if k = 0 then (some h) else none) qf qa qg, wdP cs h r g tf ta pf na ma wa cf ca ef ea xf xa]) (pcs := []) hw px_X.tt m13_212 m13_210 m13_211 m1_22 q_Mpr_bits ⟨Nat.le_of_ble_eq_true rfl, Nat.le_of_ble_eq_true rfl⟩ hl.1 rfl (Nat.le_of_ble_eq_true rfl) d_Mpr_perform_159 ⟨Nat.le_of_ble_eq_true rfl, Nat.le_of_ble_eq_true rfl⟩) hw hA (fun v157 p156 H locs hp156 hw => ?_)
      obtain ⟨rfl, e158⟩ := hp156
      replace e158 : (11 : Int) = (0 : Int) + 4 → 0 ≤ v157.toInt ∧ v157.toInt < 32 := e158
      replace hw : pw D A s.heap H locs [wd_Mpr cs q qr (fun k => if k = 0 then (some h) else none) qf qa qg, wdP cs h r g tf ta pf na ma wa cf ca ef ea xf xa] := hw
      have lv157 := Int32.le_toInt v157
      have uv157 := Int32.toInt_lt v157
      refine lv_isub S.x S.b d_Mpr_perform_162 ?_
      refine lv_topi (fun z159 ez159 => ?_)
      have tz159 : z159.toInt = (p0.toInt - v157.toInt + 2147483648) % 4294967296 - 2147483648 := by rw [ez159]; exact i_sub p0 v157
      have lz159 := Int32.le_toInt z159
      have uz159 := Int32.toInt_lt z159
      try replace tz159 : z159.toInt = p0.toInt - v157.toInt := by omega
      refine px_callv (pr := []) (px_runV (As := [.int v2, .int z159]) (rest := []) S (c_mr_set l D cs (0 : Int) q qr qg qf qa h r g tf ta pf na ma wa cf ca ef ea xf xa v2 z159  (show 0 ≤ v2.toInt from by first | exact oz_befba0f6bd e3 | omega) (show v2.toInt < 32 from by first | exact oz_80c12faf1e e3 | omega) _) hT (pr := []) (pcs := [wd_Mpr cs q qr (fun k => if k = 0 then (some h) else none) qf qa qg, wdP cs h r g tf ta pf na ma wa cf ca ef ea xf xa]) hw (oX_call (P := (fun A U H => (oP A g U H))) (pr := []) oG_P hw hA hP) (px_recv hT hw 0 0 rfl rfl rfl) m13_216 m13_213 m13_215 ms_15_4 m1_22 q_Mpr_set ⟨Nat.le_of_ble_eq_true rfl, Nat.le_of_ble_eq_true rfl⟩ hl.1 rfl (Nat.le_of_ble_eq_true rfl) d_Mpr_perform_163 ⟨Nat.le_of_ble_eq_true rfl, Nat.le_of_ble_eq_true rfl⟩) hw hA (fun p162 H locs hp162 hw => ?_)
      obtain ⟨qa161, rfl⟩ := hp162
      replace hw : pw D A s.heap H locs [wd_Mpr cs q qr (fun k => if k = 0 then (some h) else none) qf qa161 qg, wdP cs h r g tf ta pf na ma wa cf ca ef ea xf xa] := hw
      refine lv_aload_n S.x S.b d_Mpr_perform_166 rfl (lv_at hl 5 rfl) ?_
      refine px_get S k_Mpr hT hw 0 0 11 (v := .int (qf 11)) rfl rfl rfl (by decide) m11_2 d_Mpr_perform_167 ?_
      refine lv_iconst (v := 4) S.x S.b d_Mpr_perform_170 (by decide) ?_
      refine lv_iadd S.x S.b d_Mpr_perform_171 ?_
      have lr164 := Int32.le_toInt (qf 11)
      have ur164 := Int32.toInt_lt (qf 11)
      refine lv_topi (fun z165 ez165 => ?_)
      have tz165 : z165.toInt = ((qf 11).toInt + (4 : Int) + 2147483648) % 4294967296 - 2147483648 := by rw [ez165]; exact i_add (qf 11) 4
      have lz165 := Int32.le_toInt z165
      have uz165 := Int32.toInt_lt z165
      try replace tz165 : z165.toInt = (qf 11).toInt + (4 : Int) := by omega
      exact px_iret (v := z165) S hr rfl hlk hAe hw (Nat.le_of_ble_eq_true rfl) (Nat.le_of_ble_eq_true rfl) (⟨qf, qa161, rfl, (show (qf 2).toInt = (qf 2).toInt ∨ (qf 2).toInt = 7 from by first | with_reducible rfl | with_reducible assumption | omega), (show (qf 1).toInt = (qf 1).toInt from rfl), (show (qf 4).toInt = (qf 4).toInt from rfl), (show (qf 5).toInt = (qf 5).toInt from rfl), (show (qf 6).toInt = (qf 6).toInt from rfl), (show (qf 7).toInt = (qf 7).toInt from rfl), (show (qf 10).toInt = (qf 10).toInt from rfl), (show (qf 11).toInt = (qf 11).toInt from rfl), (show (qf 12).toInt = (qf 12).toInt from rfl), (show (qf 13).toInt = (qf 13).toInt from rfl), (show (qf 14).toInt = (qf 14).toInt from rfl), (show (qf 21).toInt = (qf 21).toInt from rfl), (show (qf 23).toInt = (qf 23).toInt from rfl), (show (qf 24).toInt = (qf 24).toInt from rfl)⟩) d_Mpr_perform_172
    · simp only [List.mem_cons, List.not_mem_nil, or_false] at c37
      refine lv_aload_n S.x S.b d_Mpr_perform_289 rfl (lv_at hl 5 rfl) ?_
      refine lv_iload_n S.x S.b d_Mpr_perform_290 rfl (lv_at hl 6 rfl) ?_
      refine lv_iload_n S.x S.b d_Mpr_perform_291 rfl (lv_at hl 3 rfl) ?_
      refine lv_iload S.x S.b d_Mpr_perform_292 (lv_at hl 2 rfl) ?_
      refine lv_iload S.x S.b d_Mpr_perform_294 (lv_at hl 1 rfl) ?_
      refine px_calli (pr := []) (px_runV (As := [.int p0, .int v5, .int z10, .int z14]) (rest := []) S (c_mr_branch l D cs (0 : Int) q qr qg qf qa h r g tf ta pf na ma wa cf ca ef ea xf xa p0 v5 z10 z14   _) hT (pr := []) (pcs := [wd_Mpr cs q qr (fun k => if k = 0 then (some h) else none) qf qa qg, wdP cs h r g tf ta pf na ma wa cf ca ef ea xf xa]) hw (oX_call (P := (fun A U H => (oP A g U H))) (pr := []) oG_P hw hA hP) (px_recv hT hw 0 0 rfl rfl rfl) m13_229 m13_226 m13_228 ms_15_7 m1_22 q_Mpr_branch ⟨Nat.le_of_ble_eq_true rfl, Nat.le_of_ble_eq_true rfl⟩ hl.1 rfl (Nat.le_of_ble_eq_true rfl) d_Mpr_perform_296 ⟨Nat.le_of_ble_eq_true rfl, Nat.le_of_ble_eq_true rfl⟩) hw hA (fun v171 p170 H locs hp170 hw => ?_)
      obtain ⟨qf168, qa169, rfl, e172, e173, e174, e175, e176, e177, e178, e179, e180, e181, e182, e183, e184, e185⟩ := hp170
      replace e172 : (qf168 2).toInt = (qf 2).toInt ∨ (qf168 2).toInt = 7 := e172
      replace e173 : (qf168 1).toInt = (qf 1).toInt := e173
      replace e174 : (qf168 4).toInt = (qf 4).toInt := e174
      replace e175 : (qf168 5).toInt = (qf 5).toInt := e175
      replace e176 : (qf168 6).toInt = (qf 6).toInt := e176
      replace e177 : (qf168 7).toInt = (qf 7).toInt := e177
      replace e178 : (qf168 10).toInt = (qf 10).toInt := e178
      replace e179 : (qf168 11).toInt = (qf 11).toInt := e179
      replace e180 : (qf168 12).toInt = (qf 12).toInt := e180
      replace e181 : (qf168 13).toInt = (qf 13).toInt := e181
      replace e182 : (qf168 14).toInt = (qf 14).toInt := e182
      replace e183 : (qf168 21).toInt = (qf 21).toInt := e183
      replace e184 : (qf168 23).toInt = (qf 23).toInt := e184
      replace e185 : (qf168 24).toInt = (qf 24).toInt := e185
      replace hw : pw D A s.heap H locs [wd_Mpr cs q qr (fun k => if k = 0 then (some h) else none) qf168 qa169 qg, wdP cs h r g tf ta pf na ma wa cf ca ef ea xf xa] := hw
      have lv171 := Int32.le_toInt v171
      have uv171 := Int32.toInt_lt v171
      exact px_iret (v := v171) S hr rfl hlk hAe hw (Nat.le_of_ble_eq_true rfl) (Nat.le_of_ble_eq_true rfl) (⟨qf168, qa169, rfl, (show (qf168 2).toInt = (qf 2).toInt ∨ (qf168 2).toInt = 7 from by first | exact e172 | omega), (show (qf168 1).toInt = (qf 1).toInt from by first | exact e173 | omega), (show (qf168 4).toInt = (qf 4).toInt from by first | exact e174 | omega), (show (qf168 5).toInt = (qf 5).toInt from by first | exact e175 | omega), (show (qf168 6).toInt = (qf 6).toInt from by first | exact e176 | omega), (show (qf168 7).toInt = (qf 7).toInt from by first | exact e177 | omega), (show (qf168 10).toInt = (qf 10).toInt from by first | exact e178 | omega), (show (qf168 11).toInt = (qf 11).toInt from by first | exact e179 | omega), (show (qf168 12).toInt = (qf 12).toInt from by first | exact e180 | omega), (show (qf168 13).toInt = (qf 13).toInt from by first | exact e181 | omega), (show (qf168 14).toInt = (qf 14).toInt from by first | exact e182 | omega), (show (qf168 21).toInt = (qf 21).toInt from by first | exact e183 | omega), (show (qf168 23).toInt = (qf 23).toInt from by first | exact e184 | omega), (show (qf168 24).toInt = (qf 24).toInt from by first | exact e185 | omega)⟩) d_Mpr_perform_299
    · simp only [List.mem_cons, List.not_mem_nil, or_false] at c37
      refine lv_iload S.x S.b d_Mpr_perform_255 (lv_at hl 2 rfl) ?_
      refine lv_iload S.x S.b d_Mpr_perform_257 (lv_at hl 0 rfl) ?_
      refine lv_iadd S.x S.b d_Mpr_perform_259 ?_
      refine lv_topi (fun z186 ez186 => ?_)
      have tz186 : z186.toInt = (z10.toInt + z15.toInt + 2147483648) % 4294967296 - 2147483648 := by rw [ez186]; exact i_add z10 z15
      have lz186 := Int32.le_toInt z186
      have uz186 := Int32.toInt_lt z186
      try replace tz186 : z186.toInt = z10.toInt + z15.toInt := by omega
      refine lv_istore (lv' := [(7, .int z186), (6, .int z15), (5, .int z14), (4, .int z10), (3, .int v5), (2, .int v2), (0, .ref q), (1, .int p0)]) S.x S.b d_Mpr_perform_260 hl (by decide) rfl (fun ls hl => ?_)
      refine lv_iload_n S.x S.b d_Mpr_perform_262 rfl (lv_at hl 4 rfl) ?_
      refine lv_if_ne (tgt := 284) S.x S.b d_Mpr_perform_263 (by decide) (fun c187 => ?_) (fun c187 => ?_)
      · have nc187 : ¬ v5.toInt = (0 : Int) := mt (i_eq (x := v5) (y := 0)).mpr c187
        refine lv_aload_n S.x S.b d_Mpr_perform_284 rfl (lv_at hl 6 rfl) ?_
        refine px_calli (pr := []) (px_runV (As := []) (rest := []) S (c_mr_bad l D cs (0 : Int) q qr qg qa qf h r g tf ta pf na ma wa cf ca ef ea xf xa    _) hT (pr := []) (pcs := [wd_Mpr cs q qr (fun k => if k = 0 then (some h) else none) qf qa qg, wdP cs h r g tf ta pf na ma wa cf ca ef ea xf xa]) hw (oX_call (P := (fun A U H => (oP A g U H))) (pr := []) oG_P hw hA hP) (px_recv hT hw 0 0 rfl rfl rfl) m13_225 m13_222 m13_224 ms_15_6 m1_22 q_Mpr_bad ⟨Nat.le_of_ble_eq_true rfl, Nat.le_of_ble_eq_true rfl⟩ hl.1 rfl (Nat.le_of_ble_eq_true rfl) d_Mpr_perform_285 ⟨Nat.le_of_ble_eq_true rfl, Nat.le_of_ble_eq_true rfl⟩) hw hA (fun v191 p190 H locs hp190 hw => ?_)
        obtain ⟨qf189, rfl, e192, e193, e194, e195, e196, e197, e198, e199, e200, e201, e202, e203, e204, e205⟩ := hp190
        replace e192 : (qf189 2).toInt = 7 := e192
        replace e193 : (qf189 1).toInt = (qf 1).toInt := e193
        replace e194 : (qf189 4).toInt = (qf 4).toInt := e194
        replace e195 : (qf189 5).toInt = (qf 5).toInt := e195
        replace e196 : (qf189 6).toInt = (qf 6).toInt := e196
        replace e197 : (qf189 7).toInt = (qf 7).toInt := e197
        replace e198 : (qf189 10).toInt = (qf 10).toInt := e198
        replace e199 : (qf189 11).toInt = (qf 11).toInt := e199
        replace e200 : (qf189 12).toInt = (qf 12).toInt := e200
        replace e201 : (qf189 13).toInt = (qf 13).toInt := e201
        replace e202 : (qf189 14).toInt = (qf 14).toInt := e202
        replace e203 : (qf189 21).toInt = (qf 21).toInt := e203
        replace e204 : (qf189 23).toInt = (qf 23).toInt := e204
        replace e205 : (qf189 24).toInt = (qf 24).toInt := e205
        replace hw : pw D A s.heap H locs [wd_Mpr cs q qr (fun k => if k = 0 then (some h) else none) qf189 qa qg, wdP cs h r g tf ta pf na ma wa cf ca ef ea xf xa] := hw
        have lv191 := Int32.le_toInt v191
        have uv191 := Int32.toInt_lt v191
        exact px_iret (v := v191) S hr rfl hlk hAe hw (Nat.le_of_ble_eq_true rfl) (Nat.le_of_ble_eq_true rfl) (⟨qf189, qa, rfl, (show (qf189 2).toInt = (qf 2).toInt ∨ (qf189 2).toInt = 7 from by first | with_reducible rfl | with_reducible assumption | omega), (show (qf189 1).toInt = (qf 1).toInt from by first | exact e193 | omega), (show (qf189 4).toInt = (qf 4).toInt from by first | exact e194 | omega), (show (qf189 5).toInt = (qf 5).toInt from by first | exact e195 | omega), (show (qf189 6).toInt = (qf 6).toInt from by first | exact e196 | omega), (show (qf189 7).toInt = (qf 7).toInt from by first | exact e197 | omega), (show (qf189 10).toInt = (qf 10).toInt from by first | exact e198 | omega), (show (qf189 11).toInt = (qf 11).toInt from by first | exact e199 | omega), (show (qf189 12).toInt = (qf 12).toInt from by first | exact e200 | omega), (show (qf189 13).toInt = (qf 13).toInt from by first | exact e201 | omega), (show (qf189 14).toInt = (qf 14).toInt from by first | exact e202 | omega), (show (qf189 21).toInt = (qf 21).toInt from by first | exact e203 | omega), (show (qf189 23).toInt = (qf 23).toInt from by first | exact e204 | omega), (show (qf189 24).toInt = (qf 24).toInt from by first | exact e205 | omega)⟩) d_Mpr_perform_288
      · have nc187 : v5.toInt = (0 : Int) := (i_eq (x := v5) (y := 0)).mp c187
        refine lv_aload_n S.x S.b d_Mpr_perform_266 rfl (lv_at hl 6 rfl) ?_
        refine lv_iload S.x S.b d_Mpr_perform_267 (lv_at hl 0 rfl) ?_
        refine lv_iload S.x S.b d_Mpr_perform_269 (lv_at hl 0 rfl) ?_
        refine lv_iconst (v := 0) S.x S.b d_Mpr_perform_271 (by decide) ?_
        refine lv_iconst (v := 0) S.x S.b d_Mpr_perform_272 (by decide) ?_
        refine px_calli (pr := [wd_Mpr cs q qr (fun k => if k = 0 then (some h) else none) qf qa qg, wdP cs h r g tf ta pf na ma wa cf ca ef ea xf xa]) (px_runS (As := [.int z186, .int 0, .int 0]) (rest := [.int z186, .ref q]) S (c_mr_bits l D cs  z186 0 0   _) hT (pr := [wd_Mpr cs q qr (fun k => if k = 0 then (some h) else none) qf qa qg, wdP cs h r g tf ta pf na ma wa cf ca ef ea xf xa]) (pcs := []) hw px_X.tt m13_212 m13_210 m13_211 m1_22 q_Mpr_bits ⟨Nat.le_of_ble_eq_true rfl, Nat.le_of_ble_eq_true rfl⟩ hl.1 rfl (Nat.le_of_ble_eq_true rfl) d_Mpr_perform_273 ⟨Nat.le_of_ble_eq_true rfl, Nat.le_of_ble_eq_true rfl⟩) hw hA (fun v207 p206 H locs hp206 hw => ?_)
        obtain ⟨rfl, e208⟩ := hp206
        replace e208 : (0 : Int) = (0 : Int) + 4 → 0 ≤ v207.toInt ∧ v207.toInt < 32 := e208
        replace hw : pw D A s.heap H locs [wd_Mpr cs q qr (fun k => if k = 0 then (some h) else none) qf qa qg, wdP cs h r g tf ta pf na ma wa cf ca ef ea xf xa] := hw
        have lv207 := Int32.le_toInt v207
        have uv207 := Int32.toInt_lt v207
        refine lv_isub S.x S.b d_Mpr_perform_276 ?_
        refine lv_topi (fun z209 ez209 => ?_)
        have tz209 : z209.toInt = (z186.toInt - v207.toInt + 2147483648) % 4294967296 - 2147483648 := by rw [ez209]; exact i_sub z186 v207
        have lz209 := Int32.le_toInt z209
        have uz209 := Int32.toInt_lt z209
        try replace tz209 : z209.toInt = z186.toInt - v207.toInt := by omega
        refine lv_iload_n S.x S.b d_Mpr_perform_277 rfl (lv_at hl 5 rfl) ?_
        refine px_calli (pr := []) (px_runV (As := [.int z209, .int v2]) (rest := []) S (c_mr_jump l D cs (0 : Int) q qr qg qf qa h r g tf ta pf na ma wa cf ca ef ea xf xa z209 v2  (show 0 ≤ v2.toInt from by first | exact oz_befba0f6bd e3 | omega) (show v2.toInt < 32 from by first | exact oz_80c12faf1e e3 | omega) _) hT (pr := []) (pcs := [wd_Mpr cs q qr (fun k => if k = 0 then (some h) else none) qf qa qg, wdP cs h r g tf ta pf na ma wa cf ca ef ea xf xa]) hw (oX_call (P := (fun A U H => (oP A g U H))) (pr := []) oG_P hw hA hP) (px_recv hT hw 0 0 rfl rfl rfl) m13_221 m13_218 m13_220 ms_15_5 m1_22 q_Mpr_jump ⟨Nat.le_of_ble_eq_true rfl, Nat.le_of_ble_eq_true rfl⟩ hl.1 rfl (Nat.le_of_ble_eq_true rfl) d_Mpr_perform_278 ⟨Nat.le_of_ble_eq_true rfl, Nat.le_of_ble_eq_true rfl⟩) hw hA (fun v215 p214 H locs hp214 hw => ?_)
        obtain ⟨qf212, qa213, rfl, e216, e217, e218, e219, e220, e221, e222, e223, e224, e225, e226, e227, e228, e229⟩ := hp214
        replace e216 : (qf212 2).toInt = (qf 2).toInt ∨ (qf212 2).toInt = 7 := e216
        replace e217 : (qf212 1).toInt = (qf 1).toInt := e217
        replace e218 : (qf212 4).toInt = (qf 4).toInt := e218
        replace e219 : (qf212 5).toInt = (qf 5).toInt := e219
        replace e220 : (qf212 6).toInt = (qf 6).toInt := e220
        replace e221 : (qf212 7).toInt = (qf 7).toInt := e221
        replace e222 : (qf212 10).toInt = (qf 10).toInt := e222
        replace e223 : (qf212 11).toInt = (qf 11).toInt := e223
        replace e224 : (qf212 12).toInt = (qf 12).toInt := e224
        replace e225 : (qf212 13).toInt = (qf 13).toInt := e225
        replace e226 : (qf212 14).toInt = (qf 14).toInt := e226
        replace e227 : (qf212 21).toInt = (qf 21).toInt := e227
        replace e228 : (qf212 23).toInt = (qf 23).toInt := e228
        replace e229 : (qf212 24).toInt = (qf 24).toInt := e229
        replace hw : pw D A s.heap H locs [wd_Mpr cs q qr (fun k => if k = 0 then (some h) else none) qf212 qa213 qg, wdP cs h r g tf ta pf na ma wa cf ca ef ea xf xa] := hw
        have lv215 := Int32.le_toInt v215
        have uv215 := Int32.toInt_lt v215
        refine lv_goto (tgt := 288) S.x S.b d_Mpr_perform_281 (by decide) ?_
        exact px_iret (v := v215) S hr rfl hlk hAe hw (Nat.le_of_ble_eq_true rfl) (Nat.le_of_ble_eq_true rfl) (⟨qf212, qa213, rfl, (show (qf212 2).toInt = (qf 2).toInt ∨ (qf212 2).toInt = 7 from by first | exact e216 | omega), (show (qf212 1).toInt = (qf 1).toInt from by first | exact e217 | omega), (show (qf212 4).toInt = (qf 4).toInt from by first | exact e218 | omega), (show (qf212 5).toInt = (qf 5).toInt from by first | exact e219 | omega), (show (qf212 6).toInt = (qf 6).toInt from by first | exact e220 | omega), (show (qf212 7).toInt = (qf 7).toInt from by first | exact e221 | omega), (show (qf212 10).toInt = (qf 10).toInt from by first | exact e222 | omega), (show (qf212 11).toInt = (qf 11).toInt from by first | exact e223 | omega), (show (qf212 12).toInt = (qf 12).toInt from by first | exact e224 | omega), (show (qf212 13).toInt = (qf 13).toInt from by first | exact e225 | omega), (show (qf212 14).toInt = (qf 14).toInt from by first | exact e226 | omega), (show (qf212 21).toInt = (qf 21).toInt from by first | exact e227 | omega), (show (qf212 23).toInt = (qf 23).toInt from by first | exact e228 | omega), (show (qf212 24).toInt = (qf 24).toInt from by first | exact e229 | omega)⟩) d_Mpr_perform_288
    · simp only [List.mem_cons, List.not_mem_nil, or_false] at c37
      refine lv_aload_n S.x S.b d_Mpr_perform_199 rfl (lv_at hl 5 rfl) ?_
      refine lv_aload_n S.x S.b d_Mpr_perform_200 rfl (lv_at hl 5 rfl) ?_
      refine px_get S k_Mpr hT hw 0 0 11 (v := .int (qf 11)) rfl rfl rfl (by decide) m11_2 d_Mpr_perform_201 ?_
      refine lv_iload_n S.x S.b d_Mpr_perform_204 rfl (lv_at hl 6 rfl) ?_
      refine lv_bipush (v := 31) S.x S.b d_Mpr_perform_205 (by decide) ?_
      refine lv_ishr S.x S.b d_Mpr_perform_207 ?_
      refine lv_topi (fun z230 ez230 => ?_)
      have tz230 : z230.toInt = p0.toInt / 2147483648 := by rw [ez230]; exact i_shr p0 31 (k := 31) (d := 2147483648) (by decide) (by decide)
      have lz230 := Int32.le_toInt z230
      have uz230 := Int32.toInt_lt z230
      refine lv_ldcw (v := 1048576) S.x S.b S.own (S.w m13_217) d_Mpr_perform_208 ?_
      refine lv_imul S.x S.b d_Mpr_perform_211 ?_
      refine lv_topi (fun z231 ez231 => ?_)
      have lz231 := Int32.le_toInt z231
      have uz231 := Int32.toInt_lt z231
      refine lv_iadd S.x S.b d_Mpr_perform_212 ?_
      have lr232 := Int32.le_toInt (qf 11)
      have ur232 := Int32.toInt_lt (qf 11)
      refine lv_topi (fun z233 ez233 => ?_)
      have tz233 : z233.toInt = ((qf 11).toInt + z231.toInt + 2147483648) % 4294967296 - 2147483648 := by rw [ez233]; exact i_add (qf 11) z231
      have lz233 := Int32.le_toInt z233
      have uz233 := Int32.toInt_lt z233
      try replace tz233 : z233.toInt = (qf 11).toInt + z231.toInt := by omega
      refine lv_iload_n S.x S.b d_Mpr_perform_213 rfl (lv_at hl 6 rfl) ?_
      refine lv_bipush (v := 12) S.x S.b d_Mpr_perform_214 (by decide) ?_
      refine lv_bipush (v := 19) S.x S.b d_Mpr_perform_216 (by decide) ?_
      refine px_calli (pr := [wd_Mpr cs q qr (fun k => if k = 0 then (some h) else none) qf qa qg, wdP cs h r g tf ta pf na ma wa cf ca ef ea xf xa]) (px_runS (As := [.int p0, .int 12, .int 19]) (rest := [.int z233, .ref q]) S (c_mr_bits l D cs  p0 12 19   _) hT (pr := [wd_Mpr cs q qr (fun k => if k = 0 then (some h) else none) qf qa qg, wdP cs h r g tf ta pf na ma wa cf ca ef ea xf xa]) (pcs := []) hw px_X.tt m13_212 m13_210 m13_211 m1_22 q_Mpr_bits ⟨Nat.le_of_ble_eq_true rfl, Nat.le_of_ble_eq_true rfl⟩ hl.1 rfl (Nat.le_of_ble_eq_true rfl) d_Mpr_perform_218 ⟨Nat.le_of_ble_eq_true rfl, Nat.le_of_ble_eq_true rfl⟩) hw hA (fun v235 p234 H locs hp234 hw => ?_)
      obtain ⟨rfl, e236⟩ := hp234
      replace e236 : (19 : Int) = (12 : Int) + 4 → 0 ≤ v235.toInt ∧ v235.toInt < 32 := e236
      replace hw : pw D A s.heap H locs [wd_Mpr cs q qr (fun k => if k = 0 then (some h) else none) qf qa qg, wdP cs h r g tf ta pf na ma wa cf ca ef ea xf xa] := hw
      have lv235 := Int32.le_toInt v235
      have uv235 := Int32.toInt_lt v235
      refine lv_sipush (v := 4096) S.x S.b d_Mpr_perform_221 (by decide) ?_
      refine lv_imul S.x S.b d_Mpr_perform_224 ?_
      refine lv_topi (fun z237 ez237 => ?_)
      have lz237 := Int32.le_toInt z237
      have uz237 := Int32.toInt_lt z237
      refine lv_iadd S.x S.b d_Mpr_perform_225 ?_
      refine lv_topi (fun z238 ez238 => ?_)
      have tz238 : z238.toInt = (z233.toInt + z237.toInt + 2147483648) % 4294967296 - 2147483648 := by rw [ez238]; exact i_add z233 z237
      have lz238 := Int32.le_toInt z238
      have uz238 := Int32.toInt_lt z238
      try replace tz238 : z238.toInt = z233.toInt + z237.toInt := by omega
      refine lv_iload_n S.x S.b d_Mpr_perform_226 rfl (lv_at hl 6 rfl) ?_
      refine lv_bipush (v := 20) S.x S.b d_Mpr_perform_227 (by decide) ?_
      refine lv_bipush (v := 20) S.x S.b d_Mpr_perform_229 (by decide) ?_
      refine px_calli (pr := [wd_Mpr cs q qr (fun k => if k = 0 then (some h) else none) qf qa qg, wdP cs h r g tf ta pf na ma wa cf ca ef ea xf xa]) (px_runS (As := [.int p0, .int 20, .int 20]) (rest := [.int z238, .ref q]) S (c_mr_bits l D cs  p0 20 20   _) hT (pr := [wd_Mpr cs q qr (fun k => if k = 0 then (some h) else none) qf qa qg, wdP cs h r g tf ta pf na ma wa cf ca ef ea xf xa]) (pcs := []) hw px_X.tt m13_212 m13_210 m13_211 m1_22 q_Mpr_bits ⟨Nat.le_of_ble_eq_true rfl, Nat.le_of_ble_eq_true rfl⟩ hl.1 rfl (Nat.le_of_ble_eq_true rfl) d_Mpr_perform_231 ⟨Nat.le_of_ble_eq_true rfl, Nat.le_of_ble_eq_true rfl⟩) hw hA (fun v240 p239 H locs hp239 hw => ?_)
      obtain ⟨rfl, e241⟩ := hp239
      replace e241 : (20 : Int) = (20 : Int) + 4 → 0 ≤ v240.toInt ∧ v240.toInt < 32 := e241
      replace hw : pw D A s.heap H locs [wd_Mpr cs q qr (fun k => if k = 0 then (some h) else none) qf qa qg, wdP cs h r g tf ta pf na ma wa cf ca ef ea xf xa] := hw
      have lv240 := Int32.le_toInt v240
      have uv240 := Int32.toInt_lt v240
      refine lv_sipush (v := 2048) S.x S.b d_Mpr_perform_234 (by decide) ?_
      refine lv_imul S.x S.b d_Mpr_perform_237 ?_
      refine lv_topi (fun z242 ez242 => ?_)
      have lz242 := Int32.le_toInt z242
      have uz242 := Int32.toInt_lt z242
      refine lv_iadd S.x S.b d_Mpr_perform_238 ?_
      refine lv_topi (fun z243 ez243 => ?_)
      have tz243 : z243.toInt = (z238.toInt + z242.toInt + 2147483648) % 4294967296 - 2147483648 := by rw [ez243]; exact i_add z238 z242
      have lz243 := Int32.le_toInt z243
      have uz243 := Int32.toInt_lt z243
      try replace tz243 : z243.toInt = z238.toInt + z242.toInt := by omega
      refine lv_iload_n S.x S.b d_Mpr_perform_239 rfl (lv_at hl 6 rfl) ?_
      refine lv_bipush (v := 21) S.x S.b d_Mpr_perform_240 (by decide) ?_
      refine lv_bipush (v := 30) S.x S.b d_Mpr_perform_242 (by decide) ?_
      refine px_calli (pr := [wd_Mpr cs q qr (fun k => if k = 0 then (some h) else none) qf qa qg, wdP cs h r g tf ta pf na ma wa cf ca ef ea xf xa]) (px_runS (As := [.int p0, .int 21, .int 30]) (rest := [.int z243, .ref q]) S (c_mr_bits l D cs  p0 21 30   _) hT (pr := [wd_Mpr cs q qr (fun k => if k = 0 then (some h) else none) qf qa qg, wdP cs h r g tf ta pf na ma wa cf ca ef ea xf xa]) (pcs := []) hw px_X.tt m13_212 m13_210 m13_211 m1_22 q_Mpr_bits ⟨Nat.le_of_ble_eq_true rfl, Nat.le_of_ble_eq_true rfl⟩ hl.1 rfl (Nat.le_of_ble_eq_true rfl) d_Mpr_perform_244 ⟨Nat.le_of_ble_eq_true rfl, Nat.le_of_ble_eq_true rfl⟩) hw hA (fun v245 p244 H locs hp244 hw => ?_)
      obtain ⟨rfl, e246⟩ := hp244
      replace e246 : (30 : Int) = (21 : Int) + 4 → 0 ≤ v245.toInt ∧ v245.toInt < 32 := e246
      replace hw : pw D A s.heap H locs [wd_Mpr cs q qr (fun k => if k = 0 then (some h) else none) qf qa qg, wdP cs h r g tf ta pf na ma wa cf ca ef ea xf xa] := hw
      have lv245 := Int32.le_toInt v245
      have uv245 := Int32.toInt_lt v245
      refine lv_iconst (v := 2) S.x S.b d_Mpr_perform_247 (by decide) ?_
      refine lv_imul S.x S.b d_Mpr_perform_248 ?_
      refine lv_topi (fun z247 ez247 => ?_)
      have lz247 := Int32.le_toInt z247
      have uz247 := Int32.toInt_lt z247
      refine lv_iadd S.x S.b d_Mpr_perform_249 ?_
      refine lv_topi (fun z248 ez248 => ?_)
      have tz248 : z248.toInt = (z243.toInt + z247.toInt + 2147483648) % 4294967296 - 2147483648 := by rw [ez248]; exact i_add z243 z247
      have lz248 := Int32.le_toInt z248
      have uz248 := Int32.toInt_lt z248
      try replace tz248 : z248.toInt = z243.toInt + z247.toInt := by omega
      refine lv_iload_n S.x S.b d_Mpr_perform_250 rfl (lv_at hl 4 rfl) ?_
      refine px_calli (pr := []) (px_runV (As := [.int z248, .int v2]) (rest := []) S (c_mr_jump l D cs (0 : Int) q qr qg qf qa h r g tf ta pf na ma wa cf ca ef ea xf xa z248 v2  (show 0 ≤ v2.toInt from by first | exact oz_befba0f6bd e3 | omega) (show v2.toInt < 32 from by first | exact oz_80c12faf1e e3 | omega) _) hT (pr := []) (pcs := [wd_Mpr cs q qr (fun k => if k = 0 then (some h) else none) qf qa qg, wdP cs h r g tf ta pf na ma wa cf ca ef ea xf xa]) hw (oX_call (P := (fun A U H => (oP A g U H))) (pr := []) oG_P hw hA hP) (px_recv hT hw 0 0 rfl rfl rfl) m13_221 m13_218 m13_220 ms_15_5 m1_22 q_Mpr_jump ⟨Nat.le_of_ble_eq_true rfl, Nat.le_of_ble_eq_true rfl⟩ hl.1 rfl (Nat.le_of_ble_eq_true rfl) d_Mpr_perform_251 ⟨Nat.le_of_ble_eq_true rfl, Nat.le_of_ble_eq_true rfl⟩) hw hA (fun v254 p253 H locs hp253 hw => ?_)
      obtain ⟨qf251, qa252, rfl, e255, e256, e257, e258, e259, e260, e261, e262, e263, e264, e265, e266, e267, e268⟩ := hp253
      replace e255 : (qf251 2).toInt = (qf 2).toInt ∨ (qf251 2).toInt = 7 := e255
      replace e256 : (qf251 1).toInt = (qf 1).toInt := e256
      replace e257 : (qf251 4).toInt = (qf 4).toInt := e257
      replace e258 : (qf251 5).toInt = (qf 5).toInt := e258
      replace e259 : (qf251 6).toInt = (qf 6).toInt := e259
      replace e260 : (qf251 7).toInt = (qf 7).toInt := e260
      replace e261 : (qf251 10).toInt = (qf 10).toInt := e261
      replace e262 : (qf251 11).toInt = (qf 11).toInt := e262
      replace e263 : (qf251 12).toInt = (qf 12).toInt := e263
      replace e264 : (qf251 13).toInt = (qf 13).toInt := e264
      replace e265 : (qf251 14).toInt = (qf 14).toInt := e265
      replace e266 : (qf251 21).toInt = (qf 21).toInt := e266
      replace e267 : (qf251 23).toInt = (qf 23).toInt := e267
      replace e268 : (qf251 24).toInt = (qf 24).toInt := e268
      replace hw : pw D A s.heap H locs [wd_Mpr cs q qr (fun k => if k = 0 then (some h) else none) qf251 qa252 qg, wdP cs h r g tf ta pf na ma wa cf ca ef ea xf xa] := hw
      have lv254 := Int32.le_toInt v254
      have uv254 := Int32.toInt_lt v254
      exact px_iret (v := v254) S hr rfl hlk hAe hw (Nat.le_of_ble_eq_true rfl) (Nat.le_of_ble_eq_true rfl) (⟨qf251, qa252, rfl, (show (qf251 2).toInt = (qf 2).toInt ∨ (qf251 2).toInt = 7 from by first | exact e255 | omega), (show (qf251 1).toInt = (qf 1).toInt from by first | exact e256 | omega), (show (qf251 4).toInt = (qf 4).toInt from by first | exact e257 | omega), (show (qf251 5).toInt = (qf 5).toInt from by first | exact e258 | omega), (show (qf251 6).toInt = (qf 6).toInt from by first | exact e259 | omega), (show (qf251 7).toInt = (qf 7).toInt from by first | exact e260 | omega), (show (qf251 10).toInt = (qf 10).toInt from by first | exact e261 | omega), (show (qf251 11).toInt = (qf 11).toInt from by first | exact e262 | omega), (show (qf251 12).toInt = (qf 12).toInt from by first | exact e263 | omega), (show (qf251 13).toInt = (qf 13).toInt from by first | exact e264 | omega), (show (qf251 14).toInt = (qf 14).toInt from by first | exact e265 | omega), (show (qf251 21).toInt = (qf 21).toInt from by first | exact e266 | omega), (show (qf251 23).toInt = (qf 23).toInt from by first | exact e267 | omega), (show (qf251 24).toInt = (qf 24).toInt from by first | exact e268 | omega)⟩) d_Mpr_perform_254
abbrev b_Mpr_rawStep : ByteArray := prog_15_method_32_code
def y_Mpr_rawStep : MethodName := ⟨"HomeSystemModel$Process", "rawStep", "()Z"⟩
theorem d_Mpr_rawStep_0 : decode b_Mpr_rawStep 0 = .ok (.aload_n 0, 1) := by decide +kernel
theorem d_Mpr_rawStep_1 : decode b_Mpr_rawStep 1 = .ok (.getfield 88, 3) := by decide +kernel
theorem d_Mpr_rawStep_4 : decode b_Mpr_rawStep 4 = .ok (.ifCond .ne 11, 3) := by decide +kernel
theorem d_Mpr_rawStep_7 : decode b_Mpr_rawStep 7 = .ok (.aload_n 0, 1) := by decide +kernel
theorem d_Mpr_rawStep_8 : decode b_Mpr_rawStep 8 = .ok (.iconst 5, 1) := by decide +kernel
theorem d_Mpr_rawStep_9 : decode b_Mpr_rawStep 9 = .ok (.iconst 0, 1) := by decide +kernel
theorem d_Mpr_rawStep_10 : decode b_Mpr_rawStep 10 = .ok (.invokevirtual 134, 3) := by decide +kernel
theorem d_Mpr_rawStep_13 : decode b_Mpr_rawStep 13 = .ok (.iconst 0, 1) := by decide +kernel
theorem d_Mpr_rawStep_14 : decode b_Mpr_rawStep 14 = .ok (.ireturn, 1) := by decide +kernel
theorem d_Mpr_rawStep_15 : decode b_Mpr_rawStep 15 = .ok (.aload_n 0, 1) := by decide +kernel
theorem d_Mpr_rawStep_16 : decode b_Mpr_rawStep 16 = .ok (.aload_n 0, 1) := by decide +kernel
theorem d_Mpr_rawStep_17 : decode b_Mpr_rawStep 17 = .ok (.getfield 95, 3) := by decide +kernel
theorem d_Mpr_rawStep_20 : decode b_Mpr_rawStep 20 = .ok (.invokevirtual 246, 3) := by decide +kernel
theorem d_Mpr_rawStep_23 : decode b_Mpr_rawStep 23 = .ok (.ifCond .eq 12, 3) := by decide +kernel
theorem d_Mpr_rawStep_26 : decode b_Mpr_rawStep 26 = .ok (.aload_n 0, 1) := by decide +kernel
theorem d_Mpr_rawStep_27 : decode b_Mpr_rawStep 27 = .ok (.getfield 95, 3) := by decide +kernel
theorem d_Mpr_rawStep_30 : decode b_Mpr_rawStep 30 = .ok (.iconst 4, 1) := by decide +kernel
theorem d_Mpr_rawStep_31 : decode b_Mpr_rawStep 31 = .ok (.irem, 1) := by decide +kernel
theorem d_Mpr_rawStep_32 : decode b_Mpr_rawStep 32 = .ok (.ifCond .eq 9, 3) := by decide +kernel
theorem d_Mpr_rawStep_35 : decode b_Mpr_rawStep 35 = .ok (.aload_n 0, 1) := by decide +kernel
theorem d_Mpr_rawStep_36 : decode b_Mpr_rawStep 36 = .ok (.invokevirtual 255, 3) := by decide +kernel
theorem d_Mpr_rawStep_39 : decode b_Mpr_rawStep 39 = .ok (.iconst 0, 1) := by decide +kernel
theorem d_Mpr_rawStep_40 : decode b_Mpr_rawStep 40 = .ok (.ireturn, 1) := by decide +kernel
theorem d_Mpr_rawStep_41 : decode b_Mpr_rawStep 41 = .ok (.aload_n 0, 1) := by decide +kernel
theorem d_Mpr_rawStep_42 : decode b_Mpr_rawStep 42 = .ok (.aload_n 0, 1) := by decide +kernel
theorem d_Mpr_rawStep_43 : decode b_Mpr_rawStep 43 = .ok (.getfield 95, 3) := by decide +kernel
theorem d_Mpr_rawStep_46 : decode b_Mpr_rawStep 46 = .ok (.invokevirtual 258, 3) := by decide +kernel
theorem d_Mpr_rawStep_49 : decode b_Mpr_rawStep 49 = .ok (.istore_n 1, 1) := by decide +kernel
theorem d_Mpr_rawStep_50 : decode b_Mpr_rawStep 50 = .ok (.iload_n 1, 1) := by decide +kernel
theorem d_Mpr_rawStep_51 : decode b_Mpr_rawStep 51 = .ok (.bipush 115, 2) := by decide +kernel
theorem d_Mpr_rawStep_53 : decode b_Mpr_rawStep 53 = .ok (.if_icmp .ne 5, 3) := by decide +kernel
theorem d_Mpr_rawStep_56 : decode b_Mpr_rawStep 56 = .ok (.iconst 1, 1) := by decide +kernel
theorem d_Mpr_rawStep_57 : decode b_Mpr_rawStep 57 = .ok (.ireturn, 1) := by decide +kernel
theorem d_Mpr_rawStep_58 : decode b_Mpr_rawStep 58 = .ok (.aload_n 0, 1) := by decide +kernel
theorem d_Mpr_rawStep_59 : decode b_Mpr_rawStep 59 = .ok (.iload_n 1, 1) := by decide +kernel
theorem d_Mpr_rawStep_60 : decode b_Mpr_rawStep 60 = .ok (.invokevirtual 261, 3) := by decide +kernel
theorem d_Mpr_rawStep_63 : decode b_Mpr_rawStep 63 = .ok (.istore_n 2, 1) := by decide +kernel
theorem d_Mpr_rawStep_64 : decode b_Mpr_rawStep 64 = .ok (.aload_n 0, 1) := by decide +kernel
theorem d_Mpr_rawStep_65 : decode b_Mpr_rawStep 65 = .ok (.getfield 48, 3) := by decide +kernel
theorem d_Mpr_rawStep_68 : decode b_Mpr_rawStep 68 = .ok (.bipush (-2), 2) := by decide +kernel
theorem d_Mpr_rawStep_70 : decode b_Mpr_rawStep 70 = .ok (.if_icmp .ne 18, 3) := by decide +kernel
theorem d_Mpr_rawStep_73 : decode b_Mpr_rawStep 73 = .ok (.aload_n 0, 1) := by decide +kernel
theorem d_Mpr_rawStep_74 : decode b_Mpr_rawStep 74 = .ok (.dup, 1) := by decide +kernel
theorem d_Mpr_rawStep_75 : decode b_Mpr_rawStep 75 = .ok (.getfield 88, 3) := by decide +kernel
theorem d_Mpr_rawStep_78 : decode b_Mpr_rawStep 78 = .ok (.iconst 1, 1) := by decide +kernel
theorem d_Mpr_rawStep_79 : decode b_Mpr_rawStep 79 = .ok (.isub, 1) := by decide +kernel
theorem d_Mpr_rawStep_80 : decode b_Mpr_rawStep 80 = .ok (.putfield 88, 3) := by decide +kernel
theorem d_Mpr_rawStep_83 : decode b_Mpr_rawStep 83 = .ok (.aload_n 0, 1) := by decide +kernel
theorem d_Mpr_rawStep_84 : decode b_Mpr_rawStep 84 = .ok (.iload_n 2, 1) := by decide +kernel
theorem d_Mpr_rawStep_85 : decode b_Mpr_rawStep 85 = .ok (.putfield 95, 3) := by decide +kernel
theorem d_Mpr_rawStep_88 : decode b_Mpr_rawStep 88 = .ok (.iconst 0, 1) := by decide +kernel
theorem d_Mpr_rawStep_89 : decode b_Mpr_rawStep 89 = .ok (.ireturn, 1) := by decide +kernel
theorem q_Mpr_rawStep : px_y y_Mpr_rawStep 0 := by unfold px_y; decide +kernel
