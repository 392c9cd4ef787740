theorem m4_7 : Cond.methodLink "HomeSystem$Tokens" 129 ⟨"java/lang/String", "indexOf", "(I)I"⟩ ∈ AL := AL_4 (List.mem_of_getElem? (i := 7) rfl) rfl
theorem m4_10 : Cond.code ⟨"java/lang/String", "indexOf", "(I)I"⟩ prog_31_method_79_code 2 (Option.some FieldType.int) ∈ AL := AL_4 (List.mem_of_getElem? (i := 10) rfl) rfl
theorem m4_8 : Cond.instanceMethod ⟨"java/lang/String", "indexOf", "(I)I"⟩ ∈ AL := AL_4 (List.mem_of_getElem? (i := 8) rfl) rfl
theorem m4_9 : Cond.selects "java/lang/String" ⟨"java/lang/String", "indexOf", "(I)I"⟩ ⟨"java/lang/String", "indexOf", "(I)I"⟩ ∈ AL := AL_4 (List.mem_of_getElem? (i := 9) rfl) rfl
theorem m4_65 : Cond.methodLink "HomeSystem$Tokens" 135 ⟨"HomeSystem$Tokens", "withEquals", "(I)I"⟩ ∈ AL := AL_4 (List.mem_of_getElem? (i := 65) rfl) rfl
theorem m4_67 : Cond.code ⟨"HomeSystem$Tokens", "withEquals", "(I)I"⟩ prog_12_method_21_code 1 (Option.some FieldType.int) ∈ AL := AL_4 (List.mem_of_getElem? (i := 67) rfl) rfl
theorem m4_66 : Cond.static ⟨"HomeSystem$Tokens", "withEquals", "(I)I"⟩ ∈ AL := AL_4 (List.mem_of_getElem? (i := 66) rfl) rfl
theorem m4_62 : Cond.methodLink "HomeSystem$Tokens" 132 ⟨"HomeSystem$Tokens", "doubled", "(I)I"⟩ ∈ AL := AL_4 (List.mem_of_getElem? (i := 62) rfl) rfl
theorem m4_64 : Cond.code ⟨"HomeSystem$Tokens", "doubled", "(I)I"⟩ prog_12_method_20_code 1 (Option.some FieldType.int) ∈ AL := AL_4 (List.mem_of_getElem? (i := 64) rfl) rfl
theorem m4_63 : Cond.static ⟨"HomeSystem$Tokens", "doubled", "(I)I"⟩ ∈ AL := AL_4 (List.mem_of_getElem? (i := 63) rfl) rfl
theorem m4_2 : Cond.methodLink "HomeSystem$Tokens" 105 ⟨"HomeSystem$Tokens", "mark", "(I)I"⟩ ∈ AL := AL_4 (List.mem_of_getElem? (i := 2) rfl) rfl
theorem m4_5 : Cond.code ⟨"HomeSystem$Tokens", "mark", "(I)I"⟩ prog_12_method_19_code 6 (Option.some FieldType.int) ∈ AL := AL_4 (List.mem_of_getElem? (i := 5) rfl) rfl
theorem ms_2_3 : Cond.selects "HomeSystem$Tokens" ⟨"HomeSystem$Tokens", "mark", "(I)I"⟩ ⟨"HomeSystem$Tokens", "mark", "(I)I"⟩ ∈ AL := AL_p (q := (⟨"HomeSystem$Tokens", "mark", "(I)I"⟩, 19)) (by unfold lw_privs; exact List.mem_append_right _ (List.mem_append_left _ (List.mem_of_getElem? (i := 3) rfl)))
theorem m4_4 : Cond.instanceMethod ⟨"HomeSystem$Tokens", "mark", "(I)I"⟩ ∈ AL := AL_4 (List.mem_of_getElem? (i := 4) rfl) rfl
theorem m3_238 : Cond.methodLink "HomeSystem$Tokens" 102 ⟨"HomeSystem$Tokens", "string", "()I"⟩ ∈ AL := AL_3 (List.mem_of_getElem? (i := 238) rfl) rfl
theorem m4_1 : Cond.code ⟨"HomeSystem$Tokens", "string", "()I"⟩ prog_12_method_18_code 4 (Option.some FieldType.int) ∈ AL := AL_4 (List.mem_of_getElem? (i := 1) rfl) rfl
theorem ms_2_2 : Cond.selects "HomeSystem$Tokens" ⟨"HomeSystem$Tokens", "string", "()I"⟩ ⟨"HomeSystem$Tokens", "string", "()I"⟩ ∈ AL := AL_p (q := (⟨"HomeSystem$Tokens", "string", "()I"⟩, 19)) (by unfold lw_privs; exact List.mem_append_right _ (List.mem_append_left _ (List.mem_of_getElem? (i := 2) rfl)))
theorem m4_0 : Cond.instanceMethod ⟨"HomeSystem$Tokens", "string", "()I"⟩ ∈ AL := AL_4 (List.mem_of_getElem? (i := 0) rfl) rfl
theorem m3_226 : Cond.methodLink "HomeSystem$Tokens" 99 ⟨"HomeSystem$Tokens", "character", "()I"⟩ ∈ AL := AL_3 (List.mem_of_getElem? (i := 226) rfl) rfl
theorem m3_229 : Cond.code ⟨"HomeSystem$Tokens", "character", "()I"⟩ prog_12_method_17_code 3 (Option.some FieldType.int) ∈ AL := AL_3 (List.mem_of_getElem? (i := 229) rfl) rfl
theorem ms_1_15 : Cond.selects "HomeSystem$Tokens" ⟨"HomeSystem$Tokens", "character", "()I"⟩ ⟨"HomeSystem$Tokens", "character", "()I"⟩ ∈ AL := AL_p (q := (⟨"HomeSystem$Tokens", "character", "()I"⟩, 19)) (by unfold lw_privs; exact List.mem_append_left _ (List.mem_of_getElem? (i := 15) rfl))
theorem m3_228 : Cond.instanceMethod ⟨"HomeSystem$Tokens", "character", "()I"⟩ ∈ AL := AL_3 (List.mem_of_getElem? (i := 228) rfl) rfl
theorem m3_217 : Cond.methodLink "HomeSystem$Tokens" 96 ⟨"HomeSystem$Tokens", "number", "()I"⟩ ∈ AL := AL_3 (List.mem_of_getElem? (i := 217) rfl) rfl
theorem m3_220 : Cond.code ⟨"HomeSystem$Tokens", "number", "()I"⟩ prog_12_method_13_code 8 (Option.some FieldType.int) ∈ AL := AL_3 (List.mem_of_getElem? (i := 220) rfl) rfl
theorem ms_1_13 : Cond.selects "HomeSystem$Tokens" ⟨"HomeSystem$Tokens", "number", "()I"⟩ ⟨"HomeSystem$Tokens", "number", "()I"⟩ ∈ AL := AL_p (q := (⟨"HomeSystem$Tokens", "number", "()I"⟩, 19)) (by unfold lw_privs; exact List.mem_append_left _ (List.mem_of_getElem? (i := 13) rfl))
theorem m3_219 : Cond.instanceMethod ⟨"HomeSystem$Tokens", "number", "()I"⟩ ∈ AL := AL_3 (List.mem_of_getElem? (i := 219) rfl) rfl
theorem m3_202 : Cond.methodLink "HomeSystem$Tokens" 90 ⟨"HomeSystem$Tokens", "name", "()I"⟩ ∈ AL := AL_3 (List.mem_of_getElem? (i := 202) rfl) rfl
theorem m3_205 : Cond.code ⟨"HomeSystem$Tokens", "name", "()I"⟩ prog_12_method_10_code 4 (Option.some FieldType.int) ∈ AL := AL_3 (List.mem_of_getElem? (i := 205) rfl) rfl
theorem ms_1_10 : Cond.selects "HomeSystem$Tokens" ⟨"HomeSystem$Tokens", "name", "()I"⟩ ⟨"HomeSystem$Tokens", "name", "()I"⟩ ∈ AL := AL_p (q := (⟨"HomeSystem$Tokens", "name", "()I"⟩, 19)) (by unfold lw_privs; exact List.mem_append_left _ (List.mem_of_getElem? (i := 10) rfl))
theorem m3_204 : Cond.instanceMethod ⟨"HomeSystem$Tokens", "name", "()I"⟩ ∈ AL := AL_3 (List.mem_of_getElem? (i := 204) rfl) rfl
theorem m3_179 : Cond.methodLink "HomeSystem$Tokens" 66 ⟨"HomeSystem$Tokens", "skip", "()V"⟩ ∈ AL := AL_3 (List.mem_of_getElem? (i := 179) rfl) rfl
theorem m3_182 : Cond.code ⟨"HomeSystem$Tokens", "skip", "()V"⟩ prog_12_method_4_code 5 (Option.none : Option Jvm.ClassFile.FieldType) ∈ AL := AL_3 (List.mem_of_getElem? (i := 182) rfl) rfl
theorem ms_1_5 : Cond.selects "HomeSystem$Tokens" ⟨"HomeSystem$Tokens", "skip", "()V"⟩ ⟨"HomeSystem$Tokens", "skip", "()V"⟩ ∈ AL := AL_p (q := (⟨"HomeSystem$Tokens", "skip", "()V"⟩, 19)) (by unfold lw_privs; exact List.mem_append_left _ (List.mem_of_getElem? (i := 5) rfl))
theorem m3_181 : Cond.instanceMethod ⟨"HomeSystem$Tokens", "skip", "()V"⟩ ∈ AL := AL_3 (List.mem_of_getElem? (i := 181) rfl) rfl
theorem m3_195 : Cond.methodLink "HomeSystem$Tokens" 69 ⟨"HomeSystem$Tokens", "token", "()Z"⟩ ∈ AL := AL_3 (List.mem_of_getElem? (i := 195) rfl) rfl
theorem m3_198 : Cond.code ⟨"HomeSystem$Tokens", "token", "()Z"⟩ prog_12_method_7_code 4 (Option.some FieldType.boolean) ∈ AL := AL_3 (List.mem_of_getElem? (i := 198) rfl) rfl
theorem ms_1_9 : Cond.selects "HomeSystem$Tokens" ⟨"HomeSystem$Tokens", "token", "()Z"⟩ ⟨"HomeSystem$Tokens", "token", "()Z"⟩ ∈ AL := AL_p (q := (⟨"HomeSystem$Tokens", "token", "()Z"⟩, 19)) (by unfold lw_privs; exact List.mem_append_left _ (List.mem_of_getElem? (i := 9) rfl))
theorem m3_197 : Cond.instanceMethod ⟨"HomeSystem$Tokens", "token", "()Z"⟩ ∈ AL := AL_3 (List.mem_of_getElem? (i := 197) rfl) rfl
abbrev b_Tok_mark : ByteArray := prog_12_method_19_code
def y_Tok_mark : MethodName := ⟨"HomeSystem$Tokens", "mark", "(I)I"⟩
theorem d_Tok_mark_0 : decode b_Tok_mark 0 = .ok (.iload_n 1, 1) := by decide +kernel
theorem d_Tok_mark_1 : decode b_Tok_mark 1 = .ok (.bipush 61, 2) := by decide +kernel
theorem d_Tok_mark_3 : decode b_Tok_mark 3 = .ok (.if_icmp .ne 9, 3) := by decide +kernel
theorem d_Tok_mark_6 : decode b_Tok_mark 6 = .ok (.sipush 256, 3) := by decide +kernel
theorem d_Tok_mark_9 : decode b_Tok_mark 9 = .ok (.goto 4, 3) := by decide +kernel
theorem d_Tok_mark_12 : decode b_Tok_mark 12 = .ok (.iload_n 1, 1) := by decide +kernel
theorem d_Tok_mark_13 : decode b_Tok_mark 13 = .ok (.istore_n 2, 1) := by decide +kernel
theorem d_Tok_mark_14 : decode b_Tok_mark 14 = .ok (.iconst 1, 1) := by decide +kernel
theorem d_Tok_mark_15 : decode b_Tok_mark 15 = .ok (.istore_n 3, 1) := by decide +kernel
theorem d_Tok_mark_16 : decode b_Tok_mark 16 = .ok (.ldc 127, 2) := by decide +kernel
theorem d_Tok_mark_18 : decode b_Tok_mark 18 = .ok (.iload_n 1, 1) := by decide +kernel
theorem d_Tok_mark_19 : decode b_Tok_mark 19 = .ok (.i2c, 1) := by decide +kernel
theorem d_Tok_mark_20 : decode b_Tok_mark 20 = .ok (.invokevirtual 129, 3) := by decide +kernel
theorem d_Tok_mark_23 : decode b_Tok_mark 23 = .ok (.ifCond .lt 24, 3) := by decide +kernel
theorem d_Tok_mark_26 : decode b_Tok_mark 26 = .ok (.iload_n 1, 1) := by decide +kernel
theorem d_Tok_mark_27 : decode b_Tok_mark 27 = .ok (.bipush 47, 2) := by decide +kernel
theorem d_Tok_mark_29 : decode b_Tok_mark 29 = .ok (.if_icmp .ne 21, 3) := by decide +kernel
theorem d_Tok_mark_32 : decode b_Tok_mark 32 = .ok (.aload_n 0, 1) := by decide +kernel
theorem d_Tok_mark_33 : decode b_Tok_mark 33 = .ok (.aload_n 0, 1) := by decide +kernel
theorem d_Tok_mark_34 : decode b_Tok_mark 34 = .ok (.getfield 50, 3) := by decide +kernel
theorem d_Tok_mark_37 : decode b_Tok_mark 37 = .ok (.iconst 1, 1) := by decide +kernel
theorem d_Tok_mark_38 : decode b_Tok_mark 38 = .ok (.iadd, 1) := by decide +kernel
theorem d_Tok_mark_39 : decode b_Tok_mark 39 = .ok (.invokevirtual 73, 3) := by decide +kernel
theorem d_Tok_mark_42 : decode b_Tok_mark 42 = .ok (.bipush 42, 2) := by decide +kernel
theorem d_Tok_mark_44 : decode b_Tok_mark 44 = .ok (.if_icmp .ne 6, 3) := by decide +kernel
theorem d_Tok_mark_47 : decode b_Tok_mark 47 = .ok (.bipush 19, 2) := by decide +kernel
theorem d_Tok_mark_49 : decode b_Tok_mark 49 = .ok (.ireturn, 1) := by decide +kernel
theorem d_Tok_mark_50 : decode b_Tok_mark 50 = .ok (.aload_n 0, 1) := by decide +kernel
theorem d_Tok_mark_51 : decode b_Tok_mark 51 = .ok (.aload_n 0, 1) := by decide +kernel
theorem d_Tok_mark_52 : decode b_Tok_mark 52 = .ok (.getfield 50, 3) := by decide +kernel
theorem d_Tok_mark_55 : decode b_Tok_mark 55 = .ok (.iconst 1, 1) := by decide +kernel
theorem d_Tok_mark_56 : decode b_Tok_mark 56 = .ok (.iadd, 1) := by decide +kernel
theorem d_Tok_mark_57 : decode b_Tok_mark 57 = .ok (.invokevirtual 73, 3) := by decide +kernel
theorem d_Tok_mark_60 : decode b_Tok_mark 60 = .ok (.iload_n 1, 1) := by decide +kernel
theorem d_Tok_mark_61 : decode b_Tok_mark 61 = .ok (.if_icmp .ne 10, 3) := by decide +kernel
theorem d_Tok_mark_64 : decode b_Tok_mark 64 = .ok (.iload_n 1, 1) := by decide +kernel
theorem d_Tok_mark_65 : decode b_Tok_mark 65 = .ok (.invokestatic 132, 3) := by decide +kernel
theorem d_Tok_mark_68 : decode b_Tok_mark 68 = .ok (.goto 4, 3) := by decide +kernel
theorem d_Tok_mark_71 : decode b_Tok_mark 71 = .ok (.iconst 0, 1) := by decide +kernel
theorem d_Tok_mark_72 : decode b_Tok_mark 72 = .ok (.istore 4, 2) := by decide +kernel
theorem d_Tok_mark_74 : decode b_Tok_mark 74 = .ok (.iload 4, 2) := by decide +kernel
theorem d_Tok_mark_76 : decode b_Tok_mark 76 = .ok (.ifCond .le 8, 3) := by decide +kernel
theorem d_Tok_mark_79 : decode b_Tok_mark 79 = .ok (.iload 4, 2) := by decide +kernel
theorem d_Tok_mark_81 : decode b_Tok_mark 81 = .ok (.istore_n 2, 1) := by decide +kernel
theorem d_Tok_mark_82 : decode b_Tok_mark 82 = .ok (.iconst 2, 1) := by decide +kernel
theorem d_Tok_mark_83 : decode b_Tok_mark 83 = .ok (.istore_n 3, 1) := by decide +kernel
theorem d_Tok_mark_84 : decode b_Tok_mark 84 = .ok (.aload_n 0, 1) := by decide +kernel
theorem d_Tok_mark_85 : decode b_Tok_mark 85 = .ok (.aload_n 0, 1) := by decide +kernel
theorem d_Tok_mark_86 : decode b_Tok_mark 86 = .ok (.getfield 50, 3) := by decide +kernel
theorem d_Tok_mark_89 : decode b_Tok_mark 89 = .ok (.iload_n 3, 1) := by decide +kernel
theorem d_Tok_mark_90 : decode b_Tok_mark 90 = .ok (.iadd, 1) := by decide +kernel
theorem d_Tok_mark_91 : decode b_Tok_mark 91 = .ok (.invokevirtual 73, 3) := by decide +kernel
theorem d_Tok_mark_94 : decode b_Tok_mark 94 = .ok (.bipush 61, 2) := by decide +kernel
theorem d_Tok_mark_96 : decode b_Tok_mark 96 = .ok (.if_icmp .ne 10, 3) := by decide +kernel
theorem d_Tok_mark_99 : decode b_Tok_mark 99 = .ok (.iload_n 2, 1) := by decide +kernel
theorem d_Tok_mark_100 : decode b_Tok_mark 100 = .ok (.invokestatic 135, 3) := by decide +kernel
theorem d_Tok_mark_103 : decode b_Tok_mark 103 = .ok (.goto 4, 3) := by decide +kernel
theorem d_Tok_mark_106 : decode b_Tok_mark 106 = .ok (.iconst 0, 1) := by decide +kernel
theorem d_Tok_mark_107 : decode b_Tok_mark 107 = .ok (.istore 5, 2) := by decide +kernel
theorem d_Tok_mark_109 : decode b_Tok_mark 109 = .ok (.iload 5, 2) := by decide +kernel
theorem d_Tok_mark_111 : decode b_Tok_mark 111 = .ok (.ifCond .le 9, 3) := by decide +kernel
theorem d_Tok_mark_114 : decode b_Tok_mark 114 = .ok (.iload 5, 2) := by decide +kernel
theorem d_Tok_mark_116 : decode b_Tok_mark 116 = .ok (.istore_n 2, 1) := by decide +kernel
theorem d_Tok_mark_117 : decode b_Tok_mark 117 = .ok (.iinc 3 1, 3) := by decide +kernel
theorem d_Tok_mark_120 : decode b_Tok_mark 120 = .ok (.aload_n 0, 1) := by decide +kernel
theorem d_Tok_mark_121 : decode b_Tok_mark 121 = .ok (.dup, 1) := by decide +kernel
theorem d_Tok_mark_122 : decode b_Tok_mark 122 = .ok (.getfield 50, 3) := by decide +kernel
theorem d_Tok_mark_125 : decode b_Tok_mark 125 = .ok (.iload_n 3, 1) := by decide +kernel
theorem d_Tok_mark_126 : decode b_Tok_mark 126 = .ok (.iadd, 1) := by decide +kernel
theorem d_Tok_mark_127 : decode b_Tok_mark 127 = .ok (.putfield 50, 3) := by decide +kernel
theorem d_Tok_mark_130 : decode b_Tok_mark 130 = .ok (.iload_n 2, 1) := by decide +kernel
theorem d_Tok_mark_131 : decode b_Tok_mark 131 = .ok (.ireturn, 1) := by decide +kernel
theorem q_Tok_mark : px_y y_Tok_mark 1 := by unfold px_y; decide +kernel
set_option maxHeartbeats 4000000 in
set_option maxRecDepth 100000 in
theorem c_Tok_mark (l : Launch) (D : va_G) (cs : Nat → ClassId) (sk : Nat) (st : Nat) (sn : Nat) (sb : Nat → Int32) (h : Nat) (r : Nat → Nat) (tp : Nat) (tb : Nat → Int32) (g : Nat → Nat → Option Nat) (f : Nat → Int32) (a : Nat → Nat → Int32) (p0 : Int32)  (hinv0 : TokOk (f 7) (f 8) (f 10) (f 11) (f 12) (f 13) (f 17) (a 4)) (g0 : sn ≤ 1000000) (g1 : 0 ≤ (f 8).toInt) (g2 : (f 8).toInt < (f 7).toInt) : MetI l y_Tok_mark b_Tok_mark 6 (.int) D cs 4 160 (0) (0) [.ref h, .int p0] [wd_Tok cs h r (fun _ => some tp) f a g, [(tp, .inl (cs 1, 2048, .inl tb))]] (oX (fun A U H => (vk_R "HomeSystem$Tokens" 127 "(){}[],;:?=|^&<>+-*/%!~" sk U) ∧ (oZ A U H) ∧ (oS A sk st sn sb U H)) [wd_Tok cs h r (fun _ => some tp) f a g, [(tp, .inl (cs 1, 2048, .inl tb))]]) (fun v ps => ∃ (f' : Nat → Int32) (a' : Nat → Nat → Int32), (ps = [wd_Tok cs h r (fun _ => some tp) f' a' g, [(tp, .inl (cs 1, 2048, .inl tb))]]) ∧ (TokOk (f' 7) (f' 8) (f' 10) (f' 11) (f' 12) (f' 13) (f' 17) (a' 4)) ∧ ((f' 7).toInt = (f 7).toInt)) := by
  refine px_enter (by decide) (Nat.le_of_ble_eq_true rfl) ?_
  intro p e s m below meth c A ls hAe S hr hlk hnm hA hT hX hw hl
  have hl : lv_has ls 6 [(0, .ref h), (1, .int p0)] := hl
  have lp0 := Int32.le_toInt p0
  have up0 := Int32.toInt_lt p0
  have cst0 : (0 : Int32).toInt = 0 := rfl
  have cst1 : (1 : Int32).toInt = 1 := rfl
  have cst2 : (2 : Int32).toInt = 2 := rfl
  have cst19 : (19 : Int32).toInt = 19 := rfl
  have cst42 : (42 : Int32).toInt = 42 := rfl
  have cst47 : (47 : Int32).toInt = 47 := rfl
  have cst61 : (61 : Int32).toInt = 61 := rfl
  have cst256 : (256 : Int32).toInt = 256 := rfl
  have hX : (fun A U H => (vk_R "HomeSystem$Tokens" 127 "(){}[],;:?=|^&<>+-*/%!~" sk U) ∧ (oZ A U H) ∧ (oS A sk st sn sb U H)) A s s.heap := by rw [hAe]; exact hX
  obtain ⟨hL, hZ, hS⟩ := hX
  have hsn : (nI sn).toInt = (sn : Int) := nI_toInt (by omega)
  obtain ⟨⟨o1, o2⟩, ⟨o3, o4⟩, ⟨o5, o6⟩, ⟨o7, o8⟩, ⟨o9, o10⟩, ⟨o11, o12⟩, o13, hn4⟩ := hinv0
  refine lv_iload_n S.x S.b d_Tok_mark_0 rfl (lv_at hl 1 rfl) ?_
  refine lv_bipush (v := 61) S.x S.b d_Tok_mark_1 (by decide) ?_
  refine lv_icmp_ne (tgt := 12) S.x S.b d_Tok_mark_3 (by decide) (fun c1 => ?_) (fun c1 => ?_)
  · have nc1 : ¬ p0.toInt = (61 : Int) := mt (i_eq (x := p0) (y := 61)).mpr c1
    refine lv_iload_n S.x S.b d_Tok_mark_12 rfl (lv_at hl 1 rfl) ?_
    refine lv_istore_n (lv' := [(2, .int p0), (0, .ref h), (1, .int p0)]) S.x S.b d_Tok_mark_13 rfl hl (by decide) rfl (fun ls hl => ?_)
    refine lv_iconst (v := 1) S.x S.b d_Tok_mark_14 (by decide) ?_
    refine lv_istore_n (lv' := [(3, .int 1), (2, .int p0), (0, .ref h), (1, .int p0)]) S.x S.b d_Tok_mark_15 rfl hl (by decide) rfl (fun ls hl => ?_)
    refine va_ldcS S.x S.b S.own hL d_Tok_mark_16 ?_
    refine lv_iload_n S.x S.b d_Tok_mark_18 rfl (lv_at hl 3 rfl) ?_
    refine lv_i2c S.x S.b d_Tok_mark_19 rfl ?_
    refine lv_topi (fun z2 ez2 => ?_)
    have lz2 := Int32.le_toInt z2
    have uz2 := Int32.toInt_lt z2
    refine px_calli (pr := [wd_Tok cs h r (fun _ => some tp) f a g, [(tp, .inl (cs 1, 2048, .inl tb))]]) (px_runV (As := [.int z2]) (rest := []) S (c_String_indexOf1 l D cs sk st sn sb z2  (show sn ≤ 1000000 from by omega) _) hT (pr := [wd_Tok cs h r (fun _ => some tp) f a g, [(tp, .inl (cs 1, 2048, .inl tb))]]) (pcs := []) hw (oX_call (P := (fun A U H => (oZ A U H) ∧ (oS A sk st sn sb U H))) (pr := [wd_Tok cs h r (fun _ => some tp) f a g, [(tp, .inl (cs 1, 2048, .inl tb))]]) (oG_and oG_Z oG_S) hw hA ⟨hZ, hS⟩) (oS_recv hw hS) m4_10 m4_7 m4_8 m4_9 m1_3 q_String_indexOf2 ⟨Nat.le_of_ble_eq_true rfl, Nat.le_of_ble_eq_true rfl⟩ hl.1 rfl (Nat.le_of_ble_eq_true rfl) d_Tok_mark_20 ⟨Nat.le_of_ble_eq_true rfl, Nat.le_of_ble_eq_true rfl⟩) hw hA (fun v4 p3 H locs hp3 hw => ?_)
    subst hp3
    have hw : pw D A s.heap H locs [wd_Tok cs h r (fun _ => some tp) f a g, [(tp, .inl (cs 1, 2048, .inl tb))]] := hw
    have lv4 := Int32.le_toInt v4
    have uv4 := Int32.toInt_lt v4
    refine lv_if_lt (tgt := 47) S.x S.b d_Tok_mark_23 (by decide) (fun c5 => ?_) (fun c5 => ?_)
    · have nc5 : v4.toInt < (0 : Int) := (i_lt (x := v4) (y := 0)).mp c5
      refine lv_bipush (v := 19) S.x S.b d_Tok_mark_47 (by decide) ?_
      exact px_iret (v := 19) S hr rfl hlk hAe hw (Nat.le_of_ble_eq_true rfl) (Nat.le_of_ble_eq_true rfl) (⟨f, a, rfl, (show TokOk (f 7) (f 8) (f 10) (f 11) (f 12) (f 13) (f 17) (a 4) from ⟨⟨by omega, by omega⟩, ⟨by omega, by omega⟩, ⟨by omega, by omega⟩, ⟨by omega, by omega⟩, ⟨by omega, by omega⟩, ⟨by omega, by omega⟩, by omega, hn4⟩), (show (f 7).toInt = (f 7).toInt from by omega)⟩) d_Tok_mark_49
    · have nc5 : ¬ v4.toInt < (0 : Int) := mt (i_lt (x := v4) (y := 0)).mpr c5
      refine lv_iload_n S.x S.b d_Tok_mark_26 rfl (lv_at hl 3 rfl) ?_
      refine lv_bipush (v := 47) S.x S.b d_Tok_mark_27 (by decide) ?_
      refine lv_icmp_ne (tgt := 50) S.x S.b d_Tok_mark_29 (by decide) (fun c6 => ?_) (fun c6 => ?_)
      · have nc6 : ¬ p0.toInt = (47 : Int) := mt (i_eq (x := p0) (y := 47)).mpr c6
        refine lv_aload_n S.x S.b d_Tok_mark_50 rfl (lv_at hl 2 rfl) ?_
        refine lv_aload_n S.x S.b d_Tok_mark_51 rfl (lv_at hl 2 rfl) ?_
        refine px_get S k_Tok hT hw 0 0 8 (v := .int (f 8)) rfl rfl rfl (by decide) m1_111 d_Tok_mark_52 ?_
        refine lv_iconst (v := 1) S.x S.b d_Tok_mark_55 (by decide) ?_
        refine lv_iadd S.x S.b d_Tok_mark_56 ?_
        have lr7 := Int32.le_toInt (f 8)
        have ur7 := Int32.toInt_lt (f 8)
        refine lv_topi (fun z8 ez8 => ?_)
        have tz8 : z8.toInt = ((f 8).toInt + (1 : Int) + 2147483648) % 4294967296 - 2147483648 := by rw [ez8]; exact i_add (f 8) 1
        have lz8 := Int32.le_toInt z8
        have uz8 := Int32.toInt_lt z8
        try replace tz8 : z8.toInt = (f 8).toInt + (1 : Int) := by omega
        refine px_calli (pr := []) (px_runV (As := [.int z8]) (rest := []) S (c_Tok_byteAt l D cs h r tp tb f a g z8 (show TokOk (f 7) (f 8) (f 10) (f 11) (f 12) (f 13) (f 17) (a 4) from ⟨⟨by omega, by omega⟩, ⟨by omega, by omega⟩, ⟨by omega, by omega⟩, ⟨by omega, by omega⟩, ⟨by omega, by omega⟩, ⟨by omega, by omega⟩, by omega, hn4⟩)  _) hT (pr := []) (pcs := [wd_Tok cs h r (fun _ => some tp) f a g, [(tp, .inl (cs 1, 2048, .inl tb))]]) hw px_X.tt (px_recv hT hw 0 0 rfl rfl rfl) m3_186 m3_183 m3_185 ms_1_6 m1_2 q_Tok_byteAt ⟨Nat.le_of_ble_eq_true rfl, Nat.le_of_ble_eq_true rfl⟩ hl.1 rfl (Nat.le_of_ble_eq_true rfl) d_Tok_mark_57 ⟨Nat.le_of_ble_eq_true rfl, Nat.le_of_ble_eq_true rfl⟩) hw hA (fun v12 p11 H locs hp11 hw => ?_)
        obtain ⟨rfl, e13, e14, e15⟩ := hp11
        have e13 : -1 ≤ v12.toInt := e13
        have e14 : v12.toInt ≤ 255 := e14
        have e15 : 0 ≤ v12.toInt → 0 ≤ z8.toInt ∧ z8.toInt < (f 7).toInt := e15
        have hw : pw D A s.heap H locs [wd_Tok cs h r (fun _ => some tp) f a g, [(tp, .inl (cs 1, 2048, .inl tb))]] := hw
        have lv12 := Int32.le_toInt v12
        have uv12 := Int32.toInt_lt v12
        refine lv_iload_n S.x S.b d_Tok_mark_60 rfl (lv_at hl 3 rfl) ?_
        refine lv_icmp_ne (tgt := 71) S.x S.b d_Tok_mark_61 (by decide) (fun c16 => ?_) (fun c16 => ?_)
        · have nc16 : ¬ v12.toInt = p0.toInt := mt (i_eq (x := v12) (y := p0)).mpr c16
          refine lv_iconst (v := 0) S.x S.b d_Tok_mark_71 (by decide) ?_
          refine lv_istore (lv' := [(4, .int 0), (3, .int 1), (2, .int p0), (0, .ref h), (1, .int p0)]) S.x S.b d_Tok_mark_72 hl (by decide) rfl (fun ls hl => ?_)
          refine lv_iload S.x S.b d_Tok_mark_74 (lv_at hl 0 rfl) ?_
          refine lv_if_le (tgt := 84) S.x S.b d_Tok_mark_76 (by decide) (fun c17 => ?_) (fun c17 => ?_)
          ·
            refine lv_aload_n S.x S.b d_Tok_mark_84 rfl (lv_at hl 3 rfl) ?_
            refine lv_aload_n S.x S.b d_Tok_mark_85 rfl (lv_at hl 3 rfl) ?_
            refine px_get S k_Tok hT hw 0 0 8 (v := .int (f 8)) rfl rfl rfl (by decide) m1_111 d_Tok_mark_86 ?_
            refine lv_iload_n S.x S.b d_Tok_mark_89 rfl (lv_at hl 1 rfl) ?_
            refine lv_iadd S.x S.b d_Tok_mark_90 ?_
            have lr18 := Int32.le_toInt (f 8)
            have ur18 := Int32.toInt_lt (f 8)
            refine lv_topi (fun z19 ez19 => ?_)
            have tz19 : z19.toInt = ((f 8).toInt + (1 : Int) + 2147483648) % 4294967296 - 2147483648 := by rw [ez19]; exact i_add (f 8) 1
            have lz19 := Int32.le_toInt z19
            have uz19 := Int32.toInt_lt z19
            try replace tz19 : z19.toInt = (f 8).toInt + (1 : Int) := by omega
            refine px_calli (pr := []) (px_runV (As := [.int z19]) (rest := []) S (c_Tok_byteAt l D cs h r tp tb f a g z19 (show TokOk (f 7) (f 8) (f 10) (f 11) (f 12) (f 13) (f 17) (a 4) from ⟨⟨by omega, by omega⟩, ⟨by omega, by omega⟩, ⟨by omega, by omega⟩, ⟨by omega, by omega⟩, ⟨by omega, by omega⟩, ⟨by omega, by omega⟩, by omega, hn4⟩)  _) hT (pr := []) (pcs := [wd_Tok cs h r (fun _ => some tp) f a g, [(tp, .inl (cs 1, 2048, .inl tb))]]) hw px_X.tt (px_recv hT hw 0 0 rfl rfl rfl) m3_186 m3_183 m3_185 ms_1_6 m1_2 q_Tok_byteAt ⟨Nat.le_of_ble_eq_true rfl, Nat.le_of_ble_eq_true rfl⟩ hl.1 rfl (Nat.le_of_ble_eq_true rfl) d_Tok_mark_91 ⟨Nat.le_of_ble_eq_true rfl, Nat.le_of_ble_eq_true rfl⟩) hw hA (fun v23 p22 H locs hp22 hw => ?_)
            obtain ⟨rfl, e24, e25, e26⟩ := hp22
            have e24 : -1 ≤ v23.toInt := e24
            have e25 : v23.toInt ≤ 255 := e25
            have e26 : 0 ≤ v23.toInt → 0 ≤ z19.toInt ∧ z19.toInt < (f 7).toInt := e26
            have hw : pw D A s.heap H locs [wd_Tok cs h r (fun _ => some tp) f a g, [(tp, .inl (cs 1, 2048, .inl tb))]] := hw
            have lv23 := Int32.le_toInt v23
            have uv23 := Int32.toInt_lt v23
            refine lv_bipush (v := 61) S.x S.b d_Tok_mark_94 (by decide) ?_
            refine lv_icmp_ne (tgt := 106) S.x S.b d_Tok_mark_96 (by decide) (fun c27 => ?_) (fun c27 => ?_)
            · have nc27 : ¬ v23.toInt = (61 : Int) := mt (i_eq (x := v23) (y := 61)).mpr c27
              refine lv_iconst (v := 0) S.x S.b d_Tok_mark_106 (by decide) ?_
              refine lv_istore (lv' := [(5, .int 0), (4, .int 0), (3, .int 1), (2, .int p0), (0, .ref h), (1, .int p0)]) S.x S.b d_Tok_mark_107 hl (by decide) rfl (fun ls hl => ?_)
              refine lv_iload S.x S.b d_Tok_mark_109 (lv_at hl 0 rfl) ?_
              refine lv_if_le (tgt := 120) S.x S.b d_Tok_mark_111 (by decide) (fun c28 => ?_) (fun c28 => ?_)
              ·
                refine lv_aload_n S.x S.b d_Tok_mark_120 rfl (lv_at hl 4 rfl) ?_
                refine lv_dup S.x S.b d_Tok_mark_121 rfl ?_
                refine px_get S k_Tok hT hw 0 0 8 (v := .int (f 8)) rfl rfl rfl (by decide) m1_111 d_Tok_mark_122 ?_
                refine lv_iload_n S.x S.b d_Tok_mark_125 rfl (lv_at hl 2 rfl) ?_
                refine lv_iadd S.x S.b d_Tok_mark_126 ?_
                have lr29 := Int32.le_toInt (f 8)
                have ur29 := Int32.toInt_lt (f 8)
                refine lv_topi (fun z30 ez30 => ?_)
                have tz30 : z30.toInt = ((f 8).toInt + (1 : Int) + 2147483648) % 4294967296 - 2147483648 := by rw [ez30]; exact i_add (f 8) 1
                have lz30 := Int32.le_toInt z30
                have uz30 := Int32.toInt_lt z30
                try replace tz30 : z30.toInt = (f 8).toInt + (1 : Int) := by omega
                refine px_put S k_Tok hT hw 0 0 8 rfl rfl (by decide) m1_111 rfl rfl rfl (Nat.le_of_ble_eq_true rfl) d_Tok_mark_127 (w' := wd_Tok cs h r (fun _ => some tp) (upd f 8 z30) a g) (ps' := [wd_Tok cs h r (fun _ => some tp) (upd f 8 z30) a g, [(tp, .inl (cs 1, 2048, .inl tb))]]) rfl rfl (fun H locs hw => ?_)
                refine lv_iload_n S.x S.b d_Tok_mark_130 rfl (lv_at hl 3 rfl) ?_
                exact px_iret (v := p0) S hr rfl hlk hAe hw (Nat.le_of_ble_eq_true rfl) (Nat.le_of_ble_eq_true rfl) (⟨(upd f 8 z30), a, rfl, (show TokOk (f 7) z30 (f 10) (f 11) (f 12) (f 13) (f 17) (a 4) from ⟨⟨by omega, by omega⟩, ⟨by omega, by omega⟩, ⟨by omega, by omega⟩, ⟨by omega, by omega⟩, ⟨by omega, by omega⟩, ⟨by omega, by omega⟩, by omega, hn4⟩), (show (f 7).toInt = (f 7).toInt from by omega)⟩) d_Tok_mark_131
              · exact absurd c28 (by decide)
            · have nc27 : v23.toInt = (61 : Int) := (i_eq (x := v23) (y := 61)).mp c27
              refine lv_iload_n S.x S.b d_Tok_mark_99 rfl (lv_at hl 2 rfl) ?_
              refine px_calli (pr := [wd_Tok cs h r (fun _ => some tp) f a g, [(tp, .inl (cs 1, 2048, .inl tb))]]) (px_runS (As := [.int p0]) (rest := []) S (c_Tok_withEquals l D cs p0 _) hT (pr := [wd_Tok cs h r (fun _ => some tp) f a g, [(tp, .inl (cs 1, 2048, .inl tb))]]) (pcs := []) hw px_X.tt m4_67 m4_65 m4_66 m1_2 q_Tok_withEquals ⟨Nat.le_of_ble_eq_true rfl, Nat.le_of_ble_eq_true rfl⟩ hl.1 rfl (Nat.le_of_ble_eq_true rfl) d_Tok_mark_100 ⟨Nat.le_of_ble_eq_true rfl, Nat.le_of_ble_eq_true rfl⟩) hw hA (fun v34 p33 H locs hp33 hw => ?_)
              subst hp33
              have hw : pw D A s.heap H locs [wd_Tok cs h r (fun _ => some tp) f a g, [(tp, .inl (cs 1, 2048, .inl tb))]] := hw
              have lv34 := Int32.le_toInt v34
              have uv34 := Int32.toInt_lt v34
              refine lv_goto (tgt := 107) S.x S.b d_Tok_mark_103 (by decide) ?_
              refine lv_istore (lv' := [(5, .int v34), (4, .int 0), (3, .int 1), (2, .int p0), (0, .ref h), (1, .int p0)]) S.x S.b d_Tok_mark_107 hl (by decide) rfl (fun ls hl => ?_)
              refine lv_iload S.x S.b d_Tok_mark_109 (lv_at hl 0 rfl) ?_
              refine lv_if_le (tgt := 120) S.x S.b d_Tok_mark_111 (by decide) (fun c35 => ?_) (fun c35 => ?_)
              · have nc35 : v34.toInt ≤ (0 : Int) := (i_le (x := v34) (y := 0)).mp c35
                refine lv_aload_n S.x S.b d_Tok_mark_120 rfl (lv_at hl 4 rfl) ?_
                refine lv_dup S.x S.b d_Tok_mark_121 rfl ?_
                refine px_get S k_Tok hT hw 0 0 8 (v := .int (f 8)) rfl rfl rfl (by decide) m1_111 d_Tok_mark_122 ?_
                refine lv_iload_n S.x S.b d_Tok_mark_125 rfl (lv_at hl 2 rfl) ?_
                refine lv_iadd S.x S.b d_Tok_mark_126 ?_
                have lr36 := Int32.le_toInt (f 8)
                have ur36 := Int32.toInt_lt (f 8)
                refine lv_topi (fun z37 ez37 => ?_)
                have tz37 : z37.toInt = ((f 8).toInt + (1 : Int) + 2147483648) % 4294967296 - 2147483648 := by rw [ez37]; exact i_add (f 8) 1
                have lz37 := Int32.le_toInt z37
                have uz37 := Int32.toInt_lt z37
                try replace tz37 : z37.toInt = (f 8).toInt + (1 : Int) := by omega
                refine px_put S k_Tok hT hw 0 0 8 rfl rfl (by decide) m1_111 rfl rfl rfl (Nat.le_of_ble_eq_true rfl) d_Tok_mark_127 (w' := wd_Tok cs h r (fun _ => some tp) (upd f 8 z37) a g) (ps' := [wd_Tok cs h r (fun _ => some tp) (upd f 8 z37) a g, [(tp, .inl (cs 1, 2048, .inl tb))]]) rfl rfl (fun H locs hw => ?_)
                refine lv_iload_n S.x S.b d_Tok_mark_130 rfl (lv_at hl 3 rfl) ?_
                exact px_iret (v := p0) S hr rfl hlk hAe hw (Nat.le_of_ble_eq_true rfl) (Nat.le_of_ble_eq_true rfl) (⟨(upd f 8 z37), a, rfl, (show TokOk (f 7) z37 (f 10) (f 11) (f 12) (f 13) (f 17) (a 4) from ⟨⟨by omega, by omega⟩, ⟨by omega, by omega⟩, ⟨by omega, by omega⟩, ⟨by omega, by omega⟩, ⟨by omega, by omega⟩, ⟨by omega, by omega⟩, by omega, hn4⟩), (show (f 7).toInt = (f 7).toInt from by omega)⟩) d_Tok_mark_131
              · have nc35 : ¬ v34.toInt ≤ (0 : Int) := mt (i_le (x := v34) (y := 0)).mpr c35
                refine lv_iload S.x S.b d_Tok_mark_114 (lv_at hl 0 rfl) ?_
                refine lv_istore_n (lv' := [(2, .int v34), (5, .int v34), (4, .int 0), (3, .int 1), (0, .ref h), (1, .int p0)]) S.x S.b d_Tok_mark_116 rfl hl (by decide) rfl (fun ls hl => ?_)
                obtain ⟨z38, ez38⟩ : ∃ y : Int32, y = 1 + 1 := ⟨_, rfl⟩
                have tz38 : z38.toInt = ((1 : Int) + 1 + 2147483648) % 4294967296 - 2147483648 := by rw [ez38]; exact i_add 1 1
                have lz38 := Int32.le_toInt z38
                have uz38 := Int32.toInt_lt z38
                try replace tz38 : z38.toInt = (1 : Int) + 1 := by omega
                refine lv_iinc (v := z38) (lv' := [(3, .int z38), (2, .int v34), (5, .int v34), (4, .int 0), (0, .ref h), (1, .int p0)]) S.x S.b d_Tok_mark_117 hl (k := 3) rfl (by rw [ez38]; rfl) (by decide) rfl (fun ls hl => ?_)
                refine lv_aload_n S.x S.b d_Tok_mark_120 rfl (lv_at hl 4 rfl) ?_
                refine lv_dup S.x S.b d_Tok_mark_121 rfl ?_
                refine px_get S k_Tok hT hw 0 0 8 (v := .int (f 8)) rfl rfl rfl (by decide) m1_111 d_Tok_mark_122 ?_
                refine lv_iload_n S.x S.b d_Tok_mark_125 rfl (lv_at hl 0 rfl) ?_
                refine lv_iadd S.x S.b d_Tok_mark_126 ?_
                have lr39 := Int32.le_toInt (f 8)
                have ur39 := Int32.toInt_lt (f 8)
                refine lv_topi (fun z40 ez40 => ?_)
                have tz40 : z40.toInt = ((f 8).toInt + z38.toInt + 2147483648) % 4294967296 - 2147483648 := by rw [ez40]; exact i_add (f 8) z38
                have lz40 := Int32.le_toInt z40
                have uz40 := Int32.toInt_lt z40
                try replace tz40 : z40.toInt = (f 8).toInt + z38.toInt := by omega
                refine px_put S k_Tok hT hw 0 0 8 rfl rfl (by decide) m1_111 rfl rfl rfl (Nat.le_of_ble_eq_true rfl) d_Tok_mark_127 (w' := wd_Tok cs h r (fun _ => some tp) (upd f 8 z40) a g) (ps' := [wd_Tok cs h r (fun _ => some tp) (upd f 8 z40) a g, [(tp, .inl (cs 1, 2048, .inl tb))]]) rfl rfl (fun H locs hw => ?_)
                refine lv_iload_n S.x S.b d_Tok_mark_130 rfl (lv_at hl 1 rfl) ?_
                exact px_iret (v := v34) S hr rfl hlk hAe hw (Nat.le_of_ble_eq_true rfl) (Nat.le_of_ble_eq_true rfl) (⟨(upd f 8 z40), a, rfl, (show TokOk (f 7) z40 (f 10) (f 11) (f 12) (f 13) (f 17) (a 4) from ⟨⟨by omega, by omega⟩, ⟨by omega, by omega⟩, ⟨by omega, by omega⟩, ⟨by omega, by omega⟩, ⟨by omega, by omega⟩, ⟨by omega, by omega⟩, by omega, hn4⟩), (show (f 7).toInt = (f 7).toInt from by omega)⟩) d_Tok_mark_131
          · exact absurd c17 (by decide)
        · have nc16 : v12.toInt = p0.toInt := (i_eq (x := v12) (y := p0)).mp c16
          refine lv_iload_n S.x S.b d_Tok_mark_64 rfl (lv_at hl 3 rfl) ?_
          refine px_calli (pr := [wd_Tok cs h r (fun _ => some tp) f a g, [(tp, .inl (cs 1, 2048, .inl tb))]]) (px_runS (As := [.int p0]) (rest := []) S (c_Tok_doubled l D cs p0 _) hT (pr := [wd_Tok cs h r (fun _ => some tp) f a g, [(tp, .inl (cs 1, 2048, .inl tb))]]) (pcs := []) hw px_X.tt m4_64 m4_62 m4_63 m1_2 q_Tok_doubled ⟨Nat.le_of_ble_eq_true rfl, Nat.le_of_ble_eq_true rfl⟩ hl.1 rfl (Nat.le_of_ble_eq_true rfl) d_Tok_mark_65 ⟨Nat.le_of_ble_eq_true rfl, Nat.le_of_ble_eq_true rfl⟩) hw hA (fun v44 p43 H locs hp43 hw => ?_)
          subst hp43
          have hw : pw D A s.heap H locs [wd_Tok cs h r (fun _ => some tp) f a g, [(tp, .inl (cs 1, 2048, .inl tb))]] := hw
          have lv44 := Int32.le_toInt v44
          have uv44 := Int32.toInt_lt v44
          refine lv_goto (tgt := 72) S.x S.b d_Tok_mark_68 (by decide) ?_
          refine lv_istore (lv' := [(4, .int v44), (3, .int 1), (2, .int p0), (0, .ref h), (1, .int p0)]) S.x S.b d_Tok_mark_72 hl (by decide) rfl (fun ls hl => ?_)
          refine lv_iload S.x S.b d_Tok_mark_74 (lv_at hl 0 rfl) ?_
          refine lv_if_le (tgt := 84) S.x S.b d_Tok_mark_76 (by decide) (fun c45 => ?_) (fun c45 => ?_)
          · have nc45 : v44.toInt ≤ (0 : Int) := (i_le (x := v44) (y := 0)).mp c45
            refine lv_aload_n S.x S.b d_Tok_mark_84 rfl (lv_at hl 3 rfl) ?_
            refine lv_aload_n S.x S.b d_Tok_mark_85 rfl (lv_at hl 3 rfl) ?_
            refine px_get S k_Tok hT hw 0 0 8 (v := .int (f 8)) rfl rfl rfl (by decide) m1_111 d_Tok_mark_86 ?_
            refine lv_iload_n S.x S.b d_Tok_mark_89 rfl (lv_at hl 1 rfl) ?_
            refine lv_iadd S.x S.b d_Tok_mark_90 ?_
            have lr46 := Int32.le_toInt (f 8)
            have ur46 := Int32.toInt_lt (f 8)
            refine lv_topi (fun z47 ez47 => ?_)
            have tz47 : z47.toInt = ((f 8).toInt + (1 : Int) + 2147483648) % 4294967296 - 2147483648 := by rw [ez47]; exact i_add (f 8) 1
            have lz47 := Int32.le_toInt z47
            have uz47 := Int32.toInt_lt z47
            try replace tz47 : z47.toInt = (f 8).toInt + (1 : Int) := by omega
            refine px_calli (pr := []) (px_runV (As := [.int z47]) (rest := []) S (c_Tok_byteAt l D cs h r tp tb f a g z47 (show TokOk (f 7) (f 8) (f 10) (f 11) (f 12) (f 13) (f 17) (a 4) from ⟨⟨by omega, by omega⟩, ⟨by omega, by omega⟩, ⟨by omega, by omega⟩, ⟨by omega, by omega⟩, ⟨by omega, by omega⟩, ⟨by omega, by omega⟩, by omega, hn4⟩)  _) hT (pr := []) (pcs := [wd_Tok cs h r (fun _ => some tp) f a g, [(tp, .inl (cs 1, 2048, .inl tb))]]) hw px_X.tt (px_recv hT hw 0 0 rfl rfl rfl) m3_186 m3_183 m3_185 ms_1_6 m1_2 q_Tok_byteAt ⟨Nat.le_of_ble_eq_true rfl, Nat.le_of_ble_eq_true rfl⟩ hl.1 rfl (Nat.le_of_ble_eq_true rfl) d_Tok_mark_91 ⟨Nat.le_of_ble_eq_true rfl, Nat.le_of_ble_eq_true rfl⟩) hw hA (fun v51 p50 H locs hp50 hw => ?_)
            obtain ⟨rfl, e52, e53, e54⟩ := hp50
            have e52 : -1 ≤ v51.toInt := e52
            have e53 : v51.toInt ≤ 255 := e53
            have e54 : 0 ≤ v51.toInt → 0 ≤ z47.toInt ∧ z47.toInt < (f 7).toInt := e54
            have hw : pw D A s.heap H locs [wd_Tok cs h r (fun _ => some tp) f a g, [(tp, .inl (cs 1, 2048, .inl tb))]] := hw
            have lv51 := Int32.le_toInt v51
            have uv51 := Int32.toInt_lt v51
            refine lv_bipush (v := 61) S.x S.b d_Tok_mark_94 (by decide) ?_
            refine lv_icmp_ne (tgt := 106) S.x S.b d_Tok_mark_96 (by decide) (fun c55 => ?_) (fun c55 => ?_)
            · have nc55 : ¬ v51.toInt = (61 : Int) := mt (i_eq (x := v51) (y := 61)).mpr c55
              refine lv_iconst (v := 0) S.x S.b d_Tok_mark_106 (by decide) ?_
              refine lv_istore (lv' := [(5, .int 0), (4, .int v44), (3, .int 1), (2, .int p0), (0, .ref h), (1, .int p0)]) S.x S.b d_Tok_mark_107 hl (by decide) rfl (fun ls hl => ?_)
              refine lv_iload S.x S.b d_Tok_mark_109 (lv_at hl 0 rfl) ?_
              refine lv_if_le (tgt := 120) S.x S.b d_Tok_mark_111 (by decide) (fun c56 => ?_) (fun c56 => ?_)
              ·
                refine lv_aload_n S.x S.b d_Tok_mark_120 rfl (lv_at hl 4 rfl) ?_
                refine lv_dup S.x S.b d_Tok_mark_121 rfl ?_
                refine px_get S k_Tok hT hw 0 0 8 (v := .int (f 8)) rfl rfl rfl (by decide) m1_111 d_Tok_mark_122 ?_
                refine lv_iload_n S.x S.b d_Tok_mark_125 rfl (lv_at hl 2 rfl) ?_
                refine lv_iadd S.x S.b d_Tok_mark_126 ?_
                have lr57 := Int32.le_toInt (f 8)
                have ur57 := Int32.toInt_lt (f 8)
                refine lv_topi (fun z58 ez58 => ?_)
                have tz58 : z58.toInt = ((f 8).toInt + (1 : Int) + 2147483648) % 4294967296 - 2147483648 := by rw [ez58]; exact i_add (f 8) 1
                have lz58 := Int32.le_toInt z58
                have uz58 := Int32.toInt_lt z58
                try replace tz58 : z58.toInt = (f 8).toInt + (1 : Int) := by omega
                refine px_put S k_Tok hT hw 0 0 8 rfl rfl (by decide) m1_111 rfl rfl rfl (Nat.le_of_ble_eq_true rfl) d_Tok_mark_127 (w' := wd_Tok cs h r (fun _ => some tp) (upd f 8 z58) a g) (ps' := [wd_Tok cs h r (fun _ => some tp) (upd f 8 z58) a g, [(tp, .inl (cs 1, 2048, .inl tb))]]) rfl rfl (fun H locs hw => ?_)
                refine lv_iload_n S.x S.b d_Tok_mark_130 rfl (lv_at hl 3 rfl) ?_
                exact px_iret (v := p0) S hr rfl hlk hAe hw (Nat.le_of_ble_eq_true rfl) (Nat.le_of_ble_eq_true rfl) (⟨(upd f 8 z58), a, rfl, (show TokOk (f 7) z58 (f 10) (f 11) (f 12) (f 13) (f 17) (a 4) from ⟨⟨by omega, by omega⟩, ⟨by omega, by omega⟩, ⟨by omega, by omega⟩, ⟨by omega, by omega⟩, ⟨by omega, by omega⟩, ⟨by omega, by omega⟩, by omega, hn4⟩), (show (f 7).toInt = (f 7).toInt from by omega)⟩) d_Tok_mark_131
              · exact absurd c56 (by decide)
            · have nc55 : v51.toInt = (61 : Int) := (i_eq (x := v51) (y := 61)).mp c55
              refine lv_iload_n S.x S.b d_Tok_mark_99 rfl (lv_at hl 2 rfl) ?_
              refine px_calli (pr := [wd_Tok cs h r (fun _ => some tp) f a g, [(tp, .inl (cs 1, 2048, .inl tb))]]) (px_runS (As := [.int p0]) (rest := []) S (c_Tok_withEquals l D cs p0 _) hT (pr := [wd_Tok cs h r (fun _ => some tp) f a g, [(tp, .inl (cs 1, 2048, .inl tb))]]) (pcs := []) hw px_X.tt m4_67 m4_65 m4_66 m1_2 q_Tok_withEquals ⟨Nat.le_of_ble_eq_true rfl, Nat.le_of_ble_eq_true rfl⟩ hl.1 rfl (Nat.le_of_ble_eq_true rfl) d_Tok_mark_100 ⟨Nat.le_of_ble_eq_true rfl, Nat.le_of_ble_eq_true rfl⟩) hw hA (fun v62 p61 H locs hp61 hw => ?_)
              subst hp61
              have hw : pw D A s.heap H locs [wd_Tok cs h r (fun _ => some tp) f a g, [(tp, .inl (cs 1, 2048, .inl tb))]] := hw
              have lv62 := Int32.le_toInt v62
              have uv62 := Int32.toInt_lt v62
              refine lv_goto (tgt := 107) S.x S.b d_Tok_mark_103 (by decide) ?_
              refine lv_istore (lv' := [(5, .int v62), (4, .int v44), (3, .int 1), (2, .int p0), (0, .ref h), (1, .int p0)]) S.x S.b d_Tok_mark_107 hl (by decide) rfl (fun ls hl => ?_)
              refine lv_iload S.x S.b d_Tok_mark_109 (lv_at hl 0 rfl) ?_
              refine lv_if_le (tgt := 120) S.x S.b d_Tok_mark_111 (by decide) (fun c63 => ?_) (fun c63 => ?_)
              · have nc63 : v62.toInt ≤ (0 : Int) := (i_le (x := v62) (y := 0)).mp c63
                refine lv_aload_n S.x S.b d_Tok_mark_120 rfl (lv_at hl 4 rfl) ?_
                refine lv_dup S.x S.b d_Tok_mark_121 rfl ?_
                refine px_get S k_Tok hT hw 0 0 8 (v := .int (f 8)) rfl rfl rfl (by decide) m1_111 d_Tok_mark_122 ?_
                refine lv_iload_n S.x S.b d_Tok_mark_125 rfl (lv_at hl 2 rfl) ?_
                refine lv_iadd S.x S.b d_Tok_mark_126 ?_
                have lr64 := Int32.le_toInt (f 8)
                have ur64 := Int32.toInt_lt (f 8)
                refine lv_topi (fun z65 ez65 => ?_)
                have tz65 : z65.toInt = ((f 8).toInt + (1 : Int) + 2147483648) % 4294967296 - 2147483648 := by rw [ez65]; exact i_add (f 8) 1
                have lz65 := Int32.le_toInt z65
                have uz65 := Int32.toInt_lt z65
                try replace tz65 : z65.toInt = (f 8).toInt + (1 : Int) := by omega
                refine px_put S k_Tok hT hw 0 0 8 rfl rfl (by decide) m1_111 rfl rfl rfl (Nat.le_of_ble_eq_true rfl) d_Tok_mark_127 (w' := wd_Tok cs h r (fun _ => some tp) (upd f 8 z65) a g) (ps' := [wd_Tok cs h r (fun _ => some tp) (upd f 8 z65) a g, [(tp, .inl (cs 1, 2048, .inl tb))]]) rfl rfl (fun H locs hw => ?_)
                refine lv_iload_n S.x S.b d_Tok_mark_130 rfl (lv_at hl 3 rfl) ?_
                exact px_iret (v := p0) S hr rfl hlk hAe hw (Nat.le_of_ble_eq_true rfl) (Nat.le_of_ble_eq_true rfl) (⟨(upd f 8 z65), a, rfl, (show TokOk (f 7) z65 (f 10) (f 11) (f 12) (f 13) (f 17) (a 4) from ⟨⟨by omega, by omega⟩, ⟨by omega, by omega⟩, ⟨by omega, by omega⟩, ⟨by omega, by omega⟩, ⟨by omega, by omega⟩, ⟨by omega, by omega⟩, by omega, hn4⟩), (show (f 7).toInt = (f 7).toInt from by omega)⟩) d_Tok_mark_131
              · have nc63 : ¬ v62.toInt ≤ (0 : Int) := mt (i_le (x := v62) (y := 0)).mpr c63
                refine lv_iload S.x S.b d_Tok_mark_114 (lv_at hl 0 rfl) ?_
                refine lv_istore_n (lv' := [(2, .int v62), (5, .int v62), (4, .int v44), (3, .int 1), (0, .ref h), (1, .int p0)]) S.x S.b d_Tok_mark_116 rfl hl (by decide) rfl (fun ls hl => ?_)
                obtain ⟨z66, ez66⟩ : ∃ y : Int32, y = 1 + 1 := ⟨_, rfl⟩
                have tz66 : z66.toInt = ((1 : Int) + 1 + 2147483648) % 4294967296 - 2147483648 := by rw [ez66]; exact i_add 1 1
                have lz66 := Int32.le_toInt z66
                have uz66 := Int32.toInt_lt z66
                try replace tz66 : z66.toInt = (1 : Int) + 1 := by omega
                refine lv_iinc (v := z66) (lv' := [(3, .int z66), (2, .int v62), (5, .int v62), (4, .int v44), (0, .ref h), (1, .int p0)]) S.x S.b d_Tok_mark_117 hl (k := 3) rfl (by rw [ez66]; rfl) (by decide) rfl (fun ls hl => ?_)
                refine lv_aload_n S.x S.b d_Tok_mark_120 rfl (lv_at hl 4 rfl) ?_
                refine lv_dup S.x S.b d_Tok_mark_121 rfl ?_
                refine px_get S k_Tok hT hw 0 0 8 (v := .int (f 8)) rfl rfl rfl (by decide) m1_111 d_Tok_mark_122 ?_
                refine lv_iload_n S.x S.b d_Tok_mark_125 rfl (lv_at hl 0 rfl) ?_
                refine lv_iadd S.x S.b d_Tok_mark_126 ?_
                have lr67 := Int32.le_toInt (f 8)
                have ur67 := Int32.toInt_lt (f 8)
                refine lv_topi (fun z68 ez68 => ?_)
                have tz68 : z68.toInt = ((f 8).toInt + z66.toInt + 2147483648) % 4294967296 - 2147483648 := by rw [ez68]; exact i_add (f 8) z66
                have lz68 := Int32.le_toInt z68
                have uz68 := Int32.toInt_lt z68
                try replace tz68 : z68.toInt = (f 8).toInt + z66.toInt := by omega
                refine px_put S k_Tok hT hw 0 0 8 rfl rfl (by decide) m1_111 rfl rfl rfl (Nat.le_of_ble_eq_true rfl) d_Tok_mark_127 (w' := wd_Tok cs h r (fun _ => some tp) (upd f 8 z68) a g) (ps' := [wd_Tok cs h r (fun _ => some tp) (upd f 8 z68) a g, [(tp, .inl (cs 1, 2048, .inl tb))]]) rfl rfl (fun H locs hw => ?_)
                refine lv_iload_n S.x S.b d_Tok_mark_130 rfl (lv_at hl 1 rfl) ?_
                exact px_iret (v := v62) S hr rfl hlk hAe hw (Nat.le_of_ble_eq_true rfl) (Nat.le_of_ble_eq_true rfl) (⟨(upd f 8 z68), a, rfl, (show TokOk (f 7) z68 (f 10) (f 11) (f 12) (f 13) (f 17) (a 4) from ⟨⟨by omega, by omega⟩, ⟨by omega, by omega⟩, ⟨by omega, by omega⟩, ⟨by omega, by omega⟩, ⟨by omega, by omega⟩, ⟨by omega, by omega⟩, by omega, hn4⟩), (show (f 7).toInt = (f 7).toInt from by omega)⟩) d_Tok_mark_131
          · have nc45 : ¬ v44.toInt ≤ (0 : Int) := mt (i_le (x := v44) (y := 0)).mpr c45
            refine lv_iload S.x S.b d_Tok_mark_79 (lv_at hl 0 rfl) ?_
            refine lv_istore_n (lv' := [(2, .int v44), (4, .int v44), (3, .int 1), (0, .ref h), (1, .int p0)]) S.x S.b d_Tok_mark_81 rfl hl (by decide) rfl (fun ls hl => ?_)
            refine lv_iconst (v := 2) S.x S.b d_Tok_mark_82 (by decide) ?_
            refine lv_istore_n (lv' := [(3, .int 2), (2, .int v44), (4, .int v44), (0, .ref h), (1, .int p0)]) S.x S.b d_Tok_mark_83 rfl hl (by decide) rfl (fun ls hl => ?_)
            refine lv_aload_n S.x S.b d_Tok_mark_84 rfl (lv_at hl 3 rfl) ?_
            refine lv_aload_n S.x S.b d_Tok_mark_85 rfl (lv_at hl 3 rfl) ?_
            refine px_get S k_Tok hT hw 0 0 8 (v := .int (f 8)) rfl rfl rfl (by decide) m1_111 d_Tok_mark_86 ?_
            refine lv_iload_n S.x S.b d_Tok_mark_89 rfl (lv_at hl 0 rfl) ?_
            refine lv_iadd S.x S.b d_Tok_mark_90 ?_
            have lr69 := Int32.le_toInt (f 8)
            have ur69 := Int32.toInt_lt (f 8)
            refine lv_topi (fun z70 ez70 => ?_)
            have tz70 : z70.toInt = ((f 8).toInt + (2 : Int) + 2147483648) % 4294967296 - 2147483648 := by rw [ez70]; exact i_add (f 8) 2
            have lz70 := Int32.le_toInt z70
            have uz70 := Int32.toInt_lt z70
            try replace tz70 : z70.toInt = (f 8).toInt + (2 : Int) := by omega
            refine px_calli (pr := []) (px_runV (As := [.int z70]) (rest := []) S (c_Tok_byteAt l D cs h r tp tb f a g z70 (show TokOk (f 7) (f 8) (f 10) (f 11) (f 12) (f 13) (f 17) (a 4) from ⟨⟨by omega, by omega⟩, ⟨by omega, by omega⟩, ⟨by omega, by omega⟩, ⟨by omega, by omega⟩, ⟨by omega, by omega⟩, ⟨by omega, by omega⟩, by omega, hn4⟩)  _) hT (pr := []) (pcs := [wd_Tok cs h r (fun _ => some tp) f a g, [(tp, .inl (cs 1, 2048, .inl tb))]]) hw px_X.tt (px_recv hT hw 0 0 rfl rfl rfl) m3_186 m3_183 m3_185 ms_1_6 m1_2 q_Tok_byteAt ⟨Nat.le_of_ble_eq_true rfl, Nat.le_of_ble_eq_true rfl⟩ hl.1 rfl (Nat.le_of_ble_eq_true rfl) d_Tok_mark_91 ⟨Nat.le_of_ble_eq_true rfl, Nat.le_of_ble_eq_true rfl⟩) hw hA (fun v74 p73 H locs hp73 hw => ?_)
            obtain ⟨rfl, e75, e76, e77⟩ := hp73
            have e75 : -1 ≤ v74.toInt := e75
            have e76 : v74.toInt ≤ 255 := e76
            have e77 : 0 ≤ v74.toInt → 0 ≤ z70.toInt ∧ z70.toInt < (f 7).toInt := e77
            have hw : pw D A s.heap H locs [wd_Tok cs h r (fun _ => some tp) f a g, [(tp, .inl (cs 1, 2048, .inl tb))]] := hw
            have lv74 := Int32.le_toInt v74
            have uv74 := Int32.toInt_lt v74
            refine lv_bipush (v := 61) S.x S.b d_Tok_mark_94 (by decide) ?_
            refine lv_icmp_ne (tgt := 106) S.x S.b d_Tok_mark_96 (by decide) (fun c78 => ?_) (fun c78 => ?_)
            · have nc78 : ¬ v74.toInt = (61 : Int) := mt (i_eq (x := v74) (y := 61)).mpr c78
              refine lv_iconst (v := 0) S.x S.b d_Tok_mark_106 (by decide) ?_
              refine lv_istore (lv' := [(5, .int 0), (3, .int 2), (2, .int v44), (4, .int v44), (0, .ref h), (1, .int p0)]) S.x S.b d_Tok_mark_107 hl (by decide) rfl (fun ls hl => ?_)
              refine lv_iload S.x S.b d_Tok_mark_109 (lv_at hl 0 rfl) ?_
              refine lv_if_le (tgt := 120) S.x S.b d_Tok_mark_111 (by decide) (fun c79 => ?_) (fun c79 => ?_)
              ·
                refine lv_aload_n S.x S.b d_Tok_mark_120 rfl (lv_at hl 4 rfl) ?_
                refine lv_dup S.x S.b d_Tok_mark_121 rfl ?_
                refine px_get S k_Tok hT hw 0 0 8 (v := .int (f 8)) rfl rfl rfl (by decide) m1_111 d_Tok_mark_122 ?_
                refine lv_iload_n S.x S.b d_Tok_mark_125 rfl (lv_at hl 1 rfl) ?_
                refine lv_iadd S.x S.b d_Tok_mark_126 ?_
                have lr80 := Int32.le_toInt (f 8)
                have ur80 := Int32.toInt_lt (f 8)
                refine lv_topi (fun z81 ez81 => ?_)
                have tz81 : z81.toInt = ((f 8).toInt + (2 : Int) + 2147483648) % 4294967296 - 2147483648 := by rw [ez81]; exact i_add (f 8) 2
                have lz81 := Int32.le_toInt z81
                have uz81 := Int32.toInt_lt z81
                try replace tz81 : z81.toInt = (f 8).toInt + (2 : Int) := by omega
                refine px_put S k_Tok hT hw 0 0 8 rfl rfl (by decide) m1_111 rfl rfl rfl (Nat.le_of_ble_eq_true rfl) d_Tok_mark_127 (w' := wd_Tok cs h r (fun _ => some tp) (upd f 8 z81) a g) (ps' := [wd_Tok cs h r (fun _ => some tp) (upd f 8 z81) a g, [(tp, .inl (cs 1, 2048, .inl tb))]]) rfl rfl (fun H locs hw => ?_)
                refine lv_iload_n S.x S.b d_Tok_mark_130 rfl (lv_at hl 2 rfl) ?_
                exact px_iret (v := v44) S hr rfl hlk hAe hw (Nat.le_of_ble_eq_true rfl) (Nat.le_of_ble_eq_true rfl) (⟨(upd f 8 z81), a, rfl, (show TokOk (f 7) z81 (f 10) (f 11) (f 12) (f 13) (f 17) (a 4) from ⟨⟨by omega, by omega⟩, ⟨by omega, by omega⟩, ⟨by omega, by omega⟩, ⟨by omega, by omega⟩, ⟨by omega, by omega⟩, ⟨by omega, by omega⟩, by omega, hn4⟩), (show (f 7).toInt = (f 7).toInt from by omega)⟩) d_Tok_mark_131
              · exact absurd c79 (by decide)
            · have nc78 : v74.toInt = (61 : Int) := (i_eq (x := v74) (y := 61)).mp c78
              refine lv_iload_n S.x S.b d_Tok_mark_99 rfl (lv_at hl 1 rfl) ?_
              refine px_calli (pr := [wd_Tok cs h r (fun _ => some tp) f a g, [(tp, .inl (cs 1, 2048, .inl tb))]]) (px_runS (As := [.int v44]) (rest := []) S (c_Tok_withEquals l D cs v44 _) hT (pr := [wd_Tok cs h r (fun _ => some tp) f a g, [(tp, .inl (cs 1, 2048, .inl tb))]]) (pcs := []) hw px_X.tt m4_67 m4_65 m4_66 m1_2 q_Tok_withEquals ⟨Nat.le_of_ble_eq_true rfl, Nat.le_of_ble_eq_true rfl⟩ hl.1 rfl (Nat.le_of_ble_eq_true rfl) d_Tok_mark_100 ⟨Nat.le_of_ble_eq_true rfl, Nat.le_of_ble_eq_true rfl⟩) hw hA (fun v85 p84 H locs hp84 hw => ?_)
              subst hp84
              have hw : pw D A s.heap H locs [wd_Tok cs h r (fun _ => some tp) f a g, [(tp, .inl (cs 1, 2048, .inl tb))]] := hw
              have lv85 := Int32.le_toInt v85
              have uv85 := Int32.toInt_lt v85
              refine lv_goto (tgt := 107) S.x S.b d_Tok_mark_103 (by decide) ?_
              refine lv_istore (lv' := [(5, .int v85), (3, .int 2), (2, .int v44), (4, .int v44), (0, .ref h), (1, .int p0)]) S.x S.b d_Tok_mark_107 hl (by decide) rfl (fun ls hl => ?_)
              refine lv_iload S.x S.b d_Tok_mark_109 (lv_at hl 0 rfl) ?_
              refine lv_if_le (tgt := 120) S.x S.b d_Tok_mark_111 (by decide) (fun c86 => ?_) (fun c86 => ?_)
              · have nc86 : v85.toInt ≤ (0 : Int) := (i_le (x := v85) (y := 0)).mp c86
                refine lv_aload_n S.x S.b d_Tok_mark_120 rfl (lv_at hl 4 rfl) ?_
                refine lv_dup S.x S.b d_Tok_mark_121 rfl ?_
                refine px_get S k_Tok hT hw 0 0 8 (v := .int (f 8)) rfl rfl rfl (by decide) m1_111 d_Tok_mark_122 ?_
                refine lv_iload_n S.x S.b d_Tok_mark_125 rfl (lv_at hl 1 rfl) ?_
                refine lv_iadd S.x S.b d_Tok_mark_126 ?_
                have lr87 := Int32.le_toInt (f 8)
                have ur87 := Int32.toInt_lt (f 8)
                refine lv_topi (fun z88 ez88 => ?_)
                have tz88 : z88.toInt = ((f 8).toInt + (2 : Int) + 2147483648) % 4294967296 - 2147483648 := by rw [ez88]; exact i_add (f 8) 2
                have lz88 := Int32.le_toInt z88
                have uz88 := Int32.toInt_lt z88
                try replace tz88 : z88.toInt = (f 8).toInt + (2 : Int) := by omega
                refine px_put S k_Tok hT hw 0 0 8 rfl rfl (by decide) m1_111 rfl rfl rfl (Nat.le_of_ble_eq_true rfl) d_Tok_mark_127 (w' := wd_Tok cs h r (fun _ => some tp) (upd f 8 z88) a g) (ps' := [wd_Tok cs h r (fun _ => some tp) (upd f 8 z88) a g, [(tp, .inl (cs 1, 2048, .inl tb))]]) rfl rfl (fun H locs hw => ?_)
                refine lv_iload_n S.x S.b d_Tok_mark_130 rfl (lv_at hl 2 rfl) ?_
                exact px_iret (v := v44) S hr rfl hlk hAe hw (Nat.le_of_ble_eq_true rfl) (Nat.le_of_ble_eq_true rfl) (⟨(upd f 8 z88), a, rfl, (show TokOk (f 7) z88 (f 10) (f 11) (f 12) (f 13) (f 17) (a 4) from ⟨⟨by omega, by omega⟩, ⟨by omega, by omega⟩, ⟨by omega, by omega⟩, ⟨by omega, by omega⟩, ⟨by omega, by omega⟩, ⟨by omega, by omega⟩, by omega, hn4⟩), (show (f 7).toInt = (f 7).toInt from by omega)⟩) d_Tok_mark_131
              · have nc86 : ¬ v85.toInt ≤ (0 : Int) := mt (i_le (x := v85) (y := 0)).mpr c86
                refine lv_iload S.x S.b d_Tok_mark_114 (lv_at hl 0 rfl) ?_
                refine lv_istore_n (lv' := [(2, .int v85), (5, .int v85), (3, .int 2), (4, .int v44), (0, .ref h), (1, .int p0)]) S.x S.b d_Tok_mark_116 rfl hl (by decide) rfl (fun ls hl => ?_)
                obtain ⟨z89, ez89⟩ : ∃ y : Int32, y = 2 + 1 := ⟨_, rfl⟩
                have tz89 : z89.toInt = ((2 : Int) + 1 + 2147483648) % 4294967296 - 2147483648 := by rw [ez89]; exact i_add 2 1
                have lz89 := Int32.le_toInt z89
                have uz89 := Int32.toInt_lt z89
                try replace tz89 : z89.toInt = (2 : Int) + 1 := by omega
                refine lv_iinc (v := z89) (lv' := [(3, .int z89), (2, .int v85), (5, .int v85), (4, .int v44), (0, .ref h), (1, .int p0)]) S.x S.b d_Tok_mark_117 hl (k := 2) rfl (by rw [ez89]; rfl) (by decide) rfl (fun ls hl => ?_)
                refine lv_aload_n S.x S.b d_Tok_mark_120 rfl (lv_at hl 4 rfl) ?_
                refine lv_dup S.x S.b d_Tok_mark_121 rfl ?_
                refine px_get S k_Tok hT hw 0 0 8 (v := .int (f 8)) rfl rfl rfl (by decide) m1_111 d_Tok_mark_122 ?_
                refine lv_iload_n S.x S.b d_Tok_mark_125 rfl (lv_at hl 0 rfl) ?_
                refine lv_iadd S.x S.b d_Tok_mark_126 ?_
                have lr90 := Int32.le_toInt (f 8)
                have ur90 := Int32.toInt_lt (f 8)
                refine lv_topi (fun z91 ez91 => ?_)
                have tz91 : z91.toInt = ((f 8).toInt + z89.toInt + 2147483648) % 4294967296 - 2147483648 := by rw [ez91]; exact i_add (f 8) z89
                have lz91 := Int32.le_toInt z91
                have uz91 := Int32.toInt_lt z91
                try replace tz91 : z91.toInt = (f 8).toInt + z89.toInt := by omega
                refine px_put S k_Tok hT hw 0 0 8 rfl rfl (by decide) m1_111 rfl rfl rfl (Nat.le_of_ble_eq_true rfl) d_Tok_mark_127 (w' := wd_Tok cs h r (fun _ => some tp) (upd f 8 z91) a g) (ps' := [wd_Tok cs h r (fun _ => some tp) (upd f 8 z91) a g, [(tp, .inl (cs 1, 2048, .inl tb))]]) rfl rfl (fun H locs hw => ?_)
                refine lv_iload_n S.x S.b d_Tok_mark_130 rfl (lv_at hl 1 rfl) ?_
                exact px_iret (v := v85) S hr rfl hlk hAe hw (Nat.le_of_ble_eq_true rfl) (Nat.le_of_ble_eq_true rfl) (⟨(upd f 8 z91), a, rfl, (show TokOk (f 7) z91 (f 10) (f 11) (f 12) (f 13) (f 17) (a 4) from ⟨⟨by omega, by omega⟩, ⟨by omega, by omega⟩, ⟨by omega, by omega⟩, ⟨by omega, by omega⟩, ⟨by omega, by omega⟩, ⟨by omega, by omega⟩, by omega, hn4⟩), (show (f 7).toInt = (f 7).toInt from by omega)⟩) d_Tok_mark_131
      · have nc6 : p0.toInt = (47 : Int) := (i_eq (x := p0) (y := 47)).mp c6
        refine lv_aload_n S.x S.b d_Tok_mark_32 rfl (lv_at hl 2 rfl) ?_
        refine lv_aload_n S.x S.b d_Tok_mark_33 rfl (lv_at hl 2 rfl) ?_
        refine px_get S k_Tok hT hw 0 0 8 (v := .int (f 8)) rfl rfl rfl (by decide) m1_111 d_Tok_mark_34 ?_
        refine lv_iconst (v := 1) S.x S.b d_Tok_mark_37 (by decide) ?_
        refine lv_iadd S.x S.b d_Tok_mark_38 ?_
        have lr92 := Int32.le_toInt (f 8)
        have ur92 := Int32.toInt_lt (f 8)
        refine lv_topi (fun z93 ez93 => ?_)
        have tz93 : z93.toInt = ((f 8).toInt + (1 : Int) + 2147483648) % 4294967296 - 2147483648 := by rw [ez93]; exact i_add (f 8) 1
        have lz93 := Int32.le_toInt z93
        have uz93 := Int32.toInt_lt z93
        try replace tz93 : z93.toInt = (f 8).toInt + (1 : Int) := by omega
        refine px_calli (pr := []) (px_runV (As := [.int z93]) (rest := []) S (c_Tok_byteAt l D cs h r tp tb f a g z93 (show TokOk (f 7) (f 8) (f 10) (f 11) (f 12) (f 13) (f 17) (a 4) from ⟨⟨by omega, by omega⟩, ⟨by omega, by omega⟩, ⟨by omega, by omega⟩, ⟨by omega, by omega⟩, ⟨by omega, by omega⟩, ⟨by omega, by omega⟩, by omega, hn4⟩)  _) hT (pr := []) (pcs := [wd_Tok cs h r (fun _ => some tp) f a g, [(tp, .inl (cs 1, 2048, .inl tb))]]) hw px_X.tt (px_recv hT hw 0 0 rfl rfl rfl) m3_186 m3_183 m3_185 ms_1_6 m1_2 q_Tok_byteAt ⟨Nat.le_of_ble_eq_true rfl, Nat.le_of_ble_eq_true rfl⟩ hl.1 rfl (Nat.le_of_ble_eq_true rfl) d_Tok_mark_39 ⟨Nat.le_of_ble_eq_true rfl, Nat.le_of_ble_eq_true rfl⟩) hw hA (fun v97 p96 H locs hp96 hw => ?_)
        obtain ⟨rfl, e98, e99, e100⟩ := hp96
        have e98 : -1 ≤ v97.toInt := e98
        have e99 : v97.toInt ≤ 255 := e99
        have e100 : 0 ≤ v97.toInt → 0 ≤ z93.toInt ∧ z93.toInt < (f 7).toInt := e100
        have hw : pw D A s.heap H locs [wd_Tok cs h r (fun _ => some tp) f a g, [(tp, .inl (cs 1, 2048, .inl tb))]] := hw
        have lv97 := Int32.le_toInt v97
        have uv97 := Int32.toInt_lt v97
        refine lv_bipush (v := 42) S.x S.b d_Tok_mark_42 (by decide) ?_
        refine lv_icmp_ne (tgt := 50) S.x S.b d_Tok_mark_44 (by decide) (fun c101 => ?_) (fun c101 => ?_)
        · have nc101 : ¬ v97.toInt = (42 : Int) := mt (i_eq (x := v97) (y := 42)).mpr c101
          refine lv_aload_n S.x S.b d_Tok_mark_50 rfl (lv_at hl 2 rfl) ?_
          refine lv_aload_n S.x S.b d_Tok_mark_51 rfl (lv_at hl 2 rfl) ?_
          refine px_get S k_Tok hT hw 0 0 8 (v := .int (f 8)) rfl rfl rfl (by decide) m1_111 d_Tok_mark_52 ?_
          refine lv_iconst (v := 1) S.x S.b d_Tok_mark_55 (by decide) ?_
          refine lv_iadd S.x S.b d_Tok_mark_56 ?_
          have lr102 := Int32.le_toInt (f 8)
          have ur102 := Int32.toInt_lt (f 8)
          refine lv_topi (fun z103 ez103 => ?_)
          have tz103 : z103.toInt = ((f 8).toInt + (1 : Int) + 2147483648) % 4294967296 - 2147483648 := by rw [ez103]; exact i_add (f 8) 1
          have lz103 := Int32.le_toInt z103
          have uz103 := Int32.toInt_lt z103
          try replace tz103 : z103.toInt = (f 8).toInt + (1 : Int) := by omega
          refine px_calli (pr := []) (px_runV (As := [.int z103]) (rest := []) S (c_Tok_byteAt l D cs h r tp tb f a g z103 (show TokOk (f 7) (f 8) (f 10) (f 11) (f 12) (f 13) (f 17) (a 4) from ⟨⟨by omega, by omega⟩, ⟨by omega, by omega⟩, ⟨by omega, by omega⟩, ⟨by omega, by omega⟩, ⟨by omega, by omega⟩, ⟨by omega, by omega⟩, by omega, hn4⟩)  _) hT (pr := []) (pcs := [wd_Tok cs h r (fun _ => some tp) f a g, [(tp, .inl (cs 1, 2048, .inl tb))]]) hw px_X.tt (px_recv hT hw 0 0 rfl rfl rfl) m3_186 m3_183 m3_185 ms_1_6 m1_2 q_Tok_byteAt ⟨Nat.le_of_ble_eq_true rfl, Nat.le_of_ble_eq_true rfl⟩ hl.1 rfl (Nat.le_of_ble_eq_true rfl) d_Tok_mark_57 ⟨Nat.le_of_ble_eq_true rfl, Nat.le_of_ble_eq_true rfl⟩) hw hA (fun v107 p106 H locs hp106 hw => ?_)
          obtain ⟨rfl, e108, e109, e110⟩ := hp106
          have e108 : -1 ≤ v107.toInt := e108
          have e109 : v107.toInt ≤ 255 := e109
          have e110 : 0 ≤ v107.toInt → 0 ≤ z103.toInt ∧ z103.toInt < (f 7).toInt := e110
          have hw : pw D A s.heap H locs [wd_Tok cs h r (fun _ => some tp) f a g, [(tp, .inl (cs 1, 2048, .inl tb))]] := hw
          have lv107 := Int32.le_toInt v107
          have uv107 := Int32.toInt_lt v107
          refine lv_iload_n S.x S.b d_Tok_mark_60 rfl (lv_at hl 3 rfl) ?_
          refine lv_icmp_ne (tgt := 71) S.x S.b d_Tok_mark_61 (by decide) (fun c111 => ?_) (fun c111 => ?_)
          · have nc111 : ¬ v107.toInt = p0.toInt := mt (i_eq (x := v107) (y := p0)).mpr c111
            refine lv_iconst (v := 0) S.x S.b d_Tok_mark_71 (by decide) ?_
            refine lv_istore (lv' := [(4, .int 0), (3, .int 1), (2, .int p0), (0, .ref h), (1, .int p0)]) S.x S.b d_Tok_mark_72 hl (by decide) rfl (fun ls hl => ?_)
            refine lv_iload S.x S.b d_Tok_mark_74 (lv_at hl 0 rfl) ?_
            refine lv_if_le (tgt := 84) S.x S.b d_Tok_mark_76 (by decide) (fun c112 => ?_) (fun c112 => ?_)
            ·
              refine lv_aload_n S.x S.b d_Tok_mark_84 rfl (lv_at hl 3 rfl) ?_
              refine lv_aload_n S.x S.b d_Tok_mark_85 rfl (lv_at hl 3 rfl) ?_
              refine px_get S k_Tok hT hw 0 0 8 (v := .int (f 8)) rfl rfl rfl (by decide) m1_111 d_Tok_mark_86 ?_
              refine lv_iload_n S.x S.b d_Tok_mark_89 rfl (lv_at hl 1 rfl) ?_
              refine lv_iadd S.x S.b d_Tok_mark_90 ?_
              have lr113 := Int32.le_toInt (f 8)
              have ur113 := Int32.toInt_lt (f 8)
              refine lv_topi (fun z114 ez114 => ?_)
              have tz114 : z114.toInt = ((f 8).toInt + (1 : Int) + 2147483648) % 4294967296 - 2147483648 := by rw [ez114]; exact i_add (f 8) 1
              have lz114 := Int32.le_toInt z114
              have uz114 := Int32.toInt_lt z114
              try replace tz114 : z114.toInt = (f 8).toInt + (1 : Int) := by omega
              refine px_calli (pr := []) (px_runV (As := [.int z114]) (rest := []) S (c_Tok_byteAt l D cs h r tp tb f a g z114 (show TokOk (f 7) (f 8) (f 10) (f 11) (f 12) (f 13) (f 17) (a 4) from ⟨⟨by omega, by omega⟩, ⟨by omega, by omega⟩, ⟨by omega, by omega⟩, ⟨by omega, by omega⟩, ⟨by omega, by omega⟩, ⟨by omega, by omega⟩, by omega, hn4⟩)  _) hT (pr := []) (pcs := [wd_Tok cs h r (fun _ => some tp) f a g, [(tp, .inl (cs 1, 2048, .inl tb))]]) hw px_X.tt (px_recv hT hw 0 0 rfl rfl rfl) m3_186 m3_183 m3_185 ms_1_6 m1_2 q_Tok_byteAt ⟨Nat.le_of_ble_eq_true rfl, Nat.le_of_ble_eq_true rfl⟩ hl.1 rfl (Nat.le_of_ble_eq_true rfl) d_Tok_mark_91 ⟨Nat.le_of_ble_eq_true rfl, Nat.le_of_ble_eq_true rfl⟩) hw hA (fun v118 p117 H locs hp117 hw => ?_)
              obtain ⟨rfl, e119, e120, e121⟩ := hp117
              have e119 : -1 ≤ v118.toInt := e119
              have e120 : v118.toInt ≤ 255 := e120
              have e121 : 0 ≤ v118.toInt → 0 ≤ z114.toInt ∧ z114.toInt < (f 7).toInt := e121
              have hw : pw D A s.heap H locs [wd_Tok cs h r (fun _ => some tp) f a g, [(tp, .inl (cs 1, 2048, .inl tb))]] := hw
              have lv118 := Int32.le_toInt v118
              have uv118 := Int32.toInt_lt v118
              refine lv_bipush (v := 61) S.x S.b d_Tok_mark_94 (by decide) ?_
              refine lv_icmp_ne (tgt := 106) S.x S.b d_Tok_mark_96 (by decide) (fun c122 => ?_) (fun c122 => ?_)
              · have nc122 : ¬ v118.toInt = (61 : Int) := mt (i_eq (x := v118) (y := 61)).mpr c122
                refine lv_iconst (v := 0) S.x S.b d_Tok_mark_106 (by decide) ?_
                refine lv_istore (lv' := [(5, .int 0), (4, .int 0), (3, .int 1), (2, .int p0), (0, .ref h), (1, .int p0)]) S.x S.b d_Tok_mark_107 hl (by decide) rfl (fun ls hl => ?_)
                refine lv_iload S.x S.b d_Tok_mark_109 (lv_at hl 0 rfl) ?_
                refine lv_if_le (tgt := 120) S.x S.b d_Tok_mark_111 (by decide) (fun c123 => ?_) (fun c123 => ?_)
                ·
                  refine lv_aload_n S.x S.b d_Tok_mark_120 rfl (lv_at hl 4 rfl) ?_
                  refine lv_dup S.x S.b d_Tok_mark_121 rfl ?_
                  refine px_get S k_Tok hT hw 0 0 8 (v := .int (f 8)) rfl rfl rfl (by decide) m1_111 d_Tok_mark_122 ?_
                  refine lv_iload_n S.x S.b d_Tok_mark_125 rfl (lv_at hl 2 rfl) ?_
                  refine lv_iadd S.x S.b d_Tok_mark_126 ?_
                  have lr124 := Int32.le_toInt (f 8)
                  have ur124 := Int32.toInt_lt (f 8)
                  refine lv_topi (fun z125 ez125 => ?_)
                  have tz125 : z125.toInt = ((f 8).toInt + (1 : Int) + 2147483648) % 4294967296 - 2147483648 := by rw [ez125]; exact i_add (f 8) 1
                  have lz125 := Int32.le_toInt z125
                  have uz125 := Int32.toInt_lt z125
                  try replace tz125 : z125.toInt = (f 8).toInt + (1 : Int) := by omega
                  refine px_put S k_Tok hT hw 0 0 8 rfl rfl (by decide) m1_111 rfl rfl rfl (Nat.le_of_ble_eq_true rfl) d_Tok_mark_127 (w' := wd_Tok cs h r (fun _ => some tp) (upd f 8 z125) a g) (ps' := [wd_Tok cs h r (fun _ => some tp) (upd f 8 z125) a g, [(tp, .inl (cs 1, 2048, .inl tb))]]) rfl rfl (fun H locs hw => ?_)
                  refine lv_iload_n S.x S.b d_Tok_mark_130 rfl (lv_at hl 3 rfl) ?_
                  exact px_iret (v := p0) S hr rfl hlk hAe hw (Nat.le_of_ble_eq_true rfl) (Nat.le_of_ble_eq_true rfl) (⟨(upd f 8 z125), a, rfl, (show TokOk (f 7) z125 (f 10) (f 11) (f 12) (f 13) (f 17) (a 4) from ⟨⟨by omega, by omega⟩, ⟨by omega, by omega⟩, ⟨by omega, by omega⟩, ⟨by omega, by omega⟩, ⟨by omega, by omega⟩, ⟨by omega, by omega⟩, by omega, hn4⟩), (show (f 7).toInt = (f 7).toInt from by omega)⟩) d_Tok_mark_131
                · exact absurd c123 (by decide)
              · have nc122 : v118.toInt = (61 : Int) := (i_eq (x := v118) (y := 61)).mp c122
                refine lv_iload_n S.x S.b d_Tok_mark_99 rfl (lv_at hl 2 rfl) ?_
                refine px_calli (pr := [wd_Tok cs h r (fun _ => some tp) f a g, [(tp, .inl (cs 1, 2048, .inl tb))]]) (px_runS (As := [.int p0]) (rest := []) S (c_Tok_withEquals l D cs p0 _) hT (pr := [wd_Tok cs h r (fun _ => some tp) f a g, [(tp, .inl (cs 1, 2048, .inl tb))]]) (pcs := []) hw px_X.tt m4_67 m4_65 m4_66 m1_2 q_Tok_withEquals ⟨Nat.le_of_ble_eq_true rfl, Nat.le_of_ble_eq_true rfl⟩ hl.1 rfl (Nat.le_of_ble_eq_true rfl) d_Tok_mark_100 ⟨Nat.le_of_ble_eq_true rfl, Nat.le_of_ble_eq_true rfl⟩) hw hA (fun v129 p128 H locs hp128 hw => ?_)
                subst hp128
                have hw : pw D A s.heap H locs [wd_Tok cs h r (fun _ => some tp) f a g, [(tp, .inl (cs 1, 2048, .inl tb))]] := hw
                have lv129 := Int32.le_toInt v129
                have uv129 := Int32.toInt_lt v129
                refine lv_goto (tgt := 107) S.x S.b d_Tok_mark_103 (by decide) ?_
                refine lv_istore (lv' := [(5, .int v129), (4, .int 0), (3, .int 1), (2, .int p0), (0, .ref h), (1, .int p0)]) S.x S.b d_Tok_mark_107 hl (by decide) rfl (fun ls hl => ?_)
                refine lv_iload S.x S.b d_Tok_mark_109 (lv_at hl 0 rfl) ?_
                refine lv_if_le (tgt := 120) S.x S.b d_Tok_mark_111 (by decide) (fun c130 => ?_) (fun c130 => ?_)
                · have nc130 : v129.toInt ≤ (0 : Int) := (i_le (x := v129) (y := 0)).mp c130
                  refine lv_aload_n S.x S.b d_Tok_mark_120 rfl (lv_at hl 4 rfl) ?_
                  refine lv_dup S.x S.b d_Tok_mark_121 rfl ?_
                  refine px_get S k_Tok hT hw 0 0 8 (v := .int (f 8)) rfl rfl rfl (by decide) m1_111 d_Tok_mark_122 ?_
                  refine lv_iload_n S.x S.b d_Tok_mark_125 rfl (lv_at hl 2 rfl) ?_
                  refine lv_iadd S.x S.b d_Tok_mark_126 ?_
                  have lr131 := Int32.le_toInt (f 8)
                  have ur131 := Int32.toInt_lt (f 8)
                  refine lv_topi (fun z132 ez132 => ?_)
                  have tz132 : z132.toInt = ((f 8).toInt + (1 : Int) + 2147483648) % 4294967296 - 2147483648 := by rw [ez132]; exact i_add (f 8) 1
                  have lz132 := Int32.le_toInt z132
                  have uz132 := Int32.toInt_lt z132
                  try replace tz132 : z132.toInt = (f 8).toInt + (1 : Int) := by omega
                  refine px_put S k_Tok hT hw 0 0 8 rfl rfl (by decide) m1_111 rfl rfl rfl (Nat.le_of_ble_eq_true rfl) d_Tok_mark_127 (w' := wd_Tok cs h r (fun _ => some tp) (upd f 8 z132) a g) (ps' := [wd_Tok cs h r (fun _ => some tp) (upd f 8 z132) a g, [(tp, .inl (cs 1, 2048, .inl tb))]]) rfl rfl (fun H locs hw => ?_)
                  refine lv_iload_n S.x S.b d_Tok_mark_130 rfl (lv_at hl 3 rfl) ?_
                  exact px_iret (v := p0) S hr rfl hlk hAe hw (Nat.le_of_ble_eq_true rfl) (Nat.le_of_ble_eq_true rfl) (⟨(upd f 8 z132), a, rfl, (show TokOk (f 7) z132 (f 10) (f 11) (f 12) (f 13) (f 17) (a 4) from ⟨⟨by omega, by omega⟩, ⟨by omega, by omega⟩, ⟨by omega, by omega⟩, ⟨by omega, by omega⟩, ⟨by omega, by omega⟩, ⟨by omega, by omega⟩, by omega, hn4⟩), (show (f 7).toInt = (f 7).toInt from by omega)⟩) d_Tok_mark_131
                · have nc130 : ¬ v129.toInt ≤ (0 : Int) := mt (i_le (x := v129) (y := 0)).mpr c130
                  refine lv_iload S.x S.b d_Tok_mark_114 (lv_at hl 0 rfl) ?_
                  refine lv_istore_n (lv' := [(2, .int v129), (5, .int v129), (4, .int 0), (3, .int 1), (0, .ref h), (1, .int p0)]) S.x S.b d_Tok_mark_116 rfl hl (by decide) rfl (fun ls hl => ?_)
                  obtain ⟨z133, ez133⟩ : ∃ y : Int32, y = 1 + 1 := ⟨_, rfl⟩
                  have tz133 : z133.toInt = ((1 : Int) + 1 + 2147483648) % 4294967296 - 2147483648 := by rw [ez133]; exact i_add 1 1
                  have lz133 := Int32.le_toInt z133
                  have uz133 := Int32.toInt_lt z133
                  try replace tz133 : z133.toInt = (1 : Int) + 1 := by omega
                  refine lv_iinc (v := z133) (lv' := [(3, .int z133), (2, .int v129), (5, .int v129), (4, .int 0), (0, .ref h), (1, .int p0)]) S.x S.b d_Tok_mark_117 hl (k := 3) rfl (by rw [ez133]; rfl) (by decide) rfl (fun ls hl => ?_)
                  refine lv_aload_n S.x S.b d_Tok_mark_120 rfl (lv_at hl 4 rfl) ?_
                  refine lv_dup S.x S.b d_Tok_mark_121 rfl ?_
                  refine px_get S k_Tok hT hw 0 0 8 (v := .int (f 8)) rfl rfl rfl (by decide) m1_111 d_Tok_mark_122 ?_
                  refine lv_iload_n S.x S.b d_Tok_mark_125 rfl (lv_at hl 0 rfl) ?_
                  refine lv_iadd S.x S.b d_Tok_mark_126 ?_
                  have lr134 := Int32.le_toInt (f 8)
                  have ur134 := Int32.toInt_lt (f 8)
                  refine lv_topi (fun z135 ez135 => ?_)
                  have tz135 : z135.toInt = ((f 8).toInt + z133.toInt + 2147483648) % 4294967296 - 2147483648 := by rw [ez135]; exact i_add (f 8) z133
                  have lz135 := Int32.le_toInt z135
                  have uz135 := Int32.toInt_lt z135
                  try replace tz135 : z135.toInt = (f 8).toInt + z133.toInt := by omega
                  refine px_put S k_Tok hT hw 0 0 8 rfl rfl (by decide) m1_111 rfl rfl rfl (Nat.le_of_ble_eq_true rfl) d_Tok_mark_127 (w' := wd_Tok cs h r (fun _ => some tp) (upd f 8 z135) a g) (ps' := [wd_Tok cs h r (fun _ => some tp) (upd f 8 z135) a g, [(tp, .inl (cs 1, 2048, .inl tb))]]) rfl rfl (fun H locs hw => ?_)
                  refine lv_iload_n S.x S.b d_Tok_mark_130 rfl (lv_at hl 1 rfl) ?_
                  exact px_iret (v := v129) S hr rfl hlk hAe hw (Nat.le_of_ble_eq_true rfl) (Nat.le_of_ble_eq_true rfl) (⟨(upd f 8 z135), a, rfl, (show TokOk (f 7) z135 (f 10) (f 11) (f 12) (f 13) (f 17) (a 4) from ⟨⟨by omega, by omega⟩, ⟨by omega, by omega⟩, ⟨by omega, by omega⟩, ⟨by omega, by omega⟩, ⟨by omega, by omega⟩, ⟨by omega, by omega⟩, by omega, hn4⟩), (show (f 7).toInt = (f 7).toInt from by omega)⟩) d_Tok_mark_131
            · exact absurd c112 (by decide)
          · have nc111 : v107.toInt = p0.toInt := (i_eq (x := v107) (y := p0)).mp c111
            refine lv_iload_n S.x S.b d_Tok_mark_64 rfl (lv_at hl 3 rfl) ?_
            refine px_calli (pr := [wd_Tok cs h r (fun _ => some tp) f a g, [(tp, .inl (cs 1, 2048, .inl tb))]]) (px_runS (As := [.int p0]) (rest := []) S (c_Tok_doubled l D cs p0 _) hT (pr := [wd_Tok cs h r (fun _ => some tp) f a g, [(tp, .inl (cs 1, 2048, .inl tb))]]) (pcs := []) hw px_X.tt m4_64 m4_62 m4_63 m1_2 q_Tok_doubled ⟨Nat.le_of_ble_eq_true rfl, Nat.le_of_ble_eq_true rfl⟩ hl.1 rfl (Nat.le_of_ble_eq_true rfl) d_Tok_mark_65 ⟨Nat.le_of_ble_eq_true rfl, Nat.le_of_ble_eq_true rfl⟩) hw hA (fun v139 p138 H locs hp138 hw => ?_)
            subst hp138
            have hw : pw D A s.heap H locs [wd_Tok cs h r (fun _ => some tp) f a g, [(tp, .inl (cs 1, 2048, .inl tb))]] := hw
            have lv139 := Int32.le_toInt v139
            have uv139 := Int32.toInt_lt v139
            refine lv_goto (tgt := 72) S.x S.b d_Tok_mark_68 (by decide) ?_
            refine lv_istore (lv' := [(4, .int v139), (3, .int 1), (2, .int p0), (0, .ref h), (1, .int p0)]) S.x S.b d_Tok_mark_72 hl (by decide) rfl (fun ls hl => ?_)
            refine lv_iload S.x S.b d_Tok_mark_74 (lv_at hl 0 rfl) ?_
            refine lv_if_le (tgt := 84) S.x S.b d_Tok_mark_76 (by decide) (fun c140 => ?_) (fun c140 => ?_)
            · have nc140 : v139.toInt ≤ (0 : Int) := (i_le (x := v139) (y := 0)).mp c140
              refine lv_aload_n S.x S.b d_Tok_mark_84 rfl (lv_at hl 3 rfl) ?_
              refine lv_aload_n S.x S.b d_Tok_mark_85 rfl (lv_at hl 3 rfl) ?_
              refine px_get S k_Tok hT hw 0 0 8 (v := .int (f 8)) rfl rfl rfl (by decide) m1_111 d_Tok_mark_86 ?_
              refine lv_iload_n S.x S.b d_Tok_mark_89 rfl (lv_at hl 1 rfl) ?_
              refine lv_iadd S.x S.b d_Tok_mark_90 ?_
              have lr141 := Int32.le_toInt (f 8)
              have ur141 := Int32.toInt_lt (f 8)
              refine lv_topi (fun z142 ez142 => ?_)
              have tz142 : z142.toInt = ((f 8).toInt + (1 : Int) + 2147483648) % 4294967296 - 2147483648 := by rw [ez142]; exact i_add (f 8) 1
              have lz142 := Int32.le_toInt z142
              have uz142 := Int32.toInt_lt z142
              try replace tz142 : z142.toInt = (f 8).toInt + (1 : Int) := by omega
              refine px_calli (pr := []) (px_runV (As := [.int z142]) (rest := []) S (c_Tok_byteAt l D cs h r tp tb f a g z142 (show TokOk (f 7) (f 8) (f 10) (f 11) (f 12) (f 13) (f 17) (a 4) from ⟨⟨by omega, by omega⟩, ⟨by omega, by omega⟩, ⟨by omega, by omega⟩, ⟨by omega, by omega⟩, ⟨by omega, by omega⟩, ⟨by omega, by omega⟩, by omega, hn4⟩)  _) hT (pr := []) (pcs := [wd_Tok cs h r (fun _ => some tp) f a g, [(tp, .inl (cs 1, 2048, .inl tb))]]) hw px_X.tt (px_recv hT hw 0 0 rfl rfl rfl) m3_186 m3_183 m3_185 ms_1_6 m1_2 q_Tok_byteAt ⟨Nat.le_of_ble_eq_true rfl, Nat.le_of_ble_eq_true rfl⟩ hl.1 rfl (Nat.le_of_ble_eq_true rfl) d_Tok_mark_91 ⟨Nat.le_of_ble_eq_true rfl, Nat.le_of_ble_eq_true rfl⟩) hw hA (fun v146 p145 H locs hp145 hw => ?_)
              obtain ⟨rfl, e147, e148, e149⟩ := hp145
              have e147 : -1 ≤ v146.toInt := e147
              have e148 : v146.toInt ≤ 255 := e148
              have e149 : 0 ≤ v146.toInt → 0 ≤ z142.toInt ∧ z142.toInt < (f 7).toInt := e149
              have hw : pw D A s.heap H locs [wd_Tok cs h r (fun _ => some tp) f a g, [(tp, .inl (cs 1, 2048, .inl tb))]] := hw
              have lv146 := Int32.le_toInt v146
              have uv146 := Int32.toInt_lt v146
              refine lv_bipush (v := 61) S.x S.b d_Tok_mark_94 (by decide) ?_
              refine lv_icmp_ne (tgt := 106) S.x S.b d_Tok_mark_96 (by decide) (fun c150 => ?_) (fun c150 => ?_)
              · have nc150 : ¬ v146.toInt = (61 : Int) := mt (i_eq (x := v146) (y := 61)).mpr c150
                refine lv_iconst (v := 0) S.x S.b d_Tok_mark_106 (by decide) ?_
                refine lv_istore (lv' := [(5, .int 0), (4, .int v139), (3, .int 1), (2, .int p0), (0, .ref h), (1, .int p0)]) S.x S.b d_Tok_mark_107 hl (by decide) rfl (fun ls hl => ?_)
                refine lv_iload S.x S.b d_Tok_mark_109 (lv_at hl 0 rfl) ?_
                refine lv_if_le (tgt := 120) S.x S.b d_Tok_mark_111 (by decide) (fun c151 => ?_) (fun c151 => ?_)
                ·
                  refine lv_aload_n S.x S.b d_Tok_mark_120 rfl (lv_at hl 4 rfl) ?_
                  refine lv_dup S.x S.b d_Tok_mark_121 rfl ?_
                  refine px_get S k_Tok hT hw 0 0 8 (v := .int (f 8)) rfl rfl rfl (by decide) m1_111 d_Tok_mark_122 ?_
                  refine lv_iload_n S.x S.b d_Tok_mark_125 rfl (lv_at hl 2 rfl) ?_
                  refine lv_iadd S.x S.b d_Tok_mark_126 ?_
                  have lr152 := Int32.le_toInt (f 8)
                  have ur152 := Int32.toInt_lt (f 8)
                  refine lv_topi (fun z153 ez153 => ?_)
                  have tz153 : z153.toInt = ((f 8).toInt + (1 : Int) + 2147483648) % 4294967296 - 2147483648 := by rw [ez153]; exact i_add (f 8) 1
                  have lz153 := Int32.le_toInt z153
                  have uz153 := Int32.toInt_lt z153
                  try replace tz153 : z153.toInt = (f 8).toInt + (1 : Int) := by omega
                  refine px_put S k_Tok hT hw 0 0 8 rfl rfl (by decide) m1_111 rfl rfl rfl (Nat.le_of_ble_eq_true rfl) d_Tok_mark_127 (w' := wd_Tok cs h r (fun _ => some tp) (upd f 8 z153) a g) (ps' := [wd_Tok cs h r (fun _ => some tp) (upd f 8 z153) a g, [(tp, .inl (cs 1, 2048, .inl tb))]]) rfl rfl (fun H locs hw => ?_)
                  refine lv_iload_n S.x S.b d_Tok_mark_130 rfl (lv_at hl 3 rfl) ?_
                  exact px_iret (v := p0) S hr rfl hlk hAe hw (Nat.le_of_ble_eq_true rfl) (Nat.le_of_ble_eq_true rfl) (⟨(upd f 8 z153), a, rfl, (show TokOk (f 7) z153 (f 10) (f 11) (f 12) (f 13) (f 17) (a 4) from ⟨⟨by omega, by omega⟩, ⟨by omega, by omega⟩, ⟨by omega, by omega⟩, ⟨by omega, by omega⟩, ⟨by omega, by omega⟩, ⟨by omega, by omega⟩, by omega, hn4⟩), (show (f 7).toInt = (f 7).toInt from by omega)⟩) d_Tok_mark_131
                · exact absurd c151 (by decide)
              · have nc150 : v146.toInt = (61 : Int) := (i_eq (x := v146) (y := 61)).mp c150
                refine lv_iload_n S.x S.b d_Tok_mark_99 rfl (lv_at hl 2 rfl) ?_
                refine px_calli (pr := [wd_Tok cs h r (fun _ => some tp) f a g, [(tp, .inl (cs 1, 2048, .inl tb))]]) (px_runS (As := [.int p0]) (rest := []) S (c_Tok_withEquals l D cs p0 _) hT (pr := [wd_Tok cs h r (fun _ => some tp) f a g, [(tp, .inl (cs 1, 2048, .inl tb))]]) (pcs := []) hw px_X.tt m4_67 m4_65 m4_66 m1_2 q_Tok_withEquals ⟨Nat.le_of_ble_eq_true rfl, Nat.le_of_ble_eq_true rfl⟩ hl.1 rfl (Nat.le_of_ble_eq_true rfl) d_Tok_mark_100 ⟨Nat.le_of_ble_eq_true rfl, Nat.le_of_ble_eq_true rfl⟩) hw hA (fun v157 p156 H locs hp156 hw => ?_)
                subst hp156
                have hw : pw D A s.heap H locs [wd_Tok cs h r (fun _ => some tp) f a g, [(tp, .inl (cs 1, 2048, .inl tb))]] := hw
                have lv157 := Int32.le_toInt v157
                have uv157 := Int32.toInt_lt v157
                refine lv_goto (tgt := 107) S.x S.b d_Tok_mark_103 (by decide) ?_
                refine lv_istore (lv' := [(5, .int v157), (4, .int v139), (3, .int 1), (2, .int p0), (0, .ref h), (1, .int p0)]) S.x S.b d_Tok_mark_107 hl (by decide) rfl (fun ls hl => ?_)
                refine lv_iload S.x S.b d_Tok_mark_109 (lv_at hl 0 rfl) ?_
                refine lv_if_le (tgt := 120) S.x S.b d_Tok_mark_111 (by decide) (fun c158 => ?_) (fun c158 => ?_)
                · have nc158 : v157.toInt ≤ (0 : Int) := (i_le (x := v157) (y := 0)).mp c158
                  refine lv_aload_n S.x S.b d_Tok_mark_120 rfl (lv_at hl 4 rfl) ?_
                  refine lv_dup S.x S.b d_Tok_mark_121 rfl ?_
                  refine px_get S k_Tok hT hw 0 0 8 (v := .int (f 8)) rfl rfl rfl (by decide) m1_111 d_Tok_mark_122 ?_
                  refine lv_iload_n S.x S.b d_Tok_mark_125 rfl (lv_at hl 2 rfl) ?_
                  refine lv_iadd S.x S.b d_Tok_mark_126 ?_
                  have lr159 := Int32.le_toInt (f 8)
                  have ur159 := Int32.toInt_lt (f 8)
                  refine lv_topi (fun z160 ez160 => ?_)
                  have tz160 : z160.toInt = ((f 8).toInt + (1 : Int) + 2147483648) % 4294967296 - 2147483648 := by rw [ez160]; exact i_add (f 8) 1
                  have lz160 := Int32.le_toInt z160
                  have uz160 := Int32.toInt_lt z160
                  try replace tz160 : z160.toInt = (f 8).toInt + (1 : Int) := by omega
                  refine px_put S k_Tok hT hw 0 0 8 rfl rfl (by decide) m1_111 rfl rfl rfl (Nat.le_of_ble_eq_true rfl) d_Tok_mark_127 (w' := wd_Tok cs h r (fun _ => some tp) (upd f 8 z160) a g) (ps' := [wd_Tok cs h r (fun _ => some tp) (upd f 8 z160) a g, [(tp, .inl (cs 1, 2048, .inl tb))]]) rfl rfl (fun H locs hw => ?_)
                  refine lv_iload_n S.x S.b d_Tok_mark_130 rfl (lv_at hl 3 rfl) ?_
                  exact px_iret (v := p0) S hr rfl hlk hAe hw (Nat.le_of_ble_eq_true rfl) (Nat.le_of_ble_eq_true rfl) (⟨(upd f 8 z160), a, rfl, (show TokOk (f 7) z160 (f 10) (f 11) (f 12) (f 13) (f 17) (a 4) from ⟨⟨by omega, by omega⟩, ⟨by omega, by omega⟩, ⟨by omega, by omega⟩, ⟨by omega, by omega⟩, ⟨by omega, by omega⟩, ⟨by omega, by omega⟩, by omega, hn4⟩), (show (f 7).toInt = (f 7).toInt from by omega)⟩) d_Tok_mark_131
                · have nc158 : ¬ v157.toInt ≤ (0 : Int) := mt (i_le (x := v157) (y := 0)).mpr c158
                  refine lv_iload S.x S.b d_Tok_mark_114 (lv_at hl 0 rfl) ?_
                  refine lv_istore_n (lv' := [(2, .int v157), (5, .int v157), (4, .int v139), (3, .int 1), (0, .ref h), (1, .int p0)]) S.x S.b d_Tok_mark_116 rfl hl (by decide) rfl (fun ls hl => ?_)
                  obtain ⟨z161, ez161⟩ : ∃ y : Int32, y = 1 + 1 := ⟨_, rfl⟩
                  have tz161 : z161.toInt = ((1 : Int) + 1 + 2147483648) % 4294967296 - 2147483648 := by rw [ez161]; exact i_add 1 1
                  have lz161 := Int32.le_toInt z161
                  have uz161 := Int32.toInt_lt z161
                  try replace tz161 : z161.toInt = (1 : Int) + 1 := by omega
                  refine lv_iinc (v := z161) (lv' := [(3, .int z161), (2, .int v157), (5, .int v157), (4, .int v139), (0, .ref h), (1, .int p0)]) S.x S.b d_Tok_mark_117 hl (k := 3) rfl (by rw [ez161]; rfl) (by decide) rfl (fun ls hl => ?_)
                  refine lv_aload_n S.x S.b d_Tok_mark_120 rfl (lv_at hl 4 rfl) ?_
                  refine lv_dup S.x S.b d_Tok_mark_121 rfl ?_
                  refine px_get S k_Tok hT hw 0 0 8 (v := .int (f 8)) rfl rfl rfl (by decide) m1_111 d_Tok_mark_122 ?_
                  refine lv_iload_n S.x S.b d_Tok_mark_125 rfl (lv_at hl 0 rfl) ?_
                  refine lv_iadd S.x S.b d_Tok_mark_126 ?_
                  have lr162 := Int32.le_toInt (f 8)
                  have ur162 := Int32.toInt_lt (f 8)
                  refine lv_topi (fun z163 ez163 => ?_)
                  have tz163 : z163.toInt = ((f 8).toInt + z161.toInt + 2147483648) % 4294967296 - 2147483648 := by rw [ez163]; exact i_add (f 8) z161
                  have lz163 := Int32.le_toInt z163
                  have uz163 := Int32.toInt_lt z163
                  try replace tz163 : z163.toInt = (f 8).toInt + z161.toInt := by omega
                  refine px_put S k_Tok hT hw 0 0 8 rfl rfl (by decide) m1_111 rfl rfl rfl (Nat.le_of_ble_eq_true rfl) d_Tok_mark_127 (w' := wd_Tok cs h r (fun _ => some tp) (upd f 8 z163) a g) (ps' := [wd_Tok cs h r (fun _ => some tp) (upd f 8 z163) a g, [(tp, .inl (cs 1, 2048, .inl tb))]]) rfl rfl (fun H locs hw => ?_)
                  refine lv_iload_n S.x S.b d_Tok_mark_130 rfl (lv_at hl 1 rfl) ?_
                  exact px_iret (v := v157) S hr rfl hlk hAe hw (Nat.le_of_ble_eq_true rfl) (Nat.le_of_ble_eq_true rfl) (⟨(upd f 8 z163), a, rfl, (show TokOk (f 7) z163 (f 10) (f 11) (f 12) (f 13) (f 17) (a 4) from ⟨⟨by omega, by omega⟩, ⟨by omega, by omega⟩, ⟨by omega, by omega⟩, ⟨by omega, by omega⟩, ⟨by omega, by omega⟩, ⟨by omega, by omega⟩, by omega, hn4⟩), (show (f 7).toInt = (f 7).toInt from by omega)⟩) d_Tok_mark_131
            · have nc140 : ¬ v139.toInt ≤ (0 : Int) := mt (i_le (x := v139) (y := 0)).mpr c140
              refine lv_iload S.x S.b d_Tok_mark_79 (lv_at hl 0 rfl) ?_
              refine lv_istore_n (lv' := [(2, .int v139), (4, .int v139), (3, .int 1), (0, .ref h), (1, .int p0)]) S.x S.b d_Tok_mark_81 rfl hl (by decide) rfl (fun ls hl => ?_)
              refine lv_iconst (v := 2) S.x S.b d_Tok_mark_82 (by decide) ?_
              refine lv_istore_n (lv' := [(3, .int 2), (2, .int v139), (4, .int v139), (0, .ref h), (1, .int p0)]) S.x S.b d_Tok_mark_83 rfl hl (by decide) rfl (fun ls hl => ?_)
              refine lv_aload_n S.x S.b d_Tok_mark_84 rfl (lv_at hl 3 rfl) ?_
              refine lv_aload_n S.x S.b d_Tok_mark_85 rfl (lv_at hl 3 rfl) ?_
              refine px_get S k_Tok hT hw 0 0 8 (v := .int (f 8)) rfl rfl rfl (by decide) m1_111 d_Tok_mark_86 ?_
              refine lv_iload_n S.x S.b d_Tok_mark_89 rfl (lv_at hl 0 rfl) ?_
              refine lv_iadd S.x S.b d_Tok_mark_90 ?_
              have lr164 := Int32.le_toInt (f 8)
              have ur164 := Int32.toInt_lt (f 8)
              refine lv_topi (fun z165 ez165 => ?_)
              have tz165 : z165.toInt = ((f 8).toInt + (2 : Int) + 2147483648) % 4294967296 - 2147483648 := by rw [ez165]; exact i_add (f 8) 2
              have lz165 := Int32.le_toInt z165
              have uz165 := Int32.toInt_lt z165
              try replace tz165 : z165.toInt = (f 8).toInt + (2 : Int) := by omega
              refine px_calli (pr := []) (px_runV (As := [.int z165]) (rest := []) S (c_Tok_byteAt l D cs h r tp tb f a g z165 (show TokOk (f 7) (f 8) (f 10) (f 11) (f 12) (f 13) (f 17) (a 4) from ⟨⟨by omega, by omega⟩, ⟨by omega, by omega⟩, ⟨by omega, by omega⟩, ⟨by omega, by omega⟩, ⟨by omega, by omega⟩, ⟨by omega, by omega⟩, by omega, hn4⟩)  _) hT (pr := []) (pcs := [wd_Tok cs h r (fun _ => some tp) f a g, [(tp, .inl (cs 1, 2048, .inl tb))]]) hw px_X.tt (px_recv hT hw 0 0 rfl rfl rfl) m3_186 m3_183 m3_185 ms_1_6 m1_2 q_Tok_byteAt ⟨Nat.le_of_ble_eq_true rfl, Nat.le_of_ble_eq_true rfl⟩ hl.1 rfl (Nat.le_of_ble_eq_true rfl) d_Tok_mark_91 ⟨Nat.le_of_ble_eq_true rfl, Nat.le_of_ble_eq_true rfl⟩) hw hA (fun v169 p168 H locs hp168 hw => ?_)
              obtain ⟨rfl, e170, e171, e172⟩ := hp168
              have e170 : -1 ≤ v169.toInt := e170
              have e171 : v169.toInt ≤ 255 := e171
              have e172 : 0 ≤ v169.toInt → 0 ≤ z165.toInt ∧ z165.toInt < (f 7).toInt := e172
              have hw : pw D A s.heap H locs [wd_Tok cs h r (fun _ => some tp) f a g, [(tp, .inl (cs 1, 2048, .inl tb))]] := hw
              have lv169 := Int32.le_toInt v169
              have uv169 := Int32.toInt_lt v169
              refine lv_bipush (v := 61) S.x S.b d_Tok_mark_94 (by decide) ?_
              refine lv_icmp_ne (tgt := 106) S.x S.b d_Tok_mark_96 (by decide) (fun c173 => ?_) (fun c173 => ?_)
              · have nc173 : ¬ v169.toInt = (61 : Int) := mt (i_eq (x := v169) (y := 61)).mpr c173
                refine lv_iconst (v := 0) S.x S.b d_Tok_mark_106 (by decide) ?_
                refine lv_istore (lv' := [(5, .int 0), (3, .int 2), (2, .int v139), (4, .int v139), (0, .ref h), (1, .int p0)]) S.x S.b d_Tok_mark_107 hl (by decide) rfl (fun ls hl => ?_)
                refine lv_iload S.x S.b d_Tok_mark_109 (lv_at hl 0 rfl) ?_
                refine lv_if_le (tgt := 120) S.x S.b d_Tok_mark_111 (by decide) (fun c174 => ?_) (fun c174 => ?_)
                ·
                  refine lv_aload_n S.x S.b d_Tok_mark_120 rfl (lv_at hl 4 rfl) ?_
                  refine lv_dup S.x S.b d_Tok_mark_121 rfl ?_
                  refine px_get S k_Tok hT hw 0 0 8 (v := .int (f 8)) rfl rfl rfl (by decide) m1_111 d_Tok_mark_122 ?_
                  refine lv_iload_n S.x S.b d_Tok_mark_125 rfl (lv_at hl 1 rfl) ?_
                  refine lv_iadd S.x S.b d_Tok_mark_126 ?_
                  have lr175 := Int32.le_toInt (f 8)
                  have ur175 := Int32.toInt_lt (f 8)
                  refine lv_topi (fun z176 ez176 => ?_)
                  have tz176 : z176.toInt = ((f 8).toInt + (2 : Int) + 2147483648) % 4294967296 - 2147483648 := by rw [ez176]; exact i_add (f 8) 2
                  have lz176 := Int32.le_toInt z176
                  have uz176 := Int32.toInt_lt z176
                  try replace tz176 : z176.toInt = (f 8).toInt + (2 : Int) := by omega
                  refine px_put S k_Tok hT hw 0 0 8 rfl rfl (by decide) m1_111 rfl rfl rfl (Nat.le_of_ble_eq_true rfl) d_Tok_mark_127 (w' := wd_Tok cs h r (fun _ => some tp) (upd f 8 z176) a g) (ps' := [wd_Tok cs h r (fun _ => some tp) (upd f 8 z176) a g, [(tp, .inl (cs 1, 2048, .inl tb))]]) rfl rfl (fun H locs hw => ?_)
                  refine lv_iload_n S.x S.b d_Tok_mark_130 rfl (lv_at hl 2 rfl) ?_
                  exact px_iret (v := v139) S hr rfl hlk hAe hw (Nat.le_of_ble_eq_true rfl) (Nat.le_of_ble_eq_true rfl) (⟨(upd f 8 z176), a, rfl, (show TokOk (f 7) z176 (f 10) (f 11) (f 12) (f 13) (f 17) (a 4) from ⟨⟨by omega, by omega⟩, ⟨by omega, by omega⟩, ⟨by omega, by omega⟩, ⟨by omega, by omega⟩, ⟨by omega, by omega⟩, ⟨by omega, by omega⟩, by omega, hn4⟩), (show (f 7).toInt = (f 7).toInt from by omega)⟩) d_Tok_mark_131
                · exact absurd c174 (by decide)
              · have nc173 : v169.toInt = (61 : Int) := (i_eq (x := v169) (y := 61)).mp c173
                refine lv_iload_n S.x S.b d_Tok_mark_99 rfl (lv_at hl 1 rfl) ?_
                refine px_calli (pr := [wd_Tok cs h r (fun _ => some tp) f a g, [(tp, .inl (cs 1, 2048, .inl tb))]]) (px_runS (As := [.int v139]) (rest := []) S (c_Tok_withEquals l D cs v139 _) hT (pr := [wd_Tok cs h r (fun _ => some tp) f a g, [(tp, .inl (cs 1, 2048, .inl tb))]]) (pcs := []) hw px_X.tt m4_67 m4_65 m4_66 m1_2 q_Tok_withEquals ⟨Nat.le_of_ble_eq_true rfl, Nat.le_of_ble_eq_true rfl⟩ hl.1 rfl (Nat.le_of_ble_eq_true rfl) d_Tok_mark_100 ⟨Nat.le_of_ble_eq_true rfl, Nat.le_of_ble_eq_true rfl⟩) hw hA (fun v180 p179 H locs hp179 hw => ?_)
                subst hp179
                have hw : pw D A s.heap H locs [wd_Tok cs h r (fun _ => some tp) f a g, [(tp, .inl (cs 1, 2048, .inl tb))]] := hw
                have lv180 := Int32.le_toInt v180
                have uv180 := Int32.toInt_lt v180
                refine lv_goto (tgt := 107) S.x S.b d_Tok_mark_103 (by decide) ?_
                refine lv_istore (lv' := [(5, .int v180), (3, .int 2), (2, .int v139), (4, .int v139), (0, .ref h), (1, .int p0)]) S.x S.b d_Tok_mark_107 hl (by decide) rfl (fun ls hl => ?_)
                refine lv_iload S.x S.b d_Tok_mark_109 (lv_at hl 0 rfl) ?_
                refine lv_if_le (tgt := 120) S.x S.b d_Tok_mark_111 (by decide) (fun c181 => ?_) (fun c181 => ?_)
                · have nc181 : v180.toInt ≤ (0 : Int) := (i_le (x := v180) (y := 0)).mp c181
                  refine lv_aload_n S.x S.b d_Tok_mark_120 rfl (lv_at hl 4 rfl) ?_
                  refine lv_dup S.x S.b d_Tok_mark_121 rfl ?_
                  refine px_get S k_Tok hT hw 0 0 8 (v := .int (f 8)) rfl rfl rfl (by decide) m1_111 d_Tok_mark_122 ?_
                  refine lv_iload_n S.x S.b d_Tok_mark_125 rfl (lv_at hl 1 rfl) ?_
                  refine lv_iadd S.x S.b d_Tok_mark_126 ?_
                  have lr182 := Int32.le_toInt (f 8)
                  have ur182 := Int32.toInt_lt (f 8)
                  refine lv_topi (fun z183 ez183 => ?_)
                  have tz183 : z183.toInt = ((f 8).toInt + (2 : Int) + 2147483648) % 4294967296 - 2147483648 := by rw [ez183]; exact i_add (f 8) 2
                  have lz183 := Int32.le_toInt z183
                  have uz183 := Int32.toInt_lt z183
                  try replace tz183 : z183.toInt = (f 8).toInt + (2 : Int) := by omega
                  refine px_put S k_Tok hT hw 0 0 8 rfl rfl (by decide) m1_111 rfl rfl rfl (Nat.le_of_ble_eq_true rfl) d_Tok_mark_127 (w' := wd_Tok cs h r (fun _ => some tp) (upd f 8 z183) a g) (ps' := [wd_Tok cs h r (fun _ => some tp) (upd f 8 z183) a g, [(tp, .inl (cs 1, 2048, .inl tb))]]) rfl rfl (fun H locs hw => ?_)
                  refine lv_iload_n S.x S.b d_Tok_mark_130 rfl (lv_at hl 2 rfl) ?_
                  exact px_iret (v := v139) S hr rfl hlk hAe hw (Nat.le_of_ble_eq_true rfl) (Nat.le_of_ble_eq_true rfl) (⟨(upd f 8 z183), a, rfl, (show TokOk (f 7) z183 (f 10) (f 11) (f 12) (f 13) (f 17) (a 4) from ⟨⟨by omega, by omega⟩, ⟨by omega, by omega⟩, ⟨by omega, by omega⟩, ⟨by omega, by omega⟩, ⟨by omega, by omega⟩, ⟨by omega, by omega⟩, by omega, hn4⟩), (show (f 7).toInt = (f 7).toInt from by omega)⟩) d_Tok_mark_131
                · have nc181 : ¬ v180.toInt ≤ (0 : Int) := mt (i_le (x := v180) (y := 0)).mpr c181
                  refine lv_iload S.x S.b d_Tok_mark_114 (lv_at hl 0 rfl) ?_
                  refine lv_istore_n (lv' := [(2, .int v180), (5, .int v180), (3, .int 2), (4, .int v139), (0, .ref h), (1, .int p0)]) S.x S.b d_Tok_mark_116 rfl hl (by decide) rfl (fun ls hl => ?_)
                  obtain ⟨z184, ez184⟩ : ∃ y : Int32, y = 2 + 1 := ⟨_, rfl⟩
                  have tz184 : z184.toInt = ((2 : Int) + 1 + 2147483648) % 4294967296 - 2147483648 := by rw [ez184]; exact i_add 2 1
                  have lz184 := Int32.le_toInt z184
                  have uz184 := Int32.toInt_lt z184
                  try replace tz184 : z184.toInt = (2 : Int) + 1 := by omega
                  refine lv_iinc (v := z184) (lv' := [(3, .int z184), (2, .int v180), (5, .int v180), (4, .int v139), (0, .ref h), (1, .int p0)]) S.x S.b d_Tok_mark_117 hl (k := 2) rfl (by rw [ez184]; rfl) (by decide) rfl (fun ls hl => ?_)
                  refine lv_aload_n S.x S.b d_Tok_mark_120 rfl (lv_at hl 4 rfl) ?_
                  refine lv_dup S.x S.b d_Tok_mark_121 rfl ?_
                  refine px_get S k_Tok hT hw 0 0 8 (v := .int (f 8)) rfl rfl rfl (by decide) m1_111 d_Tok_mark_122 ?_
                  refine lv_iload_n S.x S.b d_Tok_mark_125 rfl (lv_at hl 0 rfl) ?_
                  refine lv_iadd S.x S.b d_Tok_mark_126 ?_
                  have lr185 := Int32.le_toInt (f 8)
                  have ur185 := Int32.toInt_lt (f 8)
                  refine lv_topi (fun z186 ez186 => ?_)
                  have tz186 : z186.toInt = ((f 8).toInt + z184.toInt + 2147483648) % 4294967296 - 2147483648 := by rw [ez186]; exact i_add (f 8) z184
                  have lz186 := Int32.le_toInt z186
                  have uz186 := Int32.toInt_lt z186
                  try replace tz186 : z186.toInt = (f 8).toInt + z184.toInt := by omega
                  refine px_put S k_Tok hT hw 0 0 8 rfl rfl (by decide) m1_111 rfl rfl rfl (Nat.le_of_ble_eq_true rfl) d_Tok_mark_127 (w' := wd_Tok cs h r (fun _ => some tp) (upd f 8 z186) a g) (ps' := [wd_Tok cs h r (fun _ => some tp) (upd f 8 z186) a g, [(tp, .inl (cs 1, 2048, .inl tb))]]) rfl rfl (fun H locs hw => ?_)
                  refine lv_iload_n S.x S.b d_Tok_mark_130 rfl (lv_at hl 1 rfl) ?_
                  exact px_iret (v := v180) S hr rfl hlk hAe hw (Nat.le_of_ble_eq_true rfl) (Nat.le_of_ble_eq_true rfl) (⟨(upd f 8 z186), a, rfl, (show TokOk (f 7) z186 (f 10) (f 11) (f 12) (f 13) (f 17) (a 4) from ⟨⟨by omega, by omega⟩, ⟨by omega, by omega⟩, ⟨by omega, by omega⟩, ⟨by omega, by omega⟩, ⟨by omega, by omega⟩, ⟨by omega, by omega⟩, by omega, hn4⟩), (show (f 7).toInt = (f 7).toInt from by omega)⟩) d_Tok_mark_131
        · have nc101 : v97.toInt = (42 : Int) := (i_eq (x := v97) (y := 42)).mp c101
          refine lv_bipush (v := 19) S.x S.b d_Tok_mark_47 (by decide) ?_
          exact px_iret (v := 19) S hr rfl hlk hAe hw (Nat.le_of_ble_eq_true rfl) (Nat.le_of_ble_eq_true rfl) (⟨f, a, rfl, (show TokOk (f 7) (f 8) (f 10) (f 11) (f 12) (f 13) (f 17) (a 4) from ⟨⟨by omega, by omega⟩, ⟨by omega, by omega⟩, ⟨by omega, by omega⟩, ⟨by omega, by omega⟩, ⟨by omega, by omega⟩, ⟨by omega, by omega⟩, by omega, hn4⟩), (show (f 7).toInt = (f 7).toInt from by omega)⟩) d_Tok_mark_49
  · have nc1 : p0.toInt = (61 : Int) := (i_eq (x := p0) (y := 61)).mp c1
    refine lv_sipush (v := 256) S.x S.b d_Tok_mark_6 (by decide) ?_
    refine lv_goto (tgt := 13) S.x S.b d_Tok_mark_9 (by decide) ?_
    refine lv_istore_n (lv' := [(2, .int 256), (0, .ref h), (1, .int p0)]) S.x S.b d_Tok_mark_13 rfl hl (by decide) rfl (fun ls hl => ?_)
    refine lv_iconst (v := 1) S.x S.b d_Tok_mark_14 (by decide) ?_
    refine lv_istore_n (lv' := [(3, .int 1), (2, .int 256), (0, .ref h), (1, .int p0)]) S.x S.b d_Tok_mark_15 rfl hl (by decide) rfl (fun ls hl => ?_)
    refine va_ldcS S.x S.b S.own hL d_Tok_mark_16 ?_
    refine lv_iload_n S.x S.b d_Tok_mark_18 rfl (lv_at hl 3 rfl) ?_
    refine lv_i2c S.x S.b d_Tok_mark_19 rfl ?_
    refine lv_topi (fun z187 ez187 => ?_)
    have lz187 := Int32.le_toInt z187
    have uz187 := Int32.toInt_lt z187
    refine px_calli (pr := [wd_Tok cs h r (fun _ => some tp) f a g, [(tp, .inl (cs 1, 2048, .inl tb))]]) (px_runV (As := [.int z187]) (rest := []) S (c_String_indexOf1 l D cs sk st sn sb z187  (show sn ≤ 1000000 from by omega) _) hT (pr := [wd_Tok cs h r (fun _ => some tp) f a g, [(tp, .inl (cs 1, 2048, .inl tb))]]) (pcs := []) hw (oX_call (P := (fun A U H => (oZ A U H) ∧ (oS A sk st sn sb U H))) (pr := [wd_Tok cs h r (fun _ => some tp) f a g, [(tp, .inl (cs 1, 2048, .inl tb))]]) (oG_and oG_Z oG_S) hw hA ⟨hZ, hS⟩) (oS_recv hw hS) m4_10 m4_7 m4_8 m4_9 m1_3 q_String_indexOf2 ⟨Nat.le_of_ble_eq_true rfl, Nat.le_of_ble_eq_true rfl⟩ hl.1 rfl (Nat.le_of_ble_eq_true rfl) d_Tok_mark_20 ⟨Nat.le_of_ble_eq_true rfl, Nat.le_of_ble_eq_true rfl⟩) hw hA (fun v189 p188 H locs hp188 hw => ?_)
    subst hp188
    have hw : pw D A s.heap H locs [wd_Tok cs h r (fun _ => some tp) f a g, [(tp, .inl (cs 1, 2048, .inl tb))]] := hw
    have lv189 := Int32.le_toInt v189
    have uv189 := Int32.toInt_lt v189
    refine lv_if_lt (tgt := 47) S.x S.b d_Tok_mark_23 (by decide) (fun c190 => ?_) (fun c190 => ?_)
    · have nc190 : v189.toInt < (0 : Int) := (i_lt (x := v189) (y := 0)).mp c190
      refine lv_bipush (v := 19) S.x S.b d_Tok_mark_47 (by decide) ?_
      exact px_iret (v := 19) S hr rfl hlk hAe hw (Nat.le_of_ble_eq_true rfl) (Nat.le_of_ble_eq_true rfl) (⟨f, a, rfl, (show TokOk (f 7) (f 8) (f 10) (f 11) (f 12) (f 13) (f 17) (a 4) from ⟨⟨by omega, by omega⟩, ⟨by omega, by omega⟩, ⟨by omega, by omega⟩, ⟨by omega, by omega⟩, ⟨by omega, by omega⟩, ⟨by omega, by omega⟩, by omega, hn4⟩), (show (f 7).toInt = (f 7).toInt from by omega)⟩) d_Tok_mark_49
    · have nc190 : ¬ v189.toInt < (0 : Int) := mt (i_lt (x := v189) (y := 0)).mpr c190
      refine lv_iload_n S.x S.b d_Tok_mark_26 rfl (lv_at hl 3 rfl) ?_
      refine lv_bipush (v := 47) S.x S.b d_Tok_mark_27 (by decide) ?_
      refine lv_icmp_ne (tgt := 50) S.x S.b d_Tok_mark_29 (by decide) (fun c191 => ?_) (fun c191 => ?_)
      · have nc191 : ¬ p0.toInt = (47 : Int) := mt (i_eq (x := p0) (y := 47)).mpr c191
        refine lv_aload_n S.x S.b d_Tok_mark_50 rfl (lv_at hl 2 rfl) ?_
        refine lv_aload_n S.x S.b d_Tok_mark_51 rfl (lv_at hl 2 rfl) ?_
        refine px_get S k_Tok hT hw 0 0 8 (v := .int (f 8)) rfl rfl rfl (by decide) m1_111 d_Tok_mark_52 ?_
        refine lv_iconst (v := 1) S.x S.b d_Tok_mark_55 (by decide) ?_
        refine lv_iadd S.x S.b d_Tok_mark_56 ?_
        have lr192 := Int32.le_toInt (f 8)
        have ur192 := Int32.toInt_lt (f 8)
        refine lv_topi (fun z193 ez193 => ?_)
        have tz193 : z193.toInt = ((f 8).toInt + (1 : Int) + 2147483648) % 4294967296 - 2147483648 := by rw [ez193]; exact i_add (f 8) 1
        have lz193 := Int32.le_toInt z193
        have uz193 := Int32.toInt_lt z193
        try replace tz193 : z193.toInt = (f 8).toInt + (1 : Int) := by omega
        refine px_calli (pr := []) (px_runV (As := [.int z193]) (rest := []) S (c_Tok_byteAt l D cs h r tp tb f a g z193 (show TokOk (f 7) (f 8) (f 10) (f 11) (f 12) (f 13) (f 17) (a 4) from ⟨⟨by omega, by omega⟩, ⟨by omega, by omega⟩, ⟨by omega, by omega⟩, ⟨by omega, by omega⟩, ⟨by omega, by omega⟩, ⟨by omega, by omega⟩, by omega, hn4⟩)  _) hT (pr := []) (pcs := [wd_Tok cs h r (fun _ => some tp) f a g, [(tp, .inl (cs 1, 2048, .inl tb))]]) hw px_X.tt (px_recv hT hw 0 0 rfl rfl rfl) m3_186 m3_183 m3_185 ms_1_6 m1_2 q_Tok_byteAt ⟨Nat.le_of_ble_eq_true rfl, Nat.le_of_ble_eq_true rfl⟩ hl.1 rfl (Nat.le_of_ble_eq_true rfl) d_Tok_mark_57 ⟨Nat.le_of_ble_eq_true rfl, Nat.le_of_ble_eq_true rfl⟩) hw hA (fun v197 p196 H locs hp196 hw => ?_)
        obtain ⟨rfl, e198, e199, e200⟩ := hp196
        have e198 : -1 ≤ v197.toInt := e198
        have e199 : v197.toInt ≤ 255 := e199
        have e200 : 0 ≤ v197.toInt → 0 ≤ z193.toInt ∧ z193.toInt < (f 7).toInt := e200
        have hw : pw D A s.heap H locs [wd_Tok cs h r (fun _ => some tp) f a g, [(tp, .inl (cs 1, 2048, .inl tb))]] := hw
        have lv197 := Int32.le_toInt v197
        have uv197 := Int32.toInt_lt v197
        refine lv_iload_n S.x S.b d_Tok_mark_60 rfl (lv_at hl 3 rfl) ?_
        refine lv_icmp_ne (tgt := 71) S.x S.b d_Tok_mark_61 (by decide) (fun c201 => ?_) (fun c201 => ?_)
        · have nc201 : ¬ v197.toInt = p0.toInt := mt (i_eq (x := v197) (y := p0)).mpr c201
          refine lv_iconst (v := 0) S.x S.b d_Tok_mark_71 (by decide) ?_
          refine lv_istore (lv' := [(4, .int 0), (3, .int 1), (2, .int 256), (0, .ref h), (1, .int p0)]) S.x S.b d_Tok_mark_72 hl (by decide) rfl (fun ls hl => ?_)
          refine lv_iload S.x S.b d_Tok_mark_74 (lv_at hl 0 rfl) ?_
          refine lv_if_le (tgt := 84) S.x S.b d_Tok_mark_76 (by decide) (fun c202 => ?_) (fun c202 => ?_)
          ·
            refine lv_aload_n S.x S.b d_Tok_mark_84 rfl (lv_at hl 3 rfl) ?_
            refine lv_aload_n S.x S.b d_Tok_mark_85 rfl (lv_at hl 3 rfl) ?_
            refine px_get S k_Tok hT hw 0 0 8 (v := .int (f 8)) rfl rfl rfl (by decide) m1_111 d_Tok_mark_86 ?_
            refine lv_iload_n S.x S.b d_Tok_mark_89 rfl (lv_at hl 1 rfl) ?_
            refine lv_iadd S.x S.b d_Tok_mark_90 ?_
            have lr203 := Int32.le_toInt (f 8)
            have ur203 := Int32.toInt_lt (f 8)
            refine lv_topi (fun z204 ez204 => ?_)
            have tz204 : z204.toInt = ((f 8).toInt + (1 : Int) + 2147483648) % 4294967296 - 2147483648 := by rw [ez204]; exact i_add (f 8) 1
            have lz204 := Int32.le_toInt z204
            have uz204 := Int32.toInt_lt z204
            try replace tz204 : z204.toInt = (f 8).toInt + (1 : Int) := by omega
            refine px_calli (pr := []) (px_runV (As := [.int z204]) (rest := []) S (c_Tok_byteAt l D cs h r tp tb f a g z204 (show TokOk (f 7) (f 8) (f 10) (f 11) (f 12) (f 13) (f 17) (a 4) from ⟨⟨by omega, by omega⟩, ⟨by omega, by omega⟩, ⟨by omega, by omega⟩, ⟨by omega, by omega⟩, ⟨by omega, by omega⟩, ⟨by omega, by omega⟩, by omega, hn4⟩)  _) hT (pr := []) (pcs := [wd_Tok cs h r (fun _ => some tp) f a g, [(tp, .inl (cs 1, 2048, .inl tb))]]) hw px_X.tt (px_recv hT hw 0 0 rfl rfl rfl) m3_186 m3_183 m3_185 ms_1_6 m1_2 q_Tok_byteAt ⟨Nat.le_of_ble_eq_true rfl, Nat.le_of_ble_eq_true rfl⟩ hl.1 rfl (Nat.le_of_ble_eq_true rfl) d_Tok_mark_91 ⟨Nat.le_of_ble_eq_true rfl, Nat.le_of_ble_eq_true rfl⟩) hw hA (fun v208 p207 H locs hp207 hw => ?_)
            obtain ⟨rfl, e209, e210, e211⟩ := hp207
            have e209 : -1 ≤ v208.toInt := e209
            have e210 : v208.toInt ≤ 255 := e210
            have e211 : 0 ≤ v208.toInt → 0 ≤ z204.toInt ∧ z204.toInt < (f 7).toInt := e211
            have hw : pw D A s.heap H locs [wd_Tok cs h r (fun _ => some tp) f a g, [(tp, .inl (cs 1, 2048, .inl tb))]] := hw
            have lv208 := Int32.le_toInt v208
            have uv208 := Int32.toInt_lt v208
            refine lv_bipush (v := 61) S.x S.b d_Tok_mark_94 (by decide) ?_
            refine lv_icmp_ne (tgt := 106) S.x S.b d_Tok_mark_96 (by decide) (fun c212 => ?_) (fun c212 => ?_)
            · have nc212 : ¬ v208.toInt = (61 : Int) := mt (i_eq (x := v208) (y := 61)).mpr c212
              refine lv_iconst (v := 0) S.x S.b d_Tok_mark_106 (by decide) ?_
              refine lv_istore (lv' := [(5, .int 0), (4, .int 0), (3, .int 1), (2, .int 256), (0, .ref h), (1, .int p0)]) S.x S.b d_Tok_mark_107 hl (by decide) rfl (fun ls hl => ?_)
              refine lv_iload S.x S.b d_Tok_mark_109 (lv_at hl 0 rfl) ?_
              refine lv_if_le (tgt := 120) S.x S.b d_Tok_mark_111 (by decide) (fun c213 => ?_) (fun c213 => ?_)
              ·
                refine lv_aload_n S.x S.b d_Tok_mark_120 rfl (lv_at hl 4 rfl) ?_
                refine lv_dup S.x S.b d_Tok_mark_121 rfl ?_
                refine px_get S k_Tok hT hw 0 0 8 (v := .int (f 8)) rfl rfl rfl (by decide) m1_111 d_Tok_mark_122 ?_
                refine lv_iload_n S.x S.b d_Tok_mark_125 rfl (lv_at hl 2 rfl) ?_
                refine lv_iadd S.x S.b d_Tok_mark_126 ?_
                have lr214 := Int32.le_toInt (f 8)
                have ur214 := Int32.toInt_lt (f 8)
                refine lv_topi (fun z215 ez215 => ?_)
                have tz215 : z215.toInt = ((f 8).toInt + (1 : Int) + 2147483648) % 4294967296 - 2147483648 := by rw [ez215]; exact i_add (f 8) 1
                have lz215 := Int32.le_toInt z215
                have uz215 := Int32.toInt_lt z215
                try replace tz215 : z215.toInt = (f 8).toInt + (1 : Int) := by omega
                refine px_put S k_Tok hT hw 0 0 8 rfl rfl (by decide) m1_111 rfl rfl rfl (Nat.le_of_ble_eq_true rfl) d_Tok_mark_127 (w' := wd_Tok cs h r (fun _ => some tp) (upd f 8 z215) a g) (ps' := [wd_Tok cs h r (fun _ => some tp) (upd f 8 z215) a g, [(tp, .inl (cs 1, 2048, .inl tb))]]) rfl rfl (fun H locs hw => ?_)
                refine lv_iload_n S.x S.b d_Tok_mark_130 rfl (lv_at hl 3 rfl) ?_
                exact px_iret (v := 256) S hr rfl hlk hAe hw (Nat.le_of_ble_eq_true rfl) (Nat.le_of_ble_eq_true rfl) (⟨(upd f 8 z215), a, rfl, (show TokOk (f 7) z215 (f 10) (f 11) (f 12) (f 13) (f 17) (a 4) from ⟨⟨by omega, by omega⟩, ⟨by omega, by omega⟩, ⟨by omega, by omega⟩, ⟨by omega, by omega⟩, ⟨by omega, by omega⟩, ⟨by omega, by omega⟩, by omega, hn4⟩), (show (f 7).toInt = (f 7).toInt from by omega)⟩) d_Tok_mark_131
              · exact absurd c213 (by decide)
            · have nc212 : v208.toInt = (61 : Int) := (i_eq (x := v208) (y := 61)).mp c212
              refine lv_iload_n S.x S.b d_Tok_mark_99 rfl (lv_at hl 2 rfl) ?_
              refine px_calli (pr := [wd_Tok cs h r (fun _ => some tp) f a g, [(tp, .inl (cs 1, 2048, .inl tb))]]) (px_runS (As := [.int 256]) (rest := []) S (c_Tok_withEquals l D cs 256 _) hT (pr := [wd_Tok cs h r (fun _ => some tp) f a g, [(tp, .inl (cs 1, 2048, .inl tb))]]) (pcs := []) hw px_X.tt m4_67 m4_65 m4_66 m1_2 q_Tok_withEquals ⟨Nat.le_of_ble_eq_true rfl, Nat.le_of_ble_eq_true rfl⟩ hl.1 rfl (Nat.le_of_ble_eq_true rfl) d_Tok_mark_100 ⟨Nat.le_of_ble_eq_true rfl, Nat.le_of_ble_eq_true rfl⟩) hw hA (fun v219 p218 H locs hp218 hw => ?_)
              subst hp218
              have hw : pw D A s.heap H locs [wd_Tok cs h r (fun _ => some tp) f a g, [(tp, .inl (cs 1, 2048, .inl tb))]] := hw
              have lv219 := Int32.le_toInt v219
              have uv219 := Int32.toInt_lt v219
              refine lv_goto (tgt := 107) S.x S.b d_Tok_mark_103 (by decide) ?_
              refine lv_istore (lv' := [(5, .int v219), (4, .int 0), (3, .int 1), (2, .int 256), (0, .ref h), (1, .int p0)]) S.x S.b d_Tok_mark_107 hl (by decide) rfl (fun ls hl => ?_)
              refine lv_iload S.x S.b d_Tok_mark_109 (lv_at hl 0 rfl) ?_
              refine lv_if_le (tgt := 120) S.x S.b d_Tok_mark_111 (by decide) (fun c220 => ?_) (fun c220 => ?_)
              · have nc220 : v219.toInt ≤ (0 : Int) := (i_le (x := v219) (y := 0)).mp c220
                refine lv_aload_n S.x S.b d_Tok_mark_120 rfl (lv_at hl 4 rfl) ?_
                refine lv_dup S.x S.b d_Tok_mark_121 rfl ?_
                refine px_get S k_Tok hT hw 0 0 8 (v := .int (f 8)) rfl rfl rfl (by decide) m1_111 d_Tok_mark_122 ?_
                refine lv_iload_n S.x S.b d_Tok_mark_125 rfl (lv_at hl 2 rfl) ?_
                refine lv_iadd S.x S.b d_Tok_mark_126 ?_
                have lr221 := Int32.le_toInt (f 8)
                have ur221 := Int32.toInt_lt (f 8)
                refine lv_topi (fun z222 ez222 => ?_)
                have tz222 : z222.toInt = ((f 8).toInt + (1 : Int) + 2147483648) % 4294967296 - 2147483648 := by rw [ez222]; exact i_add (f 8) 1
                have lz222 := Int32.le_toInt z222
                have uz222 := Int32.toInt_lt z222
                try replace tz222 : z222.toInt = (f 8).toInt + (1 : Int) := by omega
                refine px_put S k_Tok hT hw 0 0 8 rfl rfl (by decide) m1_111 rfl rfl rfl (Nat.le_of_ble_eq_true rfl) d_Tok_mark_127 (w' := wd_Tok cs h r (fun _ => some tp) (upd f 8 z222) a g) (ps' := [wd_Tok cs h r (fun _ => some tp) (upd f 8 z222) a g, [(tp, .inl (cs 1, 2048, .inl tb))]]) rfl rfl (fun H locs hw => ?_)
                refine lv_iload_n S.x S.b d_Tok_mark_130 rfl (lv_at hl 3 rfl) ?_
                exact px_iret (v := 256) S hr rfl hlk hAe hw (Nat.le_of_ble_eq_true rfl) (Nat.le_of_ble_eq_true rfl) (⟨(upd f 8 z222), a, rfl, (show TokOk (f 7) z222 (f 10) (f 11) (f 12) (f 13) (f 17) (a 4) from ⟨⟨by omega, by omega⟩, ⟨by omega, by omega⟩, ⟨by omega, by omega⟩, ⟨by omega, by omega⟩, ⟨by omega, by omega⟩, ⟨by omega, by omega⟩, by omega, hn4⟩), (show (f 7).toInt = (f 7).toInt from by omega)⟩) d_Tok_mark_131
              · have nc220 : ¬ v219.toInt ≤ (0 : Int) := mt (i_le (x := v219) (y := 0)).mpr c220
                refine lv_iload S.x S.b d_Tok_mark_114 (lv_at hl 0 rfl) ?_
                refine lv_istore_n (lv' := [(2, .int v219), (5, .int v219), (4, .int 0), (3, .int 1), (0, .ref h), (1, .int p0)]) S.x S.b d_Tok_mark_116 rfl hl (by decide) rfl (fun ls hl => ?_)
                obtain ⟨z223, ez223⟩ : ∃ y : Int32, y = 1 + 1 := ⟨_, rfl⟩
                have tz223 : z223.toInt = ((1 : Int) + 1 + 2147483648) % 4294967296 - 2147483648 := by rw [ez223]; exact i_add 1 1
                have lz223 := Int32.le_toInt z223
                have uz223 := Int32.toInt_lt z223
                try replace tz223 : z223.toInt = (1 : Int) + 1 := by omega
                refine lv_iinc (v := z223) (lv' := [(3, .int z223), (2, .int v219), (5, .int v219), (4, .int 0), (0, .ref h), (1, .int p0)]) S.x S.b d_Tok_mark_117 hl (k := 3) rfl (by rw [ez223]; rfl) (by decide) rfl (fun ls hl => ?_)
                refine lv_aload_n S.x S.b d_Tok_mark_120 rfl (lv_at hl 4 rfl) ?_
                refine lv_dup S.x S.b d_Tok_mark_121 rfl ?_
                refine px_get S k_Tok hT hw 0 0 8 (v := .int (f 8)) rfl rfl rfl (by decide) m1_111 d_Tok_mark_122 ?_
                refine lv_iload_n S.x S.b d_Tok_mark_125 rfl (lv_at hl 0 rfl) ?_
                refine lv_iadd S.x S.b d_Tok_mark_126 ?_
                have lr224 := Int32.le_toInt (f 8)
                have ur224 := Int32.toInt_lt (f 8)
                refine lv_topi (fun z225 ez225 => ?_)
                have tz225 : z225.toInt = ((f 8).toInt + z223.toInt + 2147483648) % 4294967296 - 2147483648 := by rw [ez225]; exact i_add (f 8) z223
                have lz225 := Int32.le_toInt z225
                have uz225 := Int32.toInt_lt z225
                try replace tz225 : z225.toInt = (f 8).toInt + z223.toInt := by omega
                refine px_put S k_Tok hT hw 0 0 8 rfl rfl (by decide) m1_111 rfl rfl rfl (Nat.le_of_ble_eq_true rfl) d_Tok_mark_127 (w' := wd_Tok cs h r (fun _ => some tp) (upd f 8 z225) a g) (ps' := [wd_Tok cs h r (fun _ => some tp) (upd f 8 z225) a g, [(tp, .inl (cs 1, 2048, .inl tb))]]) rfl rfl (fun H locs hw => ?_)
                refine lv_iload_n S.x S.b d_Tok_mark_130 rfl (lv_at hl 1 rfl) ?_
                exact px_iret (v := v219) S hr rfl hlk hAe hw (Nat.le_of_ble_eq_true rfl) (Nat.le_of_ble_eq_true rfl) (⟨(upd f 8 z225), a, rfl, (show TokOk (f 7) z225 (f 10) (f 11) (f 12) (f 13) (f 17) (a 4) from ⟨⟨by omega, by omega⟩, ⟨by omega, by omega⟩, ⟨by omega, by omega⟩, ⟨by omega, by omega⟩, ⟨by omega, by omega⟩, ⟨by omega, by omega⟩, by omega, hn4⟩), (show (f 7).toInt = (f 7).toInt from by omega)⟩) d_Tok_mark_131
          · exact absurd c202 (by decide)
        · have nc201 : v197.toInt = p0.toInt := (i_eq (x := v197) (y := p0)).mp c201
          refine lv_iload_n S.x S.b d_Tok_mark_64 rfl (lv_at hl 3 rfl) ?_
          refine px_calli (pr := [wd_Tok cs h r (fun _ => some tp) f a g, [(tp, .inl (cs 1, 2048, .inl tb))]]) (px_runS (As := [.int p0]) (rest := []) S (c_Tok_doubled l D cs p0 _) hT (pr := [wd_Tok cs h r (fun _ => some tp) f a g, [(tp, .inl (cs 1, 2048, .inl tb))]]) (pcs := []) hw px_X.tt m4_64 m4_62 m4_63 m1_2 q_Tok_doubled ⟨Nat.le_of_ble_eq_true rfl, Nat.le_of_ble_eq_true rfl⟩ hl.1 rfl (Nat.le_of_ble_eq_true rfl) d_Tok_mark_65 ⟨Nat.le_of_ble_eq_true rfl, Nat.le_of_ble_eq_true rfl⟩) hw hA (fun v229 p228 H locs hp228 hw => ?_)
          subst hp228
          have hw : pw D A s.heap H locs [wd_Tok cs h r (fun _ => some tp) f a g, [(tp, .inl (cs 1, 2048, .inl tb))]] := hw
          have lv229 := Int32.le_toInt v229
          have uv229 := Int32.toInt_lt v229
          refine lv_goto (tgt := 72) S.x S.b d_Tok_mark_68 (by decide) ?_
          refine lv_istore (lv' := [(4, .int v229), (3, .int 1), (2, .int 256), (0, .ref h), (1, .int p0)]) S.x S.b d_Tok_mark_72 hl (by decide) rfl (fun ls hl => ?_)
          refine lv_iload S.x S.b d_Tok_mark_74 (lv_at hl 0 rfl) ?_
          refine lv_if_le (tgt := 84) S.x S.b d_Tok_mark_76 (by decide) (fun c230 => ?_) (fun c230 => ?_)
          · have nc230 : v229.toInt ≤ (0 : Int) := (i_le (x := v229) (y := 0)).mp c230
            refine lv_aload_n S.x S.b d_Tok_mark_84 rfl (lv_at hl 3 rfl) ?_
            refine lv_aload_n S.x S.b d_Tok_mark_85 rfl (lv_at hl 3 rfl) ?_
            refine px_get S k_Tok hT hw 0 0 8 (v := .int (f 8)) rfl rfl rfl (by decide) m1_111 d_Tok_mark_86 ?_
            refine lv_iload_n S.x S.b d_Tok_mark_89 rfl (lv_at hl 1 rfl) ?_
            refine lv_iadd S.x S.b d_Tok_mark_90 ?_
            have lr231 := Int32.le_toInt (f 8)
            have ur231 := Int32.toInt_lt (f 8)
            refine lv_topi (fun z232 ez232 => ?_)
            have tz232 : z232.toInt = ((f 8).toInt + (1 : Int) + 2147483648) % 4294967296 - 2147483648 := by rw [ez232]; exact i_add (f 8) 1
            have lz232 := Int32.le_toInt z232
            have uz232 := Int32.toInt_lt z232
            try replace tz232 : z232.toInt = (f 8).toInt + (1 : Int) := by omega
            refine px_calli (pr := []) (px_runV (As := [.int z232]) (rest := []) S (c_Tok_byteAt l D cs h r tp tb f a g z232 (show TokOk (f 7) (f 8) (f 10) (f 11) (f 12) (f 13) (f 17) (a 4) from ⟨⟨by omega, by omega⟩, ⟨by omega, by omega⟩, ⟨by omega, by omega⟩, ⟨by omega, by omega⟩, ⟨by omega, by omega⟩, ⟨by omega, by omega⟩, by omega, hn4⟩)  _) hT (pr := []) (pcs := [wd_Tok cs h r (fun _ => some tp) f a g, [(tp, .inl (cs 1, 2048, .inl tb))]]) hw px_X.tt (px_recv hT hw 0 0 rfl rfl rfl) m3_186 m3_183 m3_185 ms_1_6 m1_2 q_Tok_byteAt ⟨Nat.le_of_ble_eq_true rfl, Nat.le_of_ble_eq_true rfl⟩ hl.1 rfl (Nat.le_of_ble_eq_true rfl) d_Tok_mark_91 ⟨Nat.le_of_ble_eq_true rfl, Nat.le_of_ble_eq_true rfl⟩) hw hA (fun v236 p235 H locs hp235 hw => ?_)
            obtain ⟨rfl, e237, e238, e239⟩ := hp235
            have e237 : -1 ≤ v236.toInt := e237
            have e238 : v236.toInt ≤ 255 := e238
            have e239 : 0 ≤ v236.toInt → 0 ≤ z232.toInt ∧ z232.toInt < (f 7).toInt := e239
            have hw : pw D A s.heap H locs [wd_Tok cs h r (fun _ => some tp) f a g, [(tp, .inl (cs 1, 2048, .inl tb))]] := hw
            have lv236 := Int32.le_toInt v236
            have uv236 := Int32.toInt_lt v236
            refine lv_bipush (v := 61) S.x S.b d_Tok_mark_94 (by decide) ?_
            refine lv_icmp_ne (tgt := 106) S.x S.b d_Tok_mark_96 (by decide) (fun c240 => ?_) (fun c240 => ?_)
            · have nc240 : ¬ v236.toInt = (61 : Int) := mt (i_eq (x := v236) (y := 61)).mpr c240
              refine lv_iconst (v := 0) S.x S.b d_Tok_mark_106 (by decide) ?_
              refine lv_istore (lv' := [(5, .int 0), (4, .int v229), (3, .int 1), (2, .int 256), (0, .ref h), (1, .int p0)]) S.x S.b d_Tok_mark_107 hl (by decide) rfl (fun ls hl => ?_)
              refine lv_iload S.x S.b d_Tok_mark_109 (lv_at hl 0 rfl) ?_
              refine lv_if_le (tgt := 120) S.x S.b d_Tok_mark_111 (by decide) (fun c241 => ?_) (fun c241 => ?_)
              ·
                refine lv_aload_n S.x S.b d_Tok_mark_120 rfl (lv_at hl 4 rfl) ?_
                refine lv_dup S.x S.b d_Tok_mark_121 rfl ?_
                refine px_get S k_Tok hT hw 0 0 8 (v := .int (f 8)) rfl rfl rfl (by decide) m1_111 d_Tok_mark_122 ?_
                refine lv_iload_n S.x S.b d_Tok_mark_125 rfl (lv_at hl 2 rfl) ?_
                refine lv_iadd S.x S.b d_Tok_mark_126 ?_
                have lr242 := Int32.le_toInt (f 8)
                have ur242 := Int32.toInt_lt (f 8)
                refine lv_topi (fun z243 ez243 => ?_)
                have tz243 : z243.toInt = ((f 8).toInt + (1 : Int) + 2147483648) % 4294967296 - 2147483648 := by rw [ez243]; exact i_add (f 8) 1
                have lz243 := Int32.le_toInt z243
                have uz243 := Int32.toInt_lt z243
                try replace tz243 : z243.toInt = (f 8).toInt + (1 : Int) := by omega
                refine px_put S k_Tok hT hw 0 0 8 rfl rfl (by decide) m1_111 rfl rfl rfl (Nat.le_of_ble_eq_true rfl) d_Tok_mark_127 (w' := wd_Tok cs h r (fun _ => some tp) (upd f 8 z243) a g) (ps' := [wd_Tok cs h r (fun _ => some tp) (upd f 8 z243) a g, [(tp, .inl (cs 1, 2048, .inl tb))]]) rfl rfl (fun H locs hw => ?_)
                refine lv_iload_n S.x S.b d_Tok_mark_130 rfl (lv_at hl 3 rfl) ?_
                exact px_iret (v := 256) S hr rfl hlk hAe hw (Nat.le_of_ble_eq_true rfl) (Nat.le_of_ble_eq_true rfl) (⟨(upd f 8 z243), a, rfl, (show TokOk (f 7) z243 (f 10) (f 11) (f 12) (f 13) (f 17) (a 4) from ⟨⟨by omega, by omega⟩, ⟨by omega, by omega⟩, ⟨by omega, by omega⟩, ⟨by omega, by omega⟩, ⟨by omega, by omega⟩, ⟨by omega, by omega⟩, by omega, hn4⟩), (show (f 7).toInt = (f 7).toInt from by omega)⟩) d_Tok_mark_131
              · exact absurd c241 (by decide)
            · have nc240 : v236.toInt = (61 : Int) := (i_eq (x := v236) (y := 61)).mp c240
              refine lv_iload_n S.x S.b d_Tok_mark_99 rfl (lv_at hl 2 rfl) ?_
              refine px_calli (pr := [wd_Tok cs h r (fun _ => some tp) f a g, [(tp, .inl (cs 1, 2048, .inl tb))]]) (px_runS (As := [.int 256]) (rest := []) S (c_Tok_withEquals l D cs 256 _) hT (pr := [wd_Tok cs h r (fun _ => some tp) f a g, [(tp, .inl (cs 1, 2048, .inl tb))]]) (pcs := []) hw px_X.tt m4_67 m4_65 m4_66 m1_2 q_Tok_withEquals ⟨Nat.le_of_ble_eq_true rfl, Nat.le_of_ble_eq_true rfl⟩ hl.1 rfl (Nat.le_of_ble_eq_true rfl) d_Tok_mark_100 ⟨Nat.le_of_ble_eq_true rfl, Nat.le_of_ble_eq_true rfl⟩) hw hA (fun v247 p246 H locs hp246 hw => ?_)
              subst hp246
              have hw : pw D A s.heap H locs [wd_Tok cs h r (fun _ => some tp) f a g, [(tp, .inl (cs 1, 2048, .inl tb))]] := hw
              have lv247 := Int32.le_toInt v247
              have uv247 := Int32.toInt_lt v247
              refine lv_goto (tgt := 107) S.x S.b d_Tok_mark_103 (by decide) ?_
              refine lv_istore (lv' := [(5, .int v247), (4, .int v229), (3, .int 1), (2, .int 256), (0, .ref h), (1, .int p0)]) S.x S.b d_Tok_mark_107 hl (by decide) rfl (fun ls hl => ?_)
              refine lv_iload S.x S.b d_Tok_mark_109 (lv_at hl 0 rfl) ?_
              refine lv_if_le (tgt := 120) S.x S.b d_Tok_mark_111 (by decide) (fun c248 => ?_) (fun c248 => ?_)
              · have nc248 : v247.toInt ≤ (0 : Int) := (i_le (x := v247) (y := 0)).mp c248
                refine lv_aload_n S.x S.b d_Tok_mark_120 rfl (lv_at hl 4 rfl) ?_
                refine lv_dup S.x S.b d_Tok_mark_121 rfl ?_
                refine px_get S k_Tok hT hw 0 0 8 (v := .int (f 8)) rfl rfl rfl (by decide) m1_111 d_Tok_mark_122 ?_
                refine lv_iload_n S.x S.b d_Tok_mark_125 rfl (lv_at hl 2 rfl) ?_
                refine lv_iadd S.x S.b d_Tok_mark_126 ?_
                have lr249 := Int32.le_toInt (f 8)
                have ur249 := Int32.toInt_lt (f 8)
                refine lv_topi (fun z250 ez250 => ?_)
                have tz250 : z250.toInt = ((f 8).toInt + (1 : Int) + 2147483648) % 4294967296 - 2147483648 := by rw [ez250]; exact i_add (f 8) 1
                have lz250 := Int32.le_toInt z250
                have uz250 := Int32.toInt_lt z250
                try replace tz250 : z250.toInt = (f 8).toInt + (1 : Int) := by omega
                refine px_put S k_Tok hT hw 0 0 8 rfl rfl (by decide) m1_111 rfl rfl rfl (Nat.le_of_ble_eq_true rfl) d_Tok_mark_127 (w' := wd_Tok cs h r (fun _ => some tp) (upd f 8 z250) a g) (ps' := [wd_Tok cs h r (fun _ => some tp) (upd f 8 z250) a g, [(tp, .inl (cs 1, 2048, .inl tb))]]) rfl rfl (fun H locs hw => ?_)
                refine lv_iload_n S.x S.b d_Tok_mark_130 rfl (lv_at hl 3 rfl) ?_
                exact px_iret (v := 256) S hr rfl hlk hAe hw (Nat.le_of_ble_eq_true rfl) (Nat.le_of_ble_eq_true rfl) (⟨(upd f 8 z250), a, rfl, (show TokOk (f 7) z250 (f 10) (f 11) (f 12) (f 13) (f 17) (a 4) from ⟨⟨by omega, by omega⟩, ⟨by omega, by omega⟩, ⟨by omega, by omega⟩, ⟨by omega, by omega⟩, ⟨by omega, by omega⟩, ⟨by omega, by omega⟩, by omega, hn4⟩), (show (f 7).toInt = (f 7).toInt from by omega)⟩) d_Tok_mark_131
              · have nc248 : ¬ v247.toInt ≤ (0 : Int) := mt (i_le (x := v247) (y := 0)).mpr c248
                refine lv_iload S.x S.b d_Tok_mark_114 (lv_at hl 0 rfl) ?_
                refine lv_istore_n (lv' := [(2, .int v247), (5, .int v247), (4, .int v229), (3, .int 1), (0, .ref h), (1, .int p0)]) S.x S.b d_Tok_mark_116 rfl hl (by decide) rfl (fun ls hl => ?_)
                obtain ⟨z251, ez251⟩ : ∃ y : Int32, y = 1 + 1 := ⟨_, rfl⟩
                have tz251 : z251.toInt = ((1 : Int) + 1 + 2147483648) % 4294967296 - 2147483648 := by rw [ez251]; exact i_add 1 1
                have lz251 := Int32.le_toInt z251
                have uz251 := Int32.toInt_lt z251
                try replace tz251 : z251.toInt = (1 : Int) + 1 := by omega
                refine lv_iinc (v := z251) (lv' := [(3, .int z251), (2, .int v247), (5, .int v247), (4, .int v229), (0, .ref h), (1, .int p0)]) S.x S.b d_Tok_mark_117 hl (k := 3) rfl (by rw [ez251]; rfl) (by decide) rfl (fun ls hl => ?_)
                refine lv_aload_n S.x S.b d_Tok_mark_120 rfl (lv_at hl 4 rfl) ?_
                refine lv_dup S.x S.b d_Tok_mark_121 rfl ?_
                refine px_get S k_Tok hT hw 0 0 8 (v := .int (f 8)) rfl rfl rfl (by decide) m1_111 d_Tok_mark_122 ?_
                refine lv_iload_n S.x S.b d_Tok_mark_125 rfl (lv_at hl 0 rfl) ?_
                refine lv_iadd S.x S.b d_Tok_mark_126 ?_
                have lr252 := Int32.le_toInt (f 8)
                have ur252 := Int32.toInt_lt (f 8)
                refine lv_topi (fun z253 ez253 => ?_)
                have tz253 : z253.toInt = ((f 8).toInt + z251.toInt + 2147483648) % 4294967296 - 2147483648 := by rw [ez253]; exact i_add (f 8) z251
                have lz253 := Int32.le_toInt z253
                have uz253 := Int32.toInt_lt z253
                try replace tz253 : z253.toInt = (f 8).toInt + z251.toInt := by omega
                refine px_put S k_Tok hT hw 0 0 8 rfl rfl (by decide) m1_111 rfl rfl rfl (Nat.le_of_ble_eq_true rfl) d_Tok_mark_127 (w' := wd_Tok cs h r (fun _ => some tp) (upd f 8 z253) a g) (ps' := [wd_Tok cs h r (fun _ => some tp) (upd f 8 z253) a g, [(tp, .inl (cs 1, 2048, .inl tb))]]) rfl rfl (fun H locs hw => ?_)
                refine lv_iload_n S.x S.b d_Tok_mark_130 rfl (lv_at hl 1 rfl) ?_
                exact px_iret (v := v247) S hr rfl hlk hAe hw (Nat.le_of_ble_eq_true rfl) (Nat.le_of_ble_eq_true rfl) (⟨(upd f 8 z253), a, rfl, (show TokOk (f 7) z253 (f 10) (f 11) (f 12) (f 13) (f 17) (a 4) from ⟨⟨by omega, by omega⟩, ⟨by omega, by omega⟩, ⟨by omega, by omega⟩, ⟨by omega, by omega⟩, ⟨by omega, by omega⟩, ⟨by omega, by omega⟩, by omega, hn4⟩), (show (f 7).toInt = (f 7).toInt from by omega)⟩) d_Tok_mark_131
          · have nc230 : ¬ v229.toInt ≤ (0 : Int) := mt (i_le (x := v229) (y := 0)).mpr c230
            refine lv_iload S.x S.b d_Tok_mark_79 (lv_at hl 0 rfl) ?_
            refine lv_istore_n (lv' := [(2, .int v229), (4, .int v229), (3, .int 1), (0, .ref h), (1, .int p0)]) S.x S.b d_Tok_mark_81 rfl hl (by decide) rfl (fun ls hl => ?_)
            refine lv_iconst (v := 2) S.x S.b d_Tok_mark_82 (by decide) ?_
            refine lv_istore_n (lv' := [(3, .int 2), (2, .int v229), (4, .int v229), (0, .ref h), (1, .int p0)]) S.x S.b d_Tok_mark_83 rfl hl (by decide) rfl (fun ls hl => ?_)
            refine lv_aload_n S.x S.b d_Tok_mark_84 rfl (lv_at hl 3 rfl) ?_
            refine lv_aload_n S.x S.b d_Tok_mark_85 rfl (lv_at hl 3 rfl) ?_
            refine px_get S k_Tok hT hw 0 0 8 (v := .int (f 8)) rfl rfl rfl (by decide) m1_111 d_Tok_mark_86 ?_
            refine lv_iload_n S.x S.b d_Tok_mark_89 rfl (lv_at hl 0 rfl) ?_
            refine lv_iadd S.x S.b d_Tok_mark_90 ?_
            have lr254 := Int32.le_toInt (f 8)
            have ur254 := Int32.toInt_lt (f 8)
            refine lv_topi (fun z255 ez255 => ?_)
            have tz255 : z255.toInt = ((f 8).toInt + (2 : Int) + 2147483648) % 4294967296 - 2147483648 := by rw [ez255]; exact i_add (f 8) 2
            have lz255 := Int32.le_toInt z255
            have uz255 := Int32.toInt_lt z255
            try replace tz255 : z255.toInt = (f 8).toInt + (2 : Int) := by omega
            refine px_calli (pr := []) (px_runV (As := [.int z255]) (rest := []) S (c_Tok_byteAt l D cs h r tp tb f a g z255 (show TokOk (f 7) (f 8) (f 10) (f 11) (f 12) (f 13) (f 17) (a 4) from ⟨⟨by omega, by omega⟩, ⟨by omega, by omega⟩, ⟨by omega, by omega⟩, ⟨by omega, by omega⟩, ⟨by omega, by omega⟩, ⟨by omega, by omega⟩, by omega, hn4⟩)  _) hT (pr := []) (pcs := [wd_Tok cs h r (fun _ => some tp) f a g, [(tp, .inl (cs 1, 2048, .inl tb))]]) hw px_X.tt (px_recv hT hw 0 0 rfl rfl rfl) m3_186 m3_183 m3_185 ms_1_6 m1_2 q_Tok_byteAt ⟨Nat.le_of_ble_eq_true rfl, Nat.le_of_ble_eq_true rfl⟩ hl.1 rfl (Nat.le_of_ble_eq_true rfl) d_Tok_mark_91 ⟨Nat.le_of_ble_eq_true rfl, Nat.le_of_ble_eq_true rfl⟩) hw hA (fun v259 p258 H locs hp258 hw => ?_)
            obtain ⟨rfl, e260, e261, e262⟩ := hp258
            have e260 : -1 ≤ v259.toInt := e260
            have e261 : v259.toInt ≤ 255 := e261
            have e262 : 0 ≤ v259.toInt → 0 ≤ z255.toInt ∧ z255.toInt < (f 7).toInt := e262
            have hw : pw D A s.heap H locs [wd_Tok cs h r (fun _ => some tp) f a g, [(tp, .inl (cs 1, 2048, .inl tb))]] := hw
            have lv259 := Int32.le_toInt v259
            have uv259 := Int32.toInt_lt v259
            refine lv_bipush (v := 61) S.x S.b d_Tok_mark_94 (by decide) ?_
            refine lv_icmp_ne (tgt := 106) S.x S.b d_Tok_mark_96 (by decide) (fun c263 => ?_) (fun c263 => ?_)
            · have nc263 : ¬ v259.toInt = (61 : Int) := mt (i_eq (x := v259) (y := 61)).mpr c263
              refine lv_iconst (v := 0) S.x S.b d_Tok_mark_106 (by decide) ?_
              refine lv_istore (lv' := [(5, .int 0), (3, .int 2), (2, .int v229), (4, .int v229), (0, .ref h), (1, .int p0)]) S.x S.b d_Tok_mark_107 hl (by decide) rfl (fun ls hl => ?_)
              refine lv_iload S.x S.b d_Tok_mark_109 (lv_at hl 0 rfl) ?_
              refine lv_if_le (tgt := 120) S.x S.b d_Tok_mark_111 (by decide) (fun c264 => ?_) (fun c264 => ?_)
              ·
                refine lv_aload_n S.x S.b d_Tok_mark_120 rfl (lv_at hl 4 rfl) ?_
                refine lv_dup S.x S.b d_Tok_mark_121 rfl ?_
                refine px_get S k_Tok hT hw 0 0 8 (v := .int (f 8)) rfl rfl rfl (by decide) m1_111 d_Tok_mark_122 ?_
                refine lv_iload_n S.x S.b d_Tok_mark_125 rfl (lv_at hl 1 rfl) ?_
                refine lv_iadd S.x S.b d_Tok_mark_126 ?_
                have lr265 := Int32.le_toInt (f 8)
                have ur265 := Int32.toInt_lt (f 8)
                refine lv_topi (fun z266 ez266 => ?_)
                have tz266 : z266.toInt = ((f 8).toInt + (2 : Int) + 2147483648) % 4294967296 - 2147483648 := by rw [ez266]; exact i_add (f 8) 2
                have lz266 := Int32.le_toInt z266
                have uz266 := Int32.toInt_lt z266
                try replace tz266 : z266.toInt = (f 8).toInt + (2 : Int) := by omega
                refine px_put S k_Tok hT hw 0 0 8 rfl rfl (by decide) m1_111 rfl rfl rfl (Nat.le_of_ble_eq_true rfl) d_Tok_mark_127 (w' := wd_Tok cs h r (fun _ => some tp) (upd f 8 z266) a g) (ps' := [wd_Tok cs h r (fun _ => some tp) (upd f 8 z266) a g, [(tp, .inl (cs 1, 2048, .inl tb))]]) rfl rfl (fun H locs hw => ?_)
                refine lv_iload_n S.x S.b d_Tok_mark_130 rfl (lv_at hl 2 rfl) ?_
                exact px_iret (v := v229) S hr rfl hlk hAe hw (Nat.le_of_ble_eq_true rfl) (Nat.le_of_ble_eq_true rfl) (⟨(upd f 8 z266), a, rfl, (show TokOk (f 7) z266 (f 10) (f 11) (f 12) (f 13) (f 17) (a 4) from ⟨⟨by omega, by omega⟩, ⟨by omega, by omega⟩, ⟨by omega, by omega⟩, ⟨by omega, by omega⟩, ⟨by omega, by omega⟩, ⟨by omega, by omega⟩, by omega, hn4⟩), (show (f 7).toInt = (f 7).toInt from by omega)⟩) d_Tok_mark_131
              · exact absurd c264 (by decide)
            · have nc263 : v259.toInt = (61 : Int) := (i_eq (x := v259) (y := 61)).mp c263
              refine lv_iload_n S.x S.b d_Tok_mark_99 rfl (lv_at hl 1 rfl) ?_
              refine px_calli (pr := [wd_Tok cs h r (fun _ => some tp) f a g, [(tp, .inl (cs 1, 2048, .inl tb))]]) (px_runS (As := [.int v229]) (rest := []) S (c_Tok_withEquals l D cs v229 _) hT (pr := [wd_Tok cs h r (fun _ => some tp) f a g, [(tp, .inl (cs 1, 2048, .inl tb))]]) (pcs := []) hw px_X.tt m4_67 m4_65 m4_66 m1_2 q_Tok_withEquals ⟨Nat.le_of_ble_eq_true rfl, Nat.le_of_ble_eq_true rfl⟩ hl.1 rfl (Nat.le_of_ble_eq_true rfl) d_Tok_mark_100 ⟨Nat.le_of_ble_eq_true rfl, Nat.le_of_ble_eq_true rfl⟩) hw hA (fun v270 p269 H locs hp269 hw => ?_)
              subst hp269
              have hw : pw D A s.heap H locs [wd_Tok cs h r (fun _ => some tp) f a g, [(tp, .inl (cs 1, 2048, .inl tb))]] := hw
              have lv270 := Int32.le_toInt v270
              have uv270 := Int32.toInt_lt v270
              refine lv_goto (tgt := 107) S.x S.b d_Tok_mark_103 (by decide) ?_
              refine lv_istore (lv' := [(5, .int v270), (3, .int 2), (2, .int v229), (4, .int v229), (0, .ref h), (1, .int p0)]) S.x S.b d_Tok_mark_107 hl (by decide) rfl (fun ls hl => ?_)
              refine lv_iload S.x S.b d_Tok_mark_109 (lv_at hl 0 rfl) ?_
              refine lv_if_le (tgt := 120) S.x S.b d_Tok_mark_111 (by decide) (fun c271 => ?_) (fun c271 => ?_)
              · have nc271 : v270.toInt ≤ (0 : Int) := (i_le (x := v270) (y := 0)).mp c271
                refine lv_aload_n S.x S.b d_Tok_mark_120 rfl (lv_at hl 4 rfl) ?_
                refine lv_dup S.x S.b d_Tok_mark_121 rfl ?_
                refine px_get S k_Tok hT hw 0 0 8 (v := .int (f 8)) rfl rfl rfl (by decide) m1_111 d_Tok_mark_122 ?_
                refine lv_iload_n S.x S.b d_Tok_mark_125 rfl (lv_at hl 1 rfl) ?_
                refine lv_iadd S.x S.b d_Tok_mark_126 ?_
                have lr272 := Int32.le_toInt (f 8)
                have ur272 := Int32.toInt_lt (f 8)
                refine lv_topi (fun z273 ez273 => ?_)
                have tz273 : z273.toInt = ((f 8).toInt + (2 : Int) + 2147483648) % 4294967296 - 2147483648 := by rw [ez273]; exact i_add (f 8) 2
                have lz273 := Int32.le_toInt z273
                have uz273 := Int32.toInt_lt z273
                try replace tz273 : z273.toInt = (f 8).toInt + (2 : Int) := by omega
                refine px_put S k_Tok hT hw 0 0 8 rfl rfl (by decide) m1_111 rfl rfl rfl (Nat.le_of_ble_eq_true rfl) d_Tok_mark_127 (w' := wd_Tok cs h r (fun _ => some tp) (upd f 8 z273) a g) (ps' := [wd_Tok cs h r (fun _ => some tp) (upd f 8 z273) a g, [(tp, .inl (cs 1, 2048, .inl tb))]]) rfl rfl (fun H locs hw => ?_)
                refine lv_iload_n S.x S.b d_Tok_mark_130 rfl (lv_at hl 2 rfl) ?_
                exact px_iret (v := v229) S hr rfl hlk hAe hw (Nat.le_of_ble_eq_true rfl) (Nat.le_of_ble_eq_true rfl) (⟨(upd f 8 z273), a, rfl, (show TokOk (f 7) z273 (f 10) (f 11) (f 12) (f 13) (f 17) (a 4) from ⟨⟨by omega, by omega⟩, ⟨by omega, by omega⟩, ⟨by omega, by omega⟩, ⟨by omega, by omega⟩, ⟨by omega, by omega⟩, ⟨by omega, by omega⟩, by omega, hn4⟩), (show (f 7).toInt = (f 7).toInt from by omega)⟩) d_Tok_mark_131
              · have nc271 : ¬ v270.toInt ≤ (0 : Int) := mt (i_le (x := v270) (y := 0)).mpr c271
                refine lv_iload S.x S.b d_Tok_mark_114 (lv_at hl 0 rfl) ?_
                refine lv_istore_n (lv' := [(2, .int v270), (5, .int v270), (3, .int 2), (4, .int v229), (0, .ref h), (1, .int p0)]) S.x S.b d_Tok_mark_116 rfl hl (by decide) rfl (fun ls hl => ?_)
                obtain ⟨z274, ez274⟩ : ∃ y : Int32, y = 2 + 1 := ⟨_, rfl⟩
                have tz274 : z274.toInt = ((2 : Int) + 1 + 2147483648) % 4294967296 - 2147483648 := by rw [ez274]; exact i_add 2 1
                have lz274 := Int32.le_toInt z274
                have uz274 := Int32.toInt_lt z274
                try replace tz274 : z274.toInt = (2 : Int) + 1 := by omega
                refine lv_iinc (v := z274) (lv' := [(3, .int z274), (2, .int v270), (5, .int v270), (4, .int v229), (0, .ref h), (1, .int p0)]) S.x S.b d_Tok_mark_117 hl (k := 2) rfl (by rw [ez274]; rfl) (by decide) rfl (fun ls hl => ?_)
                refine lv_aload_n S.x S.b d_Tok_mark_120 rfl (lv_at hl 4 rfl) ?_
                refine lv_dup S.x S.b d_Tok_mark_121 rfl ?_
                refine px_get S k_Tok hT hw 0 0 8 (v := .int (f 8)) rfl rfl rfl (by decide) m1_111 d_Tok_mark_122 ?_
                refine lv_iload_n S.x S.b d_Tok_mark_125 rfl (lv_at hl 0 rfl) ?_
                refine lv_iadd S.x S.b d_Tok_mark_126 ?_
                have lr275 := Int32.le_toInt (f 8)
                have ur275 := Int32.toInt_lt (f 8)
                refine lv_topi (fun z276 ez276 => ?_)
                have tz276 : z276.toInt = ((f 8).toInt + z274.toInt + 2147483648) % 4294967296 - 2147483648 := by rw [ez276]; exact i_add (f 8) z274
                have lz276 := Int32.le_toInt z276
                have uz276 := Int32.toInt_lt z276
                try replace tz276 : z276.toInt = (f 8).toInt + z274.toInt := by omega
                refine px_put S k_Tok hT hw 0 0 8 rfl rfl (by decide) m1_111 rfl rfl rfl (Nat.le_of_ble_eq_true rfl) d_Tok_mark_127 (w' := wd_Tok cs h r (fun _ => some tp) (upd f 8 z276) a g) (ps' := [wd_Tok cs h r (fun _ => some tp) (upd f 8 z276) a g, [(tp, .inl (cs 1, 2048, .inl tb))]]) rfl rfl (fun H locs hw => ?_)
                refine lv_iload_n S.x S.b d_Tok_mark_130 rfl (lv_at hl 1 rfl) ?_
                exact px_iret (v := v270) S hr rfl hlk hAe hw (Nat.le_of_ble_eq_true rfl) (Nat.le_of_ble_eq_true rfl) (⟨(upd f 8 z276), a, rfl, (show TokOk (f 7) z276 (f 10) (f 11) (f 12) (f 13) (f 17) (a 4) from ⟨⟨by omega, by omega⟩, ⟨by omega, by omega⟩, ⟨by omega, by omega⟩, ⟨by omega, by omega⟩, ⟨by omega, by omega⟩, ⟨by omega, by omega⟩, by omega, hn4⟩), (show (f 7).toInt = (f 7).toInt from by omega)⟩) d_Tok_mark_131
      · have nc191 : p0.toInt = (47 : Int) := (i_eq (x := p0) (y := 47)).mp c191
        refine lv_aload_n S.x S.b d_Tok_mark_32 rfl (lv_at hl 2 rfl) ?_
        refine lv_aload_n S.x S.b d_Tok_mark_33 rfl (lv_at hl 2 rfl) ?_
        refine px_get S k_Tok hT hw 0 0 8 (v := .int (f 8)) rfl rfl rfl (by decide) m1_111 d_Tok_mark_34 ?_
        refine lv_iconst (v := 1) S.x S.b d_Tok_mark_37 (by decide) ?_
        refine lv_iadd S.x S.b d_Tok_mark_38 ?_
        have lr277 := Int32.le_toInt (f 8)
        have ur277 := Int32.toInt_lt (f 8)
        refine lv_topi (fun z278 ez278 => ?_)
        have tz278 : z278.toInt = ((f 8).toInt + (1 : Int) + 2147483648) % 4294967296 - 2147483648 := by rw [ez278]; exact i_add (f 8) 1
        have lz278 := Int32.le_toInt z278
        have uz278 := Int32.toInt_lt z278
        try replace tz278 : z278.toInt = (f 8).toInt + (1 : Int) := by omega
        refine px_calli (pr := []) (px_runV (As := [.int z278]) (rest := []) S (c_Tok_byteAt l D cs h r tp tb f a g z278 (show TokOk (f 7) (f 8) (f 10) (f 11) (f 12) (f 13) (f 17) (a 4) from ⟨⟨by omega, by omega⟩, ⟨by omega, by omega⟩, ⟨by omega, by omega⟩, ⟨by omega, by omega⟩, ⟨by omega, by omega⟩, ⟨by omega, by omega⟩, by omega, hn4⟩)  _) hT (pr := []) (pcs := [wd_Tok cs h r (fun _ => some tp) f a g, [(tp, .inl (cs 1, 2048, .inl tb))]]) hw px_X.tt (px_recv hT hw 0 0 rfl rfl rfl) m3_186 m3_183 m3_185 ms_1_6 m1_2 q_Tok_byteAt ⟨Nat.le_of_ble_eq_true rfl, Nat.le_of_ble_eq_true rfl⟩ hl.1 rfl (Nat.le_of_ble_eq_true rfl) d_Tok_mark_39 ⟨Nat.le_of_ble_eq_true rfl, Nat.le_of_ble_eq_true rfl⟩) hw hA (fun v282 p281 H locs hp281 hw => ?_)
        obtain ⟨rfl, e283, e284, e285⟩ := hp281
        have e283 : -1 ≤ v282.toInt := e283
        have e284 : v282.toInt ≤ 255 := e284
        have e285 : 0 ≤ v282.toInt → 0 ≤ z278.toInt ∧ z278.toInt < (f 7).toInt := e285
        have hw : pw D A s.heap H locs [wd_Tok cs h r (fun _ => some tp) f a g, [(tp, .inl (cs 1, 2048, .inl tb))]] := hw
        have lv282 := Int32.le_toInt v282
        have uv282 := Int32.toInt_lt v282
        refine lv_bipush (v := 42) S.x S.b d_Tok_mark_42 (by decide) ?_
        refine lv_icmp_ne (tgt := 50) S.x S.b d_Tok_mark_44 (by decide) (fun c286 => ?_) (fun c286 => ?_)
        · have nc286 : ¬ v282.toInt = (42 : Int) := mt (i_eq (x := v282) (y := 42)).mpr c286
          refine lv_aload_n S.x S.b d_Tok_mark_50 rfl (lv_at hl 2 rfl) ?_
          refine lv_aload_n S.x S.b d_Tok_mark_51 rfl (lv_at hl 2 rfl) ?_
          refine px_get S k_Tok hT hw 0 0 8 (v := .int (f 8)) rfl rfl rfl (by decide) m1_111 d_Tok_mark_52 ?_
          refine lv_iconst (v := 1) S.x S.b d_Tok_mark_55 (by decide) ?_
          refine lv_iadd S.x S.b d_Tok_mark_56 ?_
          have lr287 := Int32.le_toInt (f 8)
          have ur287 := Int32.toInt_lt (f 8)
          refine lv_topi (fun z288 ez288 => ?_)
          have tz288 : z288.toInt = ((f 8).toInt + (1 : Int) + 2147483648) % 4294967296 - 2147483648 := by rw [ez288]; exact i_add (f 8) 1
          have lz288 := Int32.le_toInt z288
          have uz288 := Int32.toInt_lt z288
          try replace tz288 : z288.toInt = (f 8).toInt + (1 : Int) := by omega
          refine px_calli (pr := []) (px_runV (As := [.int z288]) (rest := []) S (c_Tok_byteAt l D cs h r tp tb f a g z288 (show TokOk (f 7) (f 8) (f 10) (f 11) (f 12) (f 13) (f 17) (a 4) from ⟨⟨by omega, by omega⟩, ⟨by omega, by omega⟩, ⟨by omega, by omega⟩, ⟨by omega, by omega⟩, ⟨by omega, by omega⟩, ⟨by omega, by omega⟩, by omega, hn4⟩)  _) hT (pr := []) (pcs := [wd_Tok cs h r (fun _ => some tp) f a g, [(tp, .inl (cs 1, 2048, .inl tb))]]) hw px_X.tt (px_recv hT hw 0 0 rfl rfl rfl) m3_186 m3_183 m3_185 ms_1_6 m1_2 q_Tok_byteAt ⟨Nat.le_of_ble_eq_true rfl, Nat.le_of_ble_eq_true rfl⟩ hl.1 rfl (Nat.le_of_ble_eq_true rfl) d_Tok_mark_57 ⟨Nat.le_of_ble_eq_true rfl, Nat.le_of_ble_eq_true rfl⟩) hw hA (fun v292 p291 H locs hp291 hw => ?_)
          obtain ⟨rfl, e293, e294, e295⟩ := hp291
          have e293 : -1 ≤ v292.toInt := e293
          have e294 : v292.toInt ≤ 255 := e294
          have e295 : 0 ≤ v292.toInt → 0 ≤ z288.toInt ∧ z288.toInt < (f 7).toInt := e295
          have hw : pw D A s.heap H locs [wd_Tok cs h r (fun _ => some tp) f a g, [(tp, .inl (cs 1, 2048, .inl tb))]] := hw
          have lv292 := Int32.le_toInt v292
          have uv292 := Int32.toInt_lt v292
          refine lv_iload_n S.x S.b d_Tok_mark_60 rfl (lv_at hl 3 rfl) ?_
          refine lv_icmp_ne (tgt := 71) S.x S.b d_Tok_mark_61 (by decide) (fun c296 => ?_) (fun c296 => ?_)
          · have nc296 : ¬ v292.toInt = p0.toInt := mt (i_eq (x := v292) (y := p0)).mpr c296
            refine lv_iconst (v := 0) S.x S.b d_Tok_mark_71 (by decide) ?_
            refine lv_istore (lv' := [(4, .int 0), (3, .int 1), (2, .int 256), (0, .ref h), (1, .int p0)]) S.x S.b d_Tok_mark_72 hl (by decide) rfl (fun ls hl => ?_)
            refine lv_iload S.x S.b d_Tok_mark_74 (lv_at hl 0 rfl) ?_
            refine lv_if_le (tgt := 84) S.x S.b d_Tok_mark_76 (by decide) (fun c297 => ?_) (fun c297 => ?_)
            ·
              refine lv_aload_n S.x S.b d_Tok_mark_84 rfl (lv_at hl 3 rfl) ?_
              refine lv_aload_n S.x S.b d_Tok_mark_85 rfl (lv_at hl 3 rfl) ?_
              refine px_get S k_Tok hT hw 0 0 8 (v := .int (f 8)) rfl rfl rfl (by decide) m1_111 d_Tok_mark_86 ?_
              refine lv_iload_n S.x S.b d_Tok_mark_89 rfl (lv_at hl 1 rfl) ?_
              refine lv_iadd S.x S.b d_Tok_mark_90 ?_
              have lr298 := Int32.le_toInt (f 8)
              have ur298 := Int32.toInt_lt (f 8)
              refine lv_topi (fun z299 ez299 => ?_)
              have tz299 : z299.toInt = ((f 8).toInt + (1 : Int) + 2147483648) % 4294967296 - 2147483648 := by rw [ez299]; exact i_add (f 8) 1
              have lz299 := Int32.le_toInt z299
              have uz299 := Int32.toInt_lt z299
              try replace tz299 : z299.toInt = (f 8).toInt + (1 : Int) := by omega
              refine px_calli (pr := []) (px_runV (As := [.int z299]) (rest := []) S (c_Tok_byteAt l D cs h r tp tb f a g z299 (show TokOk (f 7) (f 8) (f 10) (f 11) (f 12) (f 13) (f 17) (a 4) from ⟨⟨by omega, by omega⟩, ⟨by omega, by omega⟩, ⟨by omega, by omega⟩, ⟨by omega, by omega⟩, ⟨by omega, by omega⟩, ⟨by omega, by omega⟩, by omega, hn4⟩)  _) hT (pr := []) (pcs := [wd_Tok cs h r (fun _ => some tp) f a g, [(tp, .inl (cs 1, 2048, .inl tb))]]) hw px_X.tt (px_recv hT hw 0 0 rfl rfl rfl) m3_186 m3_183 m3_185 ms_1_6 m1_2 q_Tok_byteAt ⟨Nat.le_of_ble_eq_true rfl, Nat.le_of_ble_eq_true rfl⟩ hl.1 rfl (Nat.le_of_ble_eq_true rfl) d_Tok_mark_91 ⟨Nat.le_of_ble_eq_true rfl, Nat.le_of_ble_eq_true rfl⟩) hw hA (fun v303 p302 H locs hp302 hw => ?_)
              obtain ⟨rfl, e304, e305, e306⟩ := hp302
              have e304 : -1 ≤ v303.toInt := e304
              have e305 : v303.toInt ≤ 255 := e305
              have e306 : 0 ≤ v303.toInt → 0 ≤ z299.toInt ∧ z299.toInt < (f 7).toInt := e306
              have hw : pw D A s.heap H locs [wd_Tok cs h r (fun _ => some tp) f a g, [(tp, .inl (cs 1, 2048, .inl tb))]] := hw
              have lv303 := Int32.le_toInt v303
              have uv303 := Int32.toInt_lt v303
              refine lv_bipush (v := 61) S.x S.b d_Tok_mark_94 (by decide) ?_
              refine lv_icmp_ne (tgt := 106) S.x S.b d_Tok_mark_96 (by decide) (fun c307 => ?_) (fun c307 => ?_)
              · have nc307 : ¬ v303.toInt = (61 : Int) := mt (i_eq (x := v303) (y := 61)).mpr c307
                refine lv_iconst (v := 0) S.x S.b d_Tok_mark_106 (by decide) ?_
                refine lv_istore (lv' := [(5, .int 0), (4, .int 0), (3, .int 1), (2, .int 256), (0, .ref h), (1, .int p0)]) S.x S.b d_Tok_mark_107 hl (by decide) rfl (fun ls hl => ?_)
                refine lv_iload S.x S.b d_Tok_mark_109 (lv_at hl 0 rfl) ?_
                refine lv_if_le (tgt := 120) S.x S.b d_Tok_mark_111 (by decide) (fun c308 => ?_) (fun c308 => ?_)
                ·
                  refine lv_aload_n S.x S.b d_Tok_mark_120 rfl (lv_at hl 4 rfl) ?_
                  refine lv_dup S.x S.b d_Tok_mark_121 rfl ?_
                  refine px_get S k_Tok hT hw 0 0 8 (v := .int (f 8)) rfl rfl rfl (by decide) m1_111 d_Tok_mark_122 ?_
                  refine lv_iload_n S.x S.b d_Tok_mark_125 rfl (lv_at hl 2 rfl) ?_
                  refine lv_iadd S.x S.b d_Tok_mark_126 ?_
                  have lr309 := Int32.le_toInt (f 8)
                  have ur309 := Int32.toInt_lt (f 8)
                  refine lv_topi (fun z310 ez310 => ?_)
                  have tz310 : z310.toInt = ((f 8).toInt + (1 : Int) + 2147483648) % 4294967296 - 2147483648 := by rw [ez310]; exact i_add (f 8) 1
                  have lz310 := Int32.le_toInt z310
                  have uz310 := Int32.toInt_lt z310
                  try replace tz310 : z310.toInt = (f 8).toInt + (1 : Int) := by omega
                  refine px_put S k_Tok hT hw 0 0 8 rfl rfl (by decide) m1_111 rfl rfl rfl (Nat.le_of_ble_eq_true rfl) d_Tok_mark_127 (w' := wd_Tok cs h r (fun _ => some tp) (upd f 8 z310) a g) (ps' := [wd_Tok cs h r (fun _ => some tp) (upd f 8 z310) a g, [(tp, .inl (cs 1, 2048, .inl tb))]]) rfl rfl (fun H locs hw => ?_)
                  refine lv_iload_n S.x S.b d_Tok_mark_130 rfl (lv_at hl 3 rfl) ?_
                  exact px_iret (v := 256) S hr rfl hlk hAe hw (Nat.le_of_ble_eq_true rfl) (Nat.le_of_ble_eq_true rfl) (⟨(upd f 8 z310), a, rfl, (show TokOk (f 7) z310 (f 10) (f 11) (f 12) (f 13) (f 17) (a 4) from ⟨⟨by omega, by omega⟩, ⟨by omega, by omega⟩, ⟨by omega, by omega⟩, ⟨by omega, by omega⟩, ⟨by omega, by omega⟩, ⟨by omega, by omega⟩, by omega, hn4⟩), (show (f 7).toInt = (f 7).toInt from by omega)⟩) d_Tok_mark_131
                · exact absurd c308 (by decide)
              · have nc307 : v303.toInt = (61 : Int) := (i_eq (x := v303) (y := 61)).mp c307
                refine lv_iload_n S.x S.b d_Tok_mark_99 rfl (lv_at hl 2 rfl) ?_
                refine px_calli (pr := [wd_Tok cs h r (fun _ => some tp) f a g, [(tp, .inl (cs 1, 2048, .inl tb))]]) (px_runS (As := [.int 256]) (rest := []) S (c_Tok_withEquals l D cs 256 _) hT (pr := [wd_Tok cs h r (fun _ => some tp) f a g, [(tp, .inl (cs 1, 2048, .inl tb))]]) (pcs := []) hw px_X.tt m4_67 m4_65 m4_66 m1_2 q_Tok_withEquals ⟨Nat.le_of_ble_eq_true rfl, Nat.le_of_ble_eq_true rfl⟩ hl.1 rfl (Nat.le_of_ble_eq_true rfl) d_Tok_mark_100 ⟨Nat.le_of_ble_eq_true rfl, Nat.le_of_ble_eq_true rfl⟩) hw hA (fun v314 p313 H locs hp313 hw => ?_)
                subst hp313
                have hw : pw D A s.heap H locs [wd_Tok cs h r (fun _ => some tp) f a g, [(tp, .inl (cs 1, 2048, .inl tb))]] := hw
                have lv314 := Int32.le_toInt v314
                have uv314 := Int32.toInt_lt v314
                refine lv_goto (tgt := 107) S.x S.b d_Tok_mark_103 (by decide) ?_
                refine lv_istore (lv' := [(5, .int v314), (4, .int 0), (3, .int 1), (2, .int 256), (0, .ref h), (1, .int p0)]) S.x S.b d_Tok_mark_107 hl (by decide) rfl (fun ls hl => ?_)
                refine lv_iload S.x S.b d_Tok_mark_109 (lv_at hl 0 rfl) ?_
                refine lv_if_le (tgt := 120) S.x S.b d_Tok_mark_111 (by decide) (fun c315 => ?_) (fun c315 => ?_)
                · have nc315 : v314.toInt ≤ (0 : Int) := (i_le (x := v314) (y := 0)).mp c315
                  refine lv_aload_n S.x S.b d_Tok_mark_120 rfl (lv_at hl 4 rfl) ?_
                  refine lv_dup S.x S.b d_Tok_mark_121 rfl ?_
                  refine px_get S k_Tok hT hw 0 0 8 (v := .int (f 8)) rfl rfl rfl (by decide) m1_111 d_Tok_mark_122 ?_
                  refine lv_iload_n S.x S.b d_Tok_mark_125 rfl (lv_at hl 2 rfl) ?_
                  refine lv_iadd S.x S.b d_Tok_mark_126 ?_
                  have lr316 := Int32.le_toInt (f 8)
                  have ur316 := Int32.toInt_lt (f 8)
                  refine lv_topi (fun z317 ez317 => ?_)
                  have tz317 : z317.toInt = ((f 8).toInt + (1 : Int) + 2147483648) % 4294967296 - 2147483648 := by rw [ez317]; exact i_add (f 8) 1
                  have lz317 := Int32.le_toInt z317
                  have uz317 := Int32.toInt_lt z317
                  try replace tz317 : z317.toInt = (f 8).toInt + (1 : Int) := by omega
                  refine px_put S k_Tok hT hw 0 0 8 rfl rfl (by decide) m1_111 rfl rfl rfl (Nat.le_of_ble_eq_true rfl) d_Tok_mark_127 (w' := wd_Tok cs h r (fun _ => some tp) (upd f 8 z317) a g) (ps' := [wd_Tok cs h r (fun _ => some tp) (upd f 8 z317) a g, [(tp, .inl (cs 1, 2048, .inl tb))]]) rfl rfl (fun H locs hw => ?_)
                  refine lv_iload_n S.x S.b d_Tok_mark_130 rfl (lv_at hl 3 rfl) ?_
                  exact px_iret (v := 256) S hr rfl hlk hAe hw (Nat.le_of_ble_eq_true rfl) (Nat.le_of_ble_eq_true rfl) (⟨(upd f 8 z317), a, rfl, (show TokOk (f 7) z317 (f 10) (f 11) (f 12) (f 13) (f 17) (a 4) from ⟨⟨by omega, by omega⟩, ⟨by omega, by omega⟩, ⟨by omega, by omega⟩, ⟨by omega, by omega⟩, ⟨by omega, by omega⟩, ⟨by omega, by omega⟩, by omega, hn4⟩), (show (f 7).toInt = (f 7).toInt from by omega)⟩) d_Tok_mark_131
                · have nc315 : ¬ v314.toInt ≤ (0 : Int) := mt (i_le (x := v314) (y := 0)).mpr c315
                  refine lv_iload S.x S.b d_Tok_mark_114 (lv_at hl 0 rfl) ?_
                  refine lv_istore_n (lv' := [(2, .int v314), (5, .int v314), (4, .int 0), (3, .int 1), (0, .ref h), (1, .int p0)]) S.x S.b d_Tok_mark_116 rfl hl (by decide) rfl (fun ls hl => ?_)
                  obtain ⟨z318, ez318⟩ : ∃ y : Int32, y = 1 + 1 := ⟨_, rfl⟩
                  have tz318 : z318.toInt = ((1 : Int) + 1 + 2147483648) % 4294967296 - 2147483648 := by rw [ez318]; exact i_add 1 1
                  have lz318 := Int32.le_toInt z318
                  have uz318 := Int32.toInt_lt z318
                  try replace tz318 : z318.toInt = (1 : Int) + 1 := by omega
                  refine lv_iinc (v := z318) (lv' := [(3, .int z318), (2, .int v314), (5, .int v314), (4, .int 0), (0, .ref h), (1, .int p0)]) S.x S.b d_Tok_mark_117 hl (k := 3) rfl (by rw [ez318]; rfl) (by decide) rfl (fun ls hl => ?_)
                  refine lv_aload_n S.x S.b d_Tok_mark_120 rfl (lv_at hl 4 rfl) ?_
                  refine lv_dup S.x S.b d_Tok_mark_121 rfl ?_
                  refine px_get S k_Tok hT hw 0 0 8 (v := .int (f 8)) rfl rfl rfl (by decide) m1_111 d_Tok_mark_122 ?_
                  refine lv_iload_n S.x S.b d_Tok_mark_125 rfl (lv_at hl 0 rfl) ?_
                  refine lv_iadd S.x S.b d_Tok_mark_126 ?_
                  have lr319 := Int32.le_toInt (f 8)
                  have ur319 := Int32.toInt_lt (f 8)
                  refine lv_topi (fun z320 ez320 => ?_)
                  have tz320 : z320.toInt = ((f 8).toInt + z318.toInt + 2147483648) % 4294967296 - 2147483648 := by rw [ez320]; exact i_add (f 8) z318
                  have lz320 := Int32.le_toInt z320
                  have uz320 := Int32.toInt_lt z320
                  try replace tz320 : z320.toInt = (f 8).toInt + z318.toInt := by omega
                  refine px_put S k_Tok hT hw 0 0 8 rfl rfl (by decide) m1_111 rfl rfl rfl (Nat.le_of_ble_eq_true rfl) d_Tok_mark_127 (w' := wd_Tok cs h r (fun _ => some tp) (upd f 8 z320) a g) (ps' := [wd_Tok cs h r (fun _ => some tp) (upd f 8 z320) a g, [(tp, .inl (cs 1, 2048, .inl tb))]]) rfl rfl (fun H locs hw => ?_)
                  refine lv_iload_n S.x S.b d_Tok_mark_130 rfl (lv_at hl 1 rfl) ?_
                  exact px_iret (v := v314) S hr rfl hlk hAe hw (Nat.le_of_ble_eq_true rfl) (Nat.le_of_ble_eq_true rfl) (⟨(upd f 8 z320), a, rfl, (show TokOk (f 7) z320 (f 10) (f 11) (f 12) (f 13) (f 17) (a 4) from ⟨⟨by omega, by omega⟩, ⟨by omega, by omega⟩, ⟨by omega, by omega⟩, ⟨by omega, by omega⟩, ⟨by omega, by omega⟩, ⟨by omega, by omega⟩, by omega, hn4⟩), (show (f 7).toInt = (f 7).toInt from by omega)⟩) d_Tok_mark_131
            · exact absurd c297 (by decide)
          · have nc296 : v292.toInt = p0.toInt := (i_eq (x := v292) (y := p0)).mp c296
            refine lv_iload_n S.x S.b d_Tok_mark_64 rfl (lv_at hl 3 rfl) ?_
            refine px_calli (pr := [wd_Tok cs h r (fun _ => some tp) f a g, [(tp, .inl (cs 1, 2048, .inl tb))]]) (px_runS (As := [.int p0]) (rest := []) S (c_Tok_doubled l D cs p0 _) hT (pr := [wd_Tok cs h r (fun _ => some tp) f a g, [(tp, .inl (cs 1, 2048, .inl tb))]]) (pcs := []) hw px_X.tt m4_64 m4_62 m4_63 m1_2 q_Tok_doubled ⟨Nat.le_of_ble_eq_true rfl, Nat.le_of_ble_eq_true rfl⟩ hl.1 rfl (Nat.le_of_ble_eq_true rfl) d_Tok_mark_65 ⟨Nat.le_of_ble_eq_true rfl, Nat.le_of_ble_eq_true rfl⟩) hw hA (fun v324 p323 H locs hp323 hw => ?_)
            subst hp323
            have hw : pw D A s.heap H locs [wd_Tok cs h r (fun _ => some tp) f a g, [(tp, .inl (cs 1, 2048, .inl tb))]] := hw
            have lv324 := Int32.le_toInt v324
            have uv324 := Int32.toInt_lt v324
            refine lv_goto (tgt := 72) S.x S.b d_Tok_mark_68 (by decide) ?_
            refine lv_istore (lv' := [(4, .int v324), (3, .int 1), (2, .int 256), (0, .ref h), (1, .int p0)]) S.x S.b d_Tok_mark_72 hl (by decide) rfl (fun ls hl => ?_)
            refine lv_iload S.x S.b d_Tok_mark_74 (lv_at hl 0 rfl) ?_
            refine lv_if_le (tgt := 84) S.x S.b d_Tok_mark_76 (by decide) (fun c325 => ?_) (fun c325 => ?_)
            · have nc325 : v324.toInt ≤ (0 : Int) := (i_le (x := v324) (y := 0)).mp c325
              refine lv_aload_n S.x S.b d_Tok_mark_84 rfl (lv_at hl 3 rfl) ?_
              refine lv_aload_n S.x S.b d_Tok_mark_85 rfl (lv_at hl 3 rfl) ?_
              refine px_get S k_Tok hT hw 0 0 8 (v := .int (f 8)) rfl rfl rfl (by decide) m1_111 d_Tok_mark_86 ?_
              refine lv_iload_n S.x S.b d_Tok_mark_89 rfl (lv_at hl 1 rfl) ?_
              refine lv_iadd S.x S.b d_Tok_mark_90 ?_
              have lr326 := Int32.le_toInt (f 8)
              have ur326 := Int32.toInt_lt (f 8)
              refine lv_topi (fun z327 ez327 => ?_)
              have tz327 : z327.toInt = ((f 8).toInt + (1 : Int) + 2147483648) % 4294967296 - 2147483648 := by rw [ez327]; exact i_add (f 8) 1
              have lz327 := Int32.le_toInt z327
              have uz327 := Int32.toInt_lt z327
              try replace tz327 : z327.toInt = (f 8).toInt + (1 : Int) := by omega
              refine px_calli (pr := []) (px_runV (As := [.int z327]) (rest := []) S (c_Tok_byteAt l D cs h r tp tb f a g z327 (show TokOk (f 7) (f 8) (f 10) (f 11) (f 12) (f 13) (f 17) (a 4) from ⟨⟨by omega, by omega⟩, ⟨by omega, by omega⟩, ⟨by omega, by omega⟩, ⟨by omega, by omega⟩, ⟨by omega, by omega⟩, ⟨by omega, by omega⟩, by omega, hn4⟩)  _) hT (pr := []) (pcs := [wd_Tok cs h r (fun _ => some tp) f a g, [(tp, .inl (cs 1, 2048, .inl tb))]]) hw px_X.tt (px_recv hT hw 0 0 rfl rfl rfl) m3_186 m3_183 m3_185 ms_1_6 m1_2 q_Tok_byteAt ⟨Nat.le_of_ble_eq_true rfl, Nat.le_of_ble_eq_true rfl⟩ hl.1 rfl (Nat.le_of_ble_eq_true rfl) d_Tok_mark_91 ⟨Nat.le_of_ble_eq_true rfl, Nat.le_of_ble_eq_true rfl⟩) hw hA (fun v331 p330 H locs hp330 hw => ?_)
              obtain ⟨rfl, e332, e333, e334⟩ := hp330
              have e332 : -1 ≤ v331.toInt := e332
              have e333 : v331.toInt ≤ 255 := e333
              have e334 : 0 ≤ v331.toInt → 0 ≤ z327.toInt ∧ z327.toInt < (f 7).toInt := e334
              have hw : pw D A s.heap H locs [wd_Tok cs h r (fun _ => some tp) f a g, [(tp, .inl (cs 1, 2048, .inl tb))]] := hw
              have lv331 := Int32.le_toInt v331
              have uv331 := Int32.toInt_lt v331
              refine lv_bipush (v := 61) S.x S.b d_Tok_mark_94 (by decide) ?_
              refine lv_icmp_ne (tgt := 106) S.x S.b d_Tok_mark_96 (by decide) (fun c335 => ?_) (fun c335 => ?_)
              · have nc335 : ¬ v331.toInt = (61 : Int) := mt (i_eq (x := v331) (y := 61)).mpr c335
                refine lv_iconst (v := 0) S.x S.b d_Tok_mark_106 (by decide) ?_
                refine lv_istore (lv' := [(5, .int 0), (4, .int v324), (3, .int 1), (2, .int 256), (0, .ref h), (1, .int p0)]) S.x S.b d_Tok_mark_107 hl (by decide) rfl (fun ls hl => ?_)
                refine lv_iload S.x S.b d_Tok_mark_109 (lv_at hl 0 rfl) ?_
                refine lv_if_le (tgt := 120) S.x S.b d_Tok_mark_111 (by decide) (fun c336 => ?_) (fun c336 => ?_)
                ·
                  refine lv_aload_n S.x S.b d_Tok_mark_120 rfl (lv_at hl 4 rfl) ?_
                  refine lv_dup S.x S.b d_Tok_mark_121 rfl ?_
                  refine px_get S k_Tok hT hw 0 0 8 (v := .int (f 8)) rfl rfl rfl (by decide) m1_111 d_Tok_mark_122 ?_
                  refine lv_iload_n S.x S.b d_Tok_mark_125 rfl (lv_at hl 2 rfl) ?_
                  refine lv_iadd S.x S.b d_Tok_mark_126 ?_
                  have lr337 := Int32.le_toInt (f 8)
                  have ur337 := Int32.toInt_lt (f 8)
                  refine lv_topi (fun z338 ez338 => ?_)
                  have tz338 : z338.toInt = ((f 8).toInt + (1 : Int) + 2147483648) % 4294967296 - 2147483648 := by rw [ez338]; exact i_add (f 8) 1
                  have lz338 := Int32.le_toInt z338
                  have uz338 := Int32.toInt_lt z338
                  try replace tz338 : z338.toInt = (f 8).toInt + (1 : Int) := by omega
                  refine px_put S k_Tok hT hw 0 0 8 rfl rfl (by decide) m1_111 rfl rfl rfl (Nat.le_of_ble_eq_true rfl) d_Tok_mark_127 (w' := wd_Tok cs h r (fun _ => some tp) (upd f 8 z338) a g) (ps' := [wd_Tok cs h r (fun _ => some tp) (upd f 8 z338) a g, [(tp, .inl (cs 1, 2048, .inl tb))]]) rfl rfl (fun H locs hw => ?_)
                  refine lv_iload_n S.x S.b d_Tok_mark_130 rfl (lv_at hl 3 rfl) ?_
                  exact px_iret (v := 256) S hr rfl hlk hAe hw (Nat.le_of_ble_eq_true rfl) (Nat.le_of_ble_eq_true rfl) (⟨(upd f 8 z338), a, rfl, (show TokOk (f 7) z338 (f 10) (f 11) (f 12) (f 13) (f 17) (a 4) from ⟨⟨by omega, by omega⟩, ⟨by omega, by omega⟩, ⟨by omega, by omega⟩, ⟨by omega, by omega⟩, ⟨by omega, by omega⟩, ⟨by omega, by omega⟩, by omega, hn4⟩), (show (f 7).toInt = (f 7).toInt from by omega)⟩) d_Tok_mark_131
                · exact absurd c336 (by decide)
              · have nc335 : v331.toInt = (61 : Int) := (i_eq (x := v331) (y := 61)).mp c335
                refine lv_iload_n S.x S.b d_Tok_mark_99 rfl (lv_at hl 2 rfl) ?_
                refine px_calli (pr := [wd_Tok cs h r (fun _ => some tp) f a g, [(tp, .inl (cs 1, 2048, .inl tb))]]) (px_runS (As := [.int 256]) (rest := []) S (c_Tok_withEquals l D cs 256 _) hT (pr := [wd_Tok cs h r (fun _ => some tp) f a g, [(tp, .inl (cs 1, 2048, .inl tb))]]) (pcs := []) hw px_X.tt m4_67 m4_65 m4_66 m1_2 q_Tok_withEquals ⟨Nat.le_of_ble_eq_true rfl, Nat.le_of_ble_eq_true rfl⟩ hl.1 rfl (Nat.le_of_ble_eq_true rfl) d_Tok_mark_100 ⟨Nat.le_of_ble_eq_true rfl, Nat.le_of_ble_eq_true rfl⟩) hw hA (fun v342 p341 H locs hp341 hw => ?_)
                subst hp341
                have hw : pw D A s.heap H locs [wd_Tok cs h r (fun _ => some tp) f a g, [(tp, .inl (cs 1, 2048, .inl tb))]] := hw
                have lv342 := Int32.le_toInt v342
                have uv342 := Int32.toInt_lt v342
                refine lv_goto (tgt := 107) S.x S.b d_Tok_mark_103 (by decide) ?_
                refine lv_istore (lv' := [(5, .int v342), (4, .int v324), (3, .int 1), (2, .int 256), (0, .ref h), (1, .int p0)]) S.x S.b d_Tok_mark_107 hl (by decide) rfl (fun ls hl => ?_)
                refine lv_iload S.x S.b d_Tok_mark_109 (lv_at hl 0 rfl) ?_
                refine lv_if_le (tgt := 120) S.x S.b d_Tok_mark_111 (by decide) (fun c343 => ?_) (fun c343 => ?_)
                · have nc343 : v342.toInt ≤ (0 : Int) := (i_le (x := v342) (y := 0)).mp c343
                  refine lv_aload_n S.x S.b d_Tok_mark_120 rfl (lv_at hl 4 rfl) ?_
                  refine lv_dup S.x S.b d_Tok_mark_121 rfl ?_
                  refine px_get S k_Tok hT hw 0 0 8 (v := .int (f 8)) rfl rfl rfl (by decide) m1_111 d_Tok_mark_122 ?_
                  refine lv_iload_n S.x S.b d_Tok_mark_125 rfl (lv_at hl 2 rfl) ?_
                  refine lv_iadd S.x S.b d_Tok_mark_126 ?_
                  have lr344 := Int32.le_toInt (f 8)
                  have ur344 := Int32.toInt_lt (f 8)
                  refine lv_topi (fun z345 ez345 => ?_)
                  have tz345 : z345.toInt = ((f 8).toInt + (1 : Int) + 2147483648) % 4294967296 - 2147483648 := by rw [ez345]; exact i_add (f 8) 1
                  have lz345 := Int32.le_toInt z345
                  have uz345 := Int32.toInt_lt z345
                  try replace tz345 : z345.toInt = (f 8).toInt + (1 : Int) := by omega
                  refine px_put S k_Tok hT hw 0 0 8 rfl rfl (by decide) m1_111 rfl rfl rfl (Nat.le_of_ble_eq_true rfl) d_Tok_mark_127 (w' := wd_Tok cs h r (fun _ => some tp) (upd f 8 z345) a g) (ps' := [wd_Tok cs h r (fun _ => some tp) (upd f 8 z345) a g, [(tp, .inl (cs 1, 2048, .inl tb))]]) rfl rfl (fun H locs hw => ?_)
                  refine lv_iload_n S.x S.b d_Tok_mark_130 rfl (lv_at hl 3 rfl) ?_
                  exact px_iret (v := 256) S hr rfl hlk hAe hw (Nat.le_of_ble_eq_true rfl) (Nat.le_of_ble_eq_true rfl) (⟨(upd f 8 z345), a, rfl, (show TokOk (f 7) z345 (f 10) (f 11) (f 12) (f 13) (f 17) (a 4) from ⟨⟨by omega, by omega⟩, ⟨by omega, by omega⟩, ⟨by omega, by omega⟩, ⟨by omega, by omega⟩, ⟨by omega, by omega⟩, ⟨by omega, by omega⟩, by omega, hn4⟩), (show (f 7).toInt = (f 7).toInt from by omega)⟩) d_Tok_mark_131
                · have nc343 : ¬ v342.toInt ≤ (0 : Int) := mt (i_le (x := v342) (y := 0)).mpr c343
                  refine lv_iload S.x S.b d_Tok_mark_114 (lv_at hl 0 rfl) ?_
                  refine lv_istore_n (lv' := [(2, .int v342), (5, .int v342), (4, .int v324), (3, .int 1), (0, .ref h), (1, .int p0)]) S.x S.b d_Tok_mark_116 rfl hl (by decide) rfl (fun ls hl => ?_)
                  obtain ⟨z346, ez346⟩ : ∃ y : Int32, y = 1 + 1 := ⟨_, rfl⟩
                  have tz346 : z346.toInt = ((1 : Int) + 1 + 2147483648) % 4294967296 - 2147483648 := by rw [ez346]; exact i_add 1 1
                  have lz346 := Int32.le_toInt z346
                  have uz346 := Int32.toInt_lt z346
                  try replace tz346 : z346.toInt = (1 : Int) + 1 := by omega
                  refine lv_iinc (v := z346) (lv' := [(3, .int z346), (2, .int v342), (5, .int v342), (4, .int v324), (0, .ref h), (1, .int p0)]) S.x S.b d_Tok_mark_117 hl (k := 3) rfl (by rw [ez346]; rfl) (by decide) rfl (fun ls hl => ?_)
                  refine lv_aload_n S.x S.b d_Tok_mark_120 rfl (lv_at hl 4 rfl) ?_
                  refine lv_dup S.x S.b d_Tok_mark_121 rfl ?_
                  refine px_get S k_Tok hT hw 0 0 8 (v := .int (f 8)) rfl rfl rfl (by decide) m1_111 d_Tok_mark_122 ?_
                  refine lv_iload_n S.x S.b d_Tok_mark_125 rfl (lv_at hl 0 rfl) ?_
                  refine lv_iadd S.x S.b d_Tok_mark_126 ?_
                  have lr347 := Int32.le_toInt (f 8)
                  have ur347 := Int32.toInt_lt (f 8)
                  refine lv_topi (fun z348 ez348 => ?_)
                  have tz348 : z348.toInt = ((f 8).toInt + z346.toInt + 2147483648) % 4294967296 - 2147483648 := by rw [ez348]; exact i_add (f 8) z346
                  have lz348 := Int32.le_toInt z348
                  have uz348 := Int32.toInt_lt z348
                  try replace tz348 : z348.toInt = (f 8).toInt + z346.toInt := by omega
                  refine px_put S k_Tok hT hw 0 0 8 rfl rfl (by decide) m1_111 rfl rfl rfl (Nat.le_of_ble_eq_true rfl) d_Tok_mark_127 (w' := wd_Tok cs h r (fun _ => some tp) (upd f 8 z348) a g) (ps' := [wd_Tok cs h r (fun _ => some tp) (upd f 8 z348) a g, [(tp, .inl (cs 1, 2048, .inl tb))]]) rfl rfl (fun H locs hw => ?_)
                  refine lv_iload_n S.x S.b d_Tok_mark_130 rfl (lv_at hl 1 rfl) ?_
                  exact px_iret (v := v342) S hr rfl hlk hAe hw (Nat.le_of_ble_eq_true rfl) (Nat.le_of_ble_eq_true rfl) (⟨(upd f 8 z348), a, rfl, (show TokOk (f 7) z348 (f 10) (f 11) (f 12) (f 13) (f 17) (a 4) from ⟨⟨by omega, by omega⟩, ⟨by omega, by omega⟩, ⟨by omega, by omega⟩, ⟨by omega, by omega⟩, ⟨by omega, by omega⟩, ⟨by omega, by omega⟩, by omega, hn4⟩), (show (f 7).toInt = (f 7).toInt from by omega)⟩) d_Tok_mark_131
            · have nc325 : ¬ v324.toInt ≤ (0 : Int) := mt (i_le (x := v324) (y := 0)).mpr c325
              refine lv_iload S.x S.b d_Tok_mark_79 (lv_at hl 0 rfl) ?_
              refine lv_istore_n (lv' := [(2, .int v324), (4, .int v324), (3, .int 1), (0, .ref h), (1, .int p0)]) S.x S.b d_Tok_mark_81 rfl hl (by decide) rfl (fun ls hl => ?_)
              refine lv_iconst (v := 2) S.x S.b d_Tok_mark_82 (by decide) ?_
              refine lv_istore_n (lv' := [(3, .int 2), (2, .int v324), (4, .int v324), (0, .ref h), (1, .int p0)]) S.x S.b d_Tok_mark_83 rfl hl (by decide) rfl (fun ls hl => ?_)
              refine lv_aload_n S.x S.b d_Tok_mark_84 rfl (lv_at hl 3 rfl) ?_
              refine lv_aload_n S.x S.b d_Tok_mark_85 rfl (lv_at hl 3 rfl) ?_
              refine px_get S k_Tok hT hw 0 0 8 (v := .int (f 8)) rfl rfl rfl (by decide) m1_111 d_Tok_mark_86 ?_
              refine lv_iload_n S.x S.b d_Tok_mark_89 rfl (lv_at hl 0 rfl) ?_
              refine lv_iadd S.x S.b d_Tok_mark_90 ?_
              have lr349 := Int32.le_toInt (f 8)
              have ur349 := Int32.toInt_lt (f 8)
              refine lv_topi (fun z350 ez350 => ?_)
              have tz350 : z350.toInt = ((f 8).toInt + (2 : Int) + 2147483648) % 4294967296 - 2147483648 := by rw [ez350]; exact i_add (f 8) 2
              have lz350 := Int32.le_toInt z350
              have uz350 := Int32.toInt_lt z350
              try replace tz350 : z350.toInt = (f 8).toInt + (2 : Int) := by omega
              refine px_calli (pr := []) (px_runV (As := [.int z350]) (rest := []) S (c_Tok_byteAt l D cs h r tp tb f a g z350 (show TokOk (f 7) (f 8) (f 10) (f 11) (f 12) (f 13) (f 17) (a 4) from ⟨⟨by omega, by omega⟩, ⟨by omega, by omega⟩, ⟨by omega, by omega⟩, ⟨by omega, by omega⟩, ⟨by omega, by omega⟩, ⟨by omega, by omega⟩, by omega, hn4⟩)  _) hT (pr := []) (pcs := [wd_Tok cs h r (fun _ => some tp) f a g, [(tp, .inl (cs 1, 2048, .inl tb))]]) hw px_X.tt (px_recv hT hw 0 0 rfl rfl rfl) m3_186 m3_183 m3_185 ms_1_6 m1_2 q_Tok_byteAt ⟨Nat.le_of_ble_eq_true rfl, Nat.le_of_ble_eq_true rfl⟩ hl.1 rfl (Nat.le_of_ble_eq_true rfl) d_Tok_mark_91 ⟨Nat.le_of_ble_eq_true rfl, Nat.le_of_ble_eq_true rfl⟩) hw hA (fun v354 p353 H locs hp353 hw => ?_)
              obtain ⟨rfl, e355, e356, e357⟩ := hp353
              have e355 : -1 ≤ v354.toInt := e355
              have e356 : v354.toInt ≤ 255 := e356
              have e357 : 0 ≤ v354.toInt → 0 ≤ z350.toInt ∧ z350.toInt < (f 7).toInt := e357
              have hw : pw D A s.heap H locs [wd_Tok cs h r (fun _ => some tp) f a g, [(tp, .inl (cs 1, 2048, .inl tb))]] := hw
              have lv354 := Int32.le_toInt v354
              have uv354 := Int32.toInt_lt v354
              refine lv_bipush (v := 61) S.x S.b d_Tok_mark_94 (by decide) ?_
              refine lv_icmp_ne (tgt := 106) S.x S.b d_Tok_mark_96 (by decide) (fun c358 => ?_) (fun c358 => ?_)
              · have nc358 : ¬ v354.toInt = (61 : Int) := mt (i_eq (x := v354) (y := 61)).mpr c358
                refine lv_iconst (v := 0) S.x S.b d_Tok_mark_106 (by decide) ?_
                refine lv_istore (lv' := [(5, .int 0), (3, .int 2), (2, .int v324), (4, .int v324), (0, .ref h), (1, .int p0)]) S.x S.b d_Tok_mark_107 hl (by decide) rfl (fun ls hl => ?_)
                refine lv_iload S.x S.b d_Tok_mark_109 (lv_at hl 0 rfl) ?_
                refine lv_if_le (tgt := 120) S.x S.b d_Tok_mark_111 (by decide) (fun c359 => ?_) (fun c359 => ?_)
                ·
                  refine lv_aload_n S.x S.b d_Tok_mark_120 rfl (lv_at hl 4 rfl) ?_
                  refine lv_dup S.x S.b d_Tok_mark_121 rfl ?_
                  refine px_get S k_Tok hT hw 0 0 8 (v := .int (f 8)) rfl rfl rfl (by decide) m1_111 d_Tok_mark_122 ?_
                  refine lv_iload_n S.x S.b d_Tok_mark_125 rfl (lv_at hl 1 rfl) ?_
                  refine lv_iadd S.x S.b d_Tok_mark_126 ?_
                  have lr360 := Int32.le_toInt (f 8)
                  have ur360 := Int32.toInt_lt (f 8)
                  refine lv_topi (fun z361 ez361 => ?_)
                  have tz361 : z361.toInt = ((f 8).toInt + (2 : Int) + 2147483648) % 4294967296 - 2147483648 := by rw [ez361]; exact i_add (f 8) 2
                  have lz361 := Int32.le_toInt z361
                  have uz361 := Int32.toInt_lt z361
                  try replace tz361 : z361.toInt = (f 8).toInt + (2 : Int) := by omega
                  refine px_put S k_Tok hT hw 0 0 8 rfl rfl (by decide) m1_111 rfl rfl rfl (Nat.le_of_ble_eq_true rfl) d_Tok_mark_127 (w' := wd_Tok cs h r (fun _ => some tp) (upd f 8 z361) a g) (ps' := [wd_Tok cs h r (fun _ => some tp) (upd f 8 z361) a g, [(tp, .inl (cs 1, 2048, .inl tb))]]) rfl rfl (fun H locs hw => ?_)
                  refine lv_iload_n S.x S.b d_Tok_mark_130 rfl (lv_at hl 2 rfl) ?_
                  exact px_iret (v := v324) S hr rfl hlk hAe hw (Nat.le_of_ble_eq_true rfl) (Nat.le_of_ble_eq_true rfl) (⟨(upd f 8 z361), a, rfl, (show TokOk (f 7) z361 (f 10) (f 11) (f 12) (f 13) (f 17) (a 4) from ⟨⟨by omega, by omega⟩, ⟨by omega, by omega⟩, ⟨by omega, by omega⟩, ⟨by omega, by omega⟩, ⟨by omega, by omega⟩, ⟨by omega, by omega⟩, by omega, hn4⟩), (show (f 7).toInt = (f 7).toInt from by omega)⟩) d_Tok_mark_131
                · exact absurd c359 (by decide)
              · have nc358 : v354.toInt = (61 : Int) := (i_eq (x := v354) (y := 61)).mp c358
                refine lv_iload_n S.x S.b d_Tok_mark_99 rfl (lv_at hl 1 rfl) ?_
                refine px_calli (pr := [wd_Tok cs h r (fun _ => some tp) f a g, [(tp, .inl (cs 1, 2048, .inl tb))]]) (px_runS (As := [.int v324]) (rest := []) S (c_Tok_withEquals l D cs v324 _) hT (pr := [wd_Tok cs h r (fun _ => some tp) f a g, [(tp, .inl (cs 1, 2048, .inl tb))]]) (pcs := []) hw px_X.tt m4_67 m4_65 m4_66 m1_2 q_Tok_withEquals ⟨Nat.le_of_ble_eq_true rfl, Nat.le_of_ble_eq_true rfl⟩ hl.1 rfl (Nat.le_of_ble_eq_true rfl) d_Tok_mark_100 ⟨Nat.le_of_ble_eq_true rfl, Nat.le_of_ble_eq_true rfl⟩) hw hA (fun v365 p364 H locs hp364 hw => ?_)
                subst hp364
                have hw : pw D A s.heap H locs [wd_Tok cs h r (fun _ => some tp) f a g, [(tp, .inl (cs 1, 2048, .inl tb))]] := hw
                have lv365 := Int32.le_toInt v365
                have uv365 := Int32.toInt_lt v365
                refine lv_goto (tgt := 107) S.x S.b d_Tok_mark_103 (by decide) ?_
                refine lv_istore (lv' := [(5, .int v365), (3, .int 2), (2, .int v324), (4, .int v324), (0, .ref h), (1, .int p0)]) S.x S.b d_Tok_mark_107 hl (by decide) rfl (fun ls hl => ?_)
                refine lv_iload S.x S.b d_Tok_mark_109 (lv_at hl 0 rfl) ?_
                refine lv_if_le (tgt := 120) S.x S.b d_Tok_mark_111 (by decide) (fun c366 => ?_) (fun c366 => ?_)
                · have nc366 : v365.toInt ≤ (0 : Int) := (i_le (x := v365) (y := 0)).mp c366
                  refine lv_aload_n S.x S.b d_Tok_mark_120 rfl (lv_at hl 4 rfl) ?_
                  refine lv_dup S.x S.b d_Tok_mark_121 rfl ?_
                  refine px_get S k_Tok hT hw 0 0 8 (v := .int (f 8)) rfl rfl rfl (by decide) m1_111 d_Tok_mark_122 ?_
                  refine lv_iload_n S.x S.b d_Tok_mark_125 rfl (lv_at hl 1 rfl) ?_
                  refine lv_iadd S.x S.b d_Tok_mark_126 ?_
                  have lr367 := Int32.le_toInt (f 8)
                  have ur367 := Int32.toInt_lt (f 8)
                  refine lv_topi (fun z368 ez368 => ?_)
                  have tz368 : z368.toInt = ((f 8).toInt + (2 : Int) + 2147483648) % 4294967296 - 2147483648 := by rw [ez368]; exact i_add (f 8) 2
                  have lz368 := Int32.le_toInt z368
                  have uz368 := Int32.toInt_lt z368
                  try replace tz368 : z368.toInt = (f 8).toInt + (2 : Int) := by omega
                  refine px_put S k_Tok hT hw 0 0 8 rfl rfl (by decide) m1_111 rfl rfl rfl (Nat.le_of_ble_eq_true rfl) d_Tok_mark_127 (w' := wd_Tok cs h r (fun _ => some tp) (upd f 8 z368) a g) (ps' := [wd_Tok cs h r (fun _ => some tp) (upd f 8 z368) a g, [(tp, .inl (cs 1, 2048, .inl tb))]]) rfl rfl (fun H locs hw => ?_)
                  refine lv_iload_n S.x S.b d_Tok_mark_130 rfl (lv_at hl 2 rfl) ?_
                  exact px_iret (v := v324) S hr rfl hlk hAe hw (Nat.le_of_ble_eq_true rfl) (Nat.le_of_ble_eq_true rfl) (⟨(upd f 8 z368), a, rfl, (show TokOk (f 7) z368 (f 10) (f 11) (f 12) (f 13) (f 17) (a 4) from ⟨⟨by omega, by omega⟩, ⟨by omega, by omega⟩, ⟨by omega, by omega⟩, ⟨by omega, by omega⟩, ⟨by omega, by omega⟩, ⟨by omega, by omega⟩, by omega, hn4⟩), (show (f 7).toInt = (f 7).toInt from by omega)⟩) d_Tok_mark_131
                · have nc366 : ¬ v365.toInt ≤ (0 : Int) := mt (i_le (x := v365) (y := 0)).mpr c366
                  refine lv_iload S.x S.b d_Tok_mark_114 (lv_at hl 0 rfl) ?_
                  refine lv_istore_n (lv' := [(2, .int v365), (5, .int v365), (3, .int 2), (4, .int v324), (0, .ref h), (1, .int p0)]) S.x S.b d_Tok_mark_116 rfl hl (by decide) rfl (fun ls hl => ?_)
                  obtain ⟨z369, ez369⟩ : ∃ y : Int32, y = 2 + 1 := ⟨_, rfl⟩
                  have tz369 : z369.toInt = ((2 : Int) + 1 + 2147483648) % 4294967296 - 2147483648 := by rw [ez369]; exact i_add 2 1
                  have lz369 := Int32.le_toInt z369
                  have uz369 := Int32.toInt_lt z369
                  try replace tz369 : z369.toInt = (2 : Int) + 1 := by omega
                  refine lv_iinc (v := z369) (lv' := [(3, .int z369), (2, .int v365), (5, .int v365), (4, .int v324), (0, .ref h), (1, .int p0)]) S.x S.b d_Tok_mark_117 hl (k := 2) rfl (by rw [ez369]; rfl) (by decide) rfl (fun ls hl => ?_)
                  refine lv_aload_n S.x S.b d_Tok_mark_120 rfl (lv_at hl 4 rfl) ?_
                  refine lv_dup S.x S.b d_Tok_mark_121 rfl ?_
                  refine px_get S k_Tok hT hw 0 0 8 (v := .int (f 8)) rfl rfl rfl (by decide) m1_111 d_Tok_mark_122 ?_
                  refine lv_iload_n S.x S.b d_Tok_mark_125 rfl (lv_at hl 0 rfl) ?_
                  refine lv_iadd S.x S.b d_Tok_mark_126 ?_
                  have lr370 := Int32.le_toInt (f 8)
                  have ur370 := Int32.toInt_lt (f 8)
                  refine lv_topi (fun z371 ez371 => ?_)
                  have tz371 : z371.toInt = ((f 8).toInt + z369.toInt + 2147483648) % 4294967296 - 2147483648 := by rw [ez371]; exact i_add (f 8) z369
                  have lz371 := Int32.le_toInt z371
                  have uz371 := Int32.toInt_lt z371
                  try replace tz371 : z371.toInt = (f 8).toInt + z369.toInt := by omega
                  refine px_put S k_Tok hT hw 0 0 8 rfl rfl (by decide) m1_111 rfl rfl rfl (Nat.le_of_ble_eq_true rfl) d_Tok_mark_127 (w' := wd_Tok cs h r (fun _ => some tp) (upd f 8 z371) a g) (ps' := [wd_Tok cs h r (fun _ => some tp) (upd f 8 z371) a g, [(tp, .inl (cs 1, 2048, .inl tb))]]) rfl rfl (fun H locs hw => ?_)
                  refine lv_iload_n S.x S.b d_Tok_mark_130 rfl (lv_at hl 1 rfl) ?_
                  exact px_iret (v := v365) S hr rfl hlk hAe hw (Nat.le_of_ble_eq_true rfl) (Nat.le_of_ble_eq_true rfl) (⟨(upd f 8 z371), a, rfl, (show TokOk (f 7) z371 (f 10) (f 11) (f 12) (f 13) (f 17) (a 4) from ⟨⟨by omega, by omega⟩, ⟨by omega, by omega⟩, ⟨by omega, by omega⟩, ⟨by omega, by omega⟩, ⟨by omega, by omega⟩, ⟨by omega, by omega⟩, by omega, hn4⟩), (show (f 7).toInt = (f 7).toInt from by omega)⟩) d_Tok_mark_131
        · have nc286 : v282.toInt = (42 : Int) := (i_eq (x := v282) (y := 42)).mp c286
          refine lv_bipush (v := 19) S.x S.b d_Tok_mark_47 (by decide) ?_
          exact px_iret (v := 19) S hr rfl hlk hAe hw (Nat.le_of_ble_eq_true rfl) (Nat.le_of_ble_eq_true rfl) (⟨f, a, rfl, (show TokOk (f 7) (f 8) (f 10) (f 11) (f 12) (f 13) (f 17) (a 4) from ⟨⟨by omega, by omega⟩, ⟨by omega, by omega⟩, ⟨by omega, by omega⟩, ⟨by omega, by omega⟩, ⟨by omega, by omega⟩, ⟨by omega, by omega⟩, by omega, hn4⟩), (show (f 7).toInt = (f 7).toInt from by omega)⟩) d_Tok_mark_49
abbrev b_Tok_token : ByteArray := prog_12_method_7_code
def y_Tok_token : MethodName := ⟨"HomeSystem$Tokens", "token", "()Z"⟩
theorem d_Tok_token_0 : decode b_Tok_token 0 = .ok (.aload_n 0, 1) := by decide +kernel
theorem d_Tok_token_1 : decode b_Tok_token 1 = .ok (.getfield 50, 3) := by decide +kernel
theorem d_Tok_token_4 : decode b_Tok_token 4 = .ok (.istore_n 1, 1) := by decide +kernel
theorem d_Tok_token_5 : decode b_Tok_token 5 = .ok (.aload_n 0, 1) := by decide +kernel
theorem d_Tok_token_6 : decode b_Tok_token 6 = .ok (.aload_n 0, 1) := by decide +kernel
theorem d_Tok_token_7 : decode b_Tok_token 7 = .ok (.getfield 50, 3) := by decide +kernel
theorem d_Tok_token_10 : decode b_Tok_token 10 = .ok (.invokevirtual 73, 3) := by decide +kernel
theorem d_Tok_token_13 : decode b_Tok_token 13 = .ok (.istore_n 2, 1) := by decide +kernel
theorem d_Tok_token_14 : decode b_Tok_token 14 = .ok (.iconst 0, 1) := by decide +kernel
theorem d_Tok_token_15 : decode b_Tok_token 15 = .ok (.istore_n 3, 1) := by decide +kernel
theorem d_Tok_token_16 : decode b_Tok_token 16 = .ok (.aload_n 0, 1) := by decide +kernel
theorem d_Tok_token_17 : decode b_Tok_token 17 = .ok (.iconst 0, 1) := by decide +kernel
theorem d_Tok_token_18 : decode b_Tok_token 18 = .ok (.putfield 83, 3) := by decide +kernel
theorem d_Tok_token_21 : decode b_Tok_token 21 = .ok (.iload_n 2, 1) := by decide +kernel
theorem d_Tok_token_22 : decode b_Tok_token 22 = .ok (.invokestatic 86, 3) := by decide +kernel
theorem d_Tok_token_25 : decode b_Tok_token 25 = .ok (.ifCond .eq 11, 3) := by decide +kernel
theorem d_Tok_token_28 : decode b_Tok_token 28 = .ok (.aload_n 0, 1) := by decide +kernel
theorem d_Tok_token_29 : decode b_Tok_token 29 = .ok (.invokevirtual 90, 3) := by decide +kernel
theorem d_Tok_token_32 : decode b_Tok_token 32 = .ok (.istore_n 3, 1) := by decide +kernel
theorem d_Tok_token_33 : decode b_Tok_token 33 = .ok (.goto 56, 3) := by decide +kernel
theorem d_Tok_token_36 : decode b_Tok_token 36 = .ok (.iload_n 2, 1) := by decide +kernel
theorem d_Tok_token_37 : decode b_Tok_token 37 = .ok (.invokestatic 93, 3) := by decide +kernel
theorem d_Tok_token_40 : decode b_Tok_token 40 = .ok (.ifCond .eq 11, 3) := by decide +kernel
theorem d_Tok_token_43 : decode b_Tok_token 43 = .ok (.aload_n 0, 1) := by decide +kernel
theorem d_Tok_token_44 : decode b_Tok_token 44 = .ok (.invokevirtual 96, 3) := by decide +kernel
theorem d_Tok_token_47 : decode b_Tok_token 47 = .ok (.istore_n 3, 1) := by decide +kernel
theorem d_Tok_token_48 : decode b_Tok_token 48 = .ok (.goto 41, 3) := by decide +kernel
theorem d_Tok_token_51 : decode b_Tok_token 51 = .ok (.iload_n 2, 1) := by decide +kernel
theorem d_Tok_token_52 : decode b_Tok_token 52 = .ok (.bipush 39, 2) := by decide +kernel
theorem d_Tok_token_54 : decode b_Tok_token 54 = .ok (.if_icmp .ne 11, 3) := by decide +kernel
theorem d_Tok_token_57 : decode b_Tok_token 57 = .ok (.aload_n 0, 1) := by decide +kernel
theorem d_Tok_token_58 : decode b_Tok_token 58 = .ok (.invokevirtual 99, 3) := by decide +kernel
theorem d_Tok_token_61 : decode b_Tok_token 61 = .ok (.istore_n 3, 1) := by decide +kernel
theorem d_Tok_token_62 : decode b_Tok_token 62 = .ok (.goto 27, 3) := by decide +kernel
theorem d_Tok_token_65 : decode b_Tok_token 65 = .ok (.iload_n 2, 1) := by decide +kernel
theorem d_Tok_token_66 : decode b_Tok_token 66 = .ok (.bipush 34, 2) := by decide +kernel
theorem d_Tok_token_68 : decode b_Tok_token 68 = .ok (.if_icmp .ne 11, 3) := by decide +kernel
theorem d_Tok_token_71 : decode b_Tok_token 71 = .ok (.aload_n 0, 1) := by decide +kernel
theorem d_Tok_token_72 : decode b_Tok_token 72 = .ok (.invokevirtual 102, 3) := by decide +kernel
theorem d_Tok_token_75 : decode b_Tok_token 75 = .ok (.istore_n 3, 1) := by decide +kernel
theorem d_Tok_token_76 : decode b_Tok_token 76 = .ok (.goto 13, 3) := by decide +kernel
theorem d_Tok_token_79 : decode b_Tok_token 79 = .ok (.iload_n 2, 1) := by decide +kernel
theorem d_Tok_token_80 : decode b_Tok_token 80 = .ok (.ifCond .lt 9, 3) := by decide +kernel
theorem d_Tok_token_83 : decode b_Tok_token 83 = .ok (.aload_n 0, 1) := by decide +kernel
theorem d_Tok_token_84 : decode b_Tok_token 84 = .ok (.iload_n 2, 1) := by decide +kernel
theorem d_Tok_token_85 : decode b_Tok_token 85 = .ok (.invokevirtual 105, 3) := by decide +kernel
theorem d_Tok_token_88 : decode b_Tok_token 88 = .ok (.istore_n 3, 1) := by decide +kernel
theorem d_Tok_token_89 : decode b_Tok_token 89 = .ok (.aload_n 0, 1) := by decide +kernel
theorem d_Tok_token_90 : decode b_Tok_token 90 = .ok (.getfield 53, 3) := by decide +kernel
theorem d_Tok_token_93 : decode b_Tok_token 93 = .ok (.aload_n 0, 1) := by decide +kernel
theorem d_Tok_token_94 : decode b_Tok_token 94 = .ok (.getfield 9, 3) := by decide +kernel
theorem d_Tok_token_97 : decode b_Tok_token 97 = .ok (.arraylength, 1) := by decide +kernel
theorem d_Tok_token_98 : decode b_Tok_token 98 = .ok (.if_icmp .ge 46, 3) := by decide +kernel
theorem d_Tok_token_101 : decode b_Tok_token 101 = .ok (.aload_n 0, 1) := by decide +kernel
theorem d_Tok_token_102 : decode b_Tok_token 102 = .ok (.getfield 9, 3) := by decide +kernel
theorem d_Tok_token_105 : decode b_Tok_token 105 = .ok (.aload_n 0, 1) := by decide +kernel
theorem d_Tok_token_106 : decode b_Tok_token 106 = .ok (.getfield 53, 3) := by decide +kernel
theorem d_Tok_token_109 : decode b_Tok_token 109 = .ok (.iload_n 3, 1) := by decide +kernel
theorem d_Tok_token_110 : decode b_Tok_token 110 = .ok (.iastore, 1) := by decide +kernel
theorem d_Tok_token_111 : decode b_Tok_token 111 = .ok (.aload_n 0, 1) := by decide +kernel
theorem d_Tok_token_112 : decode b_Tok_token 112 = .ok (.getfield 15, 3) := by decide +kernel
theorem d_Tok_token_115 : decode b_Tok_token 115 = .ok (.aload_n 0, 1) := by decide +kernel
theorem d_Tok_token_116 : decode b_Tok_token 116 = .ok (.getfield 53, 3) := by decide +kernel
theorem d_Tok_token_119 : decode b_Tok_token 119 = .ok (.iload_n 1, 1) := by decide +kernel
theorem d_Tok_token_120 : decode b_Tok_token 120 = .ok (.iastore, 1) := by decide +kernel
theorem d_Tok_token_121 : decode b_Tok_token 121 = .ok (.aload_n 0, 1) := by decide +kernel
theorem d_Tok_token_122 : decode b_Tok_token 122 = .ok (.getfield 18, 3) := by decide +kernel
theorem d_Tok_token_125 : decode b_Tok_token 125 = .ok (.aload_n 0, 1) := by decide +kernel
theorem d_Tok_token_126 : decode b_Tok_token 126 = .ok (.getfield 53, 3) := by decide +kernel
theorem d_Tok_token_129 : decode b_Tok_token 129 = .ok (.aload_n 0, 1) := by decide +kernel
theorem d_Tok_token_130 : decode b_Tok_token 130 = .ok (.getfield 83, 3) := by decide +kernel
theorem d_Tok_token_133 : decode b_Tok_token 133 = .ok (.iastore, 1) := by decide +kernel
theorem d_Tok_token_134 : decode b_Tok_token 134 = .ok (.aload_n 0, 1) := by decide +kernel
theorem d_Tok_token_135 : decode b_Tok_token 135 = .ok (.dup, 1) := by decide +kernel
theorem d_Tok_token_136 : decode b_Tok_token 136 = .ok (.getfield 53, 3) := by decide +kernel
theorem d_Tok_token_139 : decode b_Tok_token 139 = .ok (.iconst 1, 1) := by decide +kernel
theorem d_Tok_token_140 : decode b_Tok_token 140 = .ok (.iadd, 1) := by decide +kernel
theorem d_Tok_token_141 : decode b_Tok_token 141 = .ok (.putfield 53, 3) := by decide +kernel
theorem d_Tok_token_144 : decode b_Tok_token 144 = .ok (.iload_n 3, 1) := by decide +kernel
theorem d_Tok_token_145 : decode b_Tok_token 145 = .ok (.ifCond .eq 13, 3) := by decide +kernel
theorem d_Tok_token_148 : decode b_Tok_token 148 = .ok (.iload_n 3, 1) := by decide +kernel
theorem d_Tok_token_149 : decode b_Tok_token 149 = .ok (.bipush 19, 2) := by decide +kernel
theorem d_Tok_token_151 : decode b_Tok_token 151 = .ok (.if_icmp .eq 7, 3) := by decide +kernel
theorem d_Tok_token_154 : decode b_Tok_token 154 = .ok (.iconst 1, 1) := by decide +kernel
theorem d_Tok_token_155 : decode b_Tok_token 155 = .ok (.goto 4, 3) := by decide +kernel
theorem d_Tok_token_158 : decode b_Tok_token 158 = .ok (.iconst 0, 1) := by decide +kernel
theorem d_Tok_token_159 : decode b_Tok_token 159 = .ok (.ireturn, 1) := by decide +kernel
theorem q_Tok_token : px_y y_Tok_token 0 := by unfold px_y; decide +kernel
set_option maxHeartbeats 4000000 in
set_option maxRecDepth 100000 in
theorem c_Tok_token (l : Launch) (D : va_G) (cs : Nat → ClassId) (sk : Nat) (st : Nat) (sn : Nat) (sb : Nat → Int32) (h : Nat) (r : Nat → Nat) (tp : Nat) (tb : Nat → Int32) (g : Nat → Nat → Option Nat) (f : Nat → Int32) (a : Nat → Nat → Int32)  (hinv0 : TokOk (f 7) (f 8) (f 10) (f 11) (f 12) (f 13) (f 17) (a 4)) (g0 : sn ≤ 1000000) : MetI l y_Tok_token b_Tok_token 4 (.boolean) D cs 5 200 (0) (0) [.ref h] [wd_Tok cs h r (fun _ => some tp) f a g, [(tp, .inl (cs 1, 2048, .inl tb))]] (oX (fun A U H => (vk_R "HomeSystem$Tokens" 127 "(){}[],;:?=|^&<>+-*/%!~" sk U) ∧ (oZ A U H) ∧ (oS A sk st sn sb U H)) [wd_Tok cs h r (fun _ => some tp) f a g, [(tp, .inl (cs 1, 2048, .inl tb))]]) (fun v ps => ∃ (f' : Nat → Int32) (a' : Nat → Nat → Int32), (ps = [wd_Tok cs h r (fun _ => some tp) f' a' g, [(tp, .inl (cs 1, 2048, .inl tb))]]) ∧ (TokOk (f' 7) (f' 8) (f' 10) (f' 11) (f' 12) (f' 13) (f' 17) (a' 4)) ∧ ((f' 7).toInt = (f 7).toInt) ∧ (v = 0 ∨ v = 1) ∧ (1 ≤ (f' 10).toInt)) := by
  refine px_enter (by decide) (Nat.le_of_ble_eq_true rfl) ?_
  intro p e s m below meth c A ls hAe S hr hlk hnm hA hT hX hw hl
  have hl : lv_has ls 4 [(0, .ref h)] := hl
  have cst0 : (0 : Int32).toInt = 0 := rfl
  have cst1 : (1 : Int32).toInt = 1 := rfl
  have cst19 : (19 : Int32).toInt = 19 := rfl
  have cst34 : (34 : Int32).toInt = 34 := rfl
  have cst39 : (39 : Int32).toInt = 39 := rfl
  have hX : (fun A U H => (vk_R "HomeSystem$Tokens" 127 "(){}[],;:?=|^&<>+-*/%!~" sk U) ∧ (oZ A U H) ∧ (oS A sk st sn sb U H)) A s s.heap := by rw [hAe]; exact hX
  obtain ⟨hL, hZ, hS⟩ := hX
  have hsn : (nI sn).toInt = (sn : Int) := nI_toInt (by omega)
  obtain ⟨⟨o1, o2⟩, ⟨o3, o4⟩, ⟨o5, o6⟩, ⟨o7, o8⟩, ⟨o9, o10⟩, ⟨o11, o12⟩, o13, hn4⟩ := hinv0
  have J144 : ∀ (f_144 : Nat → Int32) (a_144 : Nat → Nat → Int32) (x144_3 : Int32) (H : Heap) (locs : List Loc) (ls : Array Slot), (TokOk (f_144 7) (f_144 8) (f_144 10) (f_144 11) (f_144 12) (f_144 13) (f_144 17) (a_144 4)) → ((f_144 7).toInt = (f 7).toInt) → (1 ≤ (f_144 10).toInt) → pw D A s.heap H locs [wd_Tok cs h r (fun _ => some tp) f_144 a_144 g, [(tp, .inl (cs 1, 2048, .inl tb))]] → lv_has ls 4 [(0, .ref h), (3, .int x144_3)] → W p l e { frames := 5, cells := 0, slots := 0, locals := 200 } s m [.ref h].toArray below meth c H locs 0 0 (MQ below (va_Qi (fun v ps => ∃ (f' : Nat → Int32) (a' : Nat → Nat → Int32), (ps = [wd_Tok cs h r (fun _ => some tp) f' a' g, [(tp, .inl (cs 1, 2048, .inl tb))]]) ∧ (TokOk (f' 7) (f' 8) (f' 10) (f' 11) (f' 12) (f' 13) (f' 17) (a' 4)) ∧ ((f' 7).toInt = (f 7).toInt) ∧ (v = 0 ∨ v = 1) ∧ (1 ≤ (f' 10).toInt)) (pc_B D (va_A ([wd_Tok cs h r (fun _ => some tp) f a g, [(tp, .inl (cs 1, 2048, .inl tb))]] : List va_W).flatten s.heap.size)) (va_A ([wd_Tok cs h r (fun _ => some tp) f a g, [(tp, .inl (cs 1, 2048, .inl tb))]] : List va_W).flatten s.heap.size)) [.ref h].toArray s 0 0 A) (F0 m 144 ls []) := by
    intro f_144 a_144 x144_3 H locs ls hi144_0 k144_0 k144_1 hw hl
    obtain ⟨⟨o1, o2⟩, ⟨o3, o4⟩, ⟨o5, o6⟩, ⟨o7, o8⟩, ⟨o9, o10⟩, ⟨o11, o12⟩, o13, hn4⟩ := hi144_0
    have lx144_3 := Int32.le_toInt x144_3
    have ux144_3 := Int32.toInt_lt x144_3
    refine lv_iload_n S.x S.b d_Tok_token_144 rfl (lv_at hl 1 rfl) ?_
    refine lv_if_eq (tgt := 158) S.x S.b d_Tok_token_145 (by decide) (fun c1 => ?_) (fun c1 => ?_)
    · have nc1 : x144_3.toInt = (0 : Int) := (i_eq (x := x144_3) (y := 0)).mp c1
      refine lv_iconst (v := 0) S.x S.b d_Tok_token_158 (by decide) ?_
      exact px_iret (v := 0) S hr rfl hlk hAe hw (Nat.le_of_ble_eq_true rfl) (Nat.le_of_ble_eq_true rfl) (⟨f_144, a_144, rfl, (show TokOk (f_144 7) (f_144 8) (f_144 10) (f_144 11) (f_144 12) (f_144 13) (f_144 17) (a_144 4) from ⟨⟨by omega, by omega⟩, ⟨by omega, by omega⟩, ⟨by omega, by omega⟩, ⟨by omega, by omega⟩, ⟨by omega, by omega⟩, ⟨by omega, by omega⟩, by omega, hn4⟩), (show (f_144 7).toInt = (f 7).toInt from by omega), (show (0 : Int32) = 0 ∨ (0 : Int32) = 1 from by first | exact Or.inl rfl | exact Or.inr rfl | exact z_or (by omega)), (show 1 ≤ (f_144 10).toInt from by omega)⟩) d_Tok_token_159
    · have nc1 : ¬ x144_3.toInt = (0 : Int) := mt (i_eq (x := x144_3) (y := 0)).mpr c1
      refine lv_iload_n S.x S.b d_Tok_token_148 rfl (lv_at hl 1 rfl) ?_
      refine lv_bipush (v := 19) S.x S.b d_Tok_token_149 (by decide) ?_
      refine lv_icmp_eq (tgt := 158) S.x S.b d_Tok_token_151 (by decide) (fun c2 => ?_) (fun c2 => ?_)
      · have nc2 : x144_3.toInt = (19 : Int) := (i_eq (x := x144_3) (y := 19)).mp c2
        refine lv_iconst (v := 0) S.x S.b d_Tok_token_158 (by decide) ?_
        exact px_iret (v := 0) S hr rfl hlk hAe hw (Nat.le_of_ble_eq_true rfl) (Nat.le_of_ble_eq_true rfl) (⟨f_144, a_144, rfl, (show TokOk (f_144 7) (f_144 8) (f_144 10) (f_144 11) (f_144 12) (f_144 13) (f_144 17) (a_144 4) from ⟨⟨by omega, by omega⟩, ⟨by omega, by omega⟩, ⟨by omega, by omega⟩, ⟨by omega, by omega⟩, ⟨by omega, by omega⟩, ⟨by omega, by omega⟩, by omega, hn4⟩), (show (f_144 7).toInt = (f 7).toInt from by omega), (show (0 : Int32) = 0 ∨ (0 : Int32) = 1 from by first | exact Or.inl rfl | exact Or.inr rfl | exact z_or (by omega)), (show 1 ≤ (f_144 10).toInt from by omega)⟩) d_Tok_token_159
      · have nc2 : ¬ x144_3.toInt = (19 : Int) := mt (i_eq (x := x144_3) (y := 19)).mpr c2
        refine lv_iconst (v := 1) S.x S.b d_Tok_token_154 (by decide) ?_
        refine lv_goto (tgt := 159) S.x S.b d_Tok_token_155 (by decide) ?_
        exact px_iret (v := 1) S hr rfl hlk hAe hw (Nat.le_of_ble_eq_true rfl) (Nat.le_of_ble_eq_true rfl) (⟨f_144, a_144, rfl, (show TokOk (f_144 7) (f_144 8) (f_144 10) (f_144 11) (f_144 12) (f_144 13) (f_144 17) (a_144 4) from ⟨⟨by omega, by omega⟩, ⟨by omega, by omega⟩, ⟨by omega, by omega⟩, ⟨by omega, by omega⟩, ⟨by omega, by omega⟩, ⟨by omega, by omega⟩, by omega, hn4⟩), (show (f_144 7).toInt = (f 7).toInt from by omega), (show (1 : Int32) = 0 ∨ (1 : Int32) = 1 from by first | exact Or.inl rfl | exact Or.inr rfl | exact z_or (by omega)), (show 1 ≤ (f_144 10).toInt from by omega)⟩) d_Tok_token_159
  have J89 : ∀ (f_89 : Nat → Int32) (a_89 : Nat → Nat → Int32) (x89_1 x89_3 : Int32) (H : Heap) (locs : List Loc) (ls : Array Slot), (TokOk (f_89 7) (f_89 8) (f_89 10) (f_89 11) (f_89 12) (f_89 13) (f_89 17) (a_89 4)) → ((f_89 7).toInt = (f 7).toInt) → pw D A s.heap H locs [wd_Tok cs h r (fun _ => some tp) f_89 a_89 g, [(tp, .inl (cs 1, 2048, .inl tb))]] → lv_has ls 4 [(0, .ref h), (1, .int x89_1), (3, .int x89_3)] → W p l e { frames := 5, cells := 0, slots := 0, locals := 200 } s m [.ref h].toArray below meth c H locs 0 0 (MQ below (va_Qi (fun v ps => ∃ (f' : Nat → Int32) (a' : Nat → Nat → Int32), (ps = [wd_Tok cs h r (fun _ => some tp) f' a' g, [(tp, .inl (cs 1, 2048, .inl tb))]]) ∧ (TokOk (f' 7) (f' 8) (f' 10) (f' 11) (f' 12) (f' 13) (f' 17) (a' 4)) ∧ ((f' 7).toInt = (f 7).toInt) ∧ (v = 0 ∨ v = 1) ∧ (1 ≤ (f' 10).toInt)) (pc_B D (va_A ([wd_Tok cs h r (fun _ => some tp) f a g, [(tp, .inl (cs 1, 2048, .inl tb))]] : List va_W).flatten s.heap.size)) (va_A ([wd_Tok cs h r (fun _ => some tp) f a g, [(tp, .inl (cs 1, 2048, .inl tb))]] : List va_W).flatten s.heap.size)) [.ref h].toArray s 0 0 A) (F0 m 89 ls []) := by
    intro f_89 a_89 x89_1 x89_3 H locs ls hi89_0 k89_0 hw hl
    obtain ⟨⟨o1, o2⟩, ⟨o3, o4⟩, ⟨o5, o6⟩, ⟨o7, o8⟩, ⟨o9, o10⟩, ⟨o11, o12⟩, o13, hn4⟩ := hi89_0
    have lx89_1 := Int32.le_toInt x89_1
    have ux89_1 := Int32.toInt_lt x89_1
    have lx89_3 := Int32.le_toInt x89_3
    have ux89_3 := Int32.toInt_lt x89_3
    refine lv_aload_n S.x S.b d_Tok_token_89 rfl (lv_at hl 0 rfl) ?_
    refine px_get S k_Tok hT hw 0 0 10 (v := .int (f_89 10)) rfl rfl rfl (by decide) m1_113 d_Tok_token_90 ?_
    refine lv_aload_n S.x S.b d_Tok_token_93 rfl (lv_at hl 0 rfl) ?_
    refine px_get S k_Tok hT hw 0 0 0 (v := .ref (r 0)) rfl rfl rfl (by decide) m1_103 d_Tok_token_94 ?_
    refine px_len S hT hw 0 1 0 rfl rfl rfl (v := 2049) rfl d_Tok_token_97 ?_
    refine lv_icmp_ge (tgt := 144) S.x S.b d_Tok_token_98 (by decide) (fun c3 => ?_) (fun c3 => ?_)
    · have nc3 : (2049 : Int) ≤ (f_89 10).toInt := (i_le (x := 2049) (y := (f_89 10))).mp c3
      exact J144 f_89 a_89 x89_3 _ _ ls (show TokOk (f_89 7) (f_89 8) (f_89 10) (f_89 11) (f_89 12) (f_89 13) (f_89 17) (a_89 4) from ⟨⟨by omega, by omega⟩, ⟨by omega, by omega⟩, ⟨by omega, by omega⟩, ⟨by omega, by omega⟩, ⟨by omega, by omega⟩, ⟨by omega, by omega⟩, by omega, hn4⟩) (show (f_89 7).toInt = (f 7).toInt from by omega) (show 1 ≤ (f_89 10).toInt from by omega) hw (lv_sub hl [0, 2] rfl)
    · have nc3 : ¬ (2049 : Int) ≤ (f_89 10).toInt := mt (i_le (x := 2049) (y := (f_89 10))).mpr c3
      refine lv_aload_n S.x S.b d_Tok_token_101 rfl (lv_at hl 0 rfl) ?_
      refine px_get S k_Tok hT hw 0 0 0 (v := .ref (r 0)) rfl rfl rfl (by decide) m1_103 d_Tok_token_102 ?_
      refine lv_aload_n S.x S.b d_Tok_token_105 rfl (lv_at hl 0 rfl) ?_
      refine px_get S k_Tok hT hw 0 0 10 (v := .int (f_89 10)) rfl rfl rfl (by decide) m1_113 d_Tok_token_106 ?_
      refine lv_iload_n S.x S.b d_Tok_token_109 rfl (lv_at hl 2 rfl) ?_
      refine px_iast S hT hw 0 1 (n := 2049) (f := (a_89 0)) (x := (f_89 10)) (y := x89_3) rfl (ga_Tok_0 _ _ _ _ _ _ _) (vp_in_iff.mpr (by constructor <;> omega)) d_Tok_token_110 (w' := wd_Tok cs h r (fun _ => some tp) f_89 (va_up a_89 0 (upd (a_89 0) (f_89 10).toNatClampNeg x89_3)) g) (ps' := [wd_Tok cs h r (fun _ => some tp) f_89 (va_up a_89 0 (upd (a_89 0) (f_89 10).toNatClampNeg x89_3)) g, [(tp, .inl (cs 1, 2048, .inl tb))]]) (sa_Tok_0 _ _ _ _ _ _ _ _) rfl (fun H locs hw => ?_)
      refine lv_aload_n S.x S.b d_Tok_token_111 rfl (lv_at hl 0 rfl) ?_
      refine px_get S k_Tok hT hw 0 0 1 (v := .ref (r 1)) rfl rfl rfl (by decide) m1_104 d_Tok_token_112 ?_
      refine lv_aload_n S.x S.b d_Tok_token_115 rfl (lv_at hl 0 rfl) ?_
      refine px_get S k_Tok hT hw 0 0 10 (v := .int (f_89 10)) rfl rfl rfl (by decide) m1_113 d_Tok_token_116 ?_
      refine lv_iload_n S.x S.b d_Tok_token_119 rfl (lv_at hl 1 rfl) ?_
      refine px_iast S hT hw 0 2 (n := 2049) (f := ((va_up a_89 0 (upd (a_89 0) (f_89 10).toNatClampNeg x89_3)) 1)) (x := (f_89 10)) (y := x89_1) rfl (ga_Tok_1 _ _ _ _ _ _ _) (vp_in_iff.mpr (by constructor <;> omega)) d_Tok_token_120 (w' := wd_Tok cs h r (fun _ => some tp) f_89 (va_up (va_up a_89 0 (upd (a_89 0) (f_89 10).toNatClampNeg x89_3)) 1 (upd ((va_up a_89 0 (upd (a_89 0) (f_89 10).toNatClampNeg x89_3)) 1) (f_89 10).toNatClampNeg x89_1)) g) (ps' := [wd_Tok cs h r (fun _ => some tp) f_89 (va_up (va_up a_89 0 (upd (a_89 0) (f_89 10).toNatClampNeg x89_3)) 1 (upd ((va_up a_89 0 (upd (a_89 0) (f_89 10).toNatClampNeg x89_3)) 1) (f_89 10).toNatClampNeg x89_1)) g, [(tp, .inl (cs 1, 2048, .inl tb))]]) (sa_Tok_1 _ _ _ _ _ _ _ _) rfl (fun H locs hw => ?_)
      refine lv_aload_n S.x S.b d_Tok_token_121 rfl (lv_at hl 0 rfl) ?_
      refine px_get S k_Tok hT hw 0 0 2 (v := .ref (r 2)) rfl rfl rfl (by decide) m1_105 d_Tok_token_122 ?_
      refine lv_aload_n S.x S.b d_Tok_token_125 rfl (lv_at hl 0 rfl) ?_
      refine px_get S k_Tok hT hw 0 0 10 (v := .int (f_89 10)) rfl rfl rfl (by decide) m1_113 d_Tok_token_126 ?_
      refine lv_aload_n S.x S.b d_Tok_token_129 rfl (lv_at hl 0 rfl) ?_
      refine px_get S k_Tok hT hw 0 0 9 (v := .int (f_89 9)) rfl rfl rfl (by decide) m1_112 d_Tok_token_130 ?_
      refine px_iast S hT hw 0 3 (n := 2049) (f := ((va_up (va_up a_89 0 (upd (a_89 0) (f_89 10).toNatClampNeg x89_3)) 1 (upd ((va_up a_89 0 (upd (a_89 0) (f_89 10).toNatClampNeg x89_3)) 1) (f_89 10).toNatClampNeg x89_1)) 2)) (x := (f_89 10)) (y := (f_89 9)) rfl (ga_Tok_2 _ _ _ _ _ _ _) (vp_in_iff.mpr (by constructor <;> omega)) d_Tok_token_133 (w' := wd_Tok cs h r (fun _ => some tp) f_89 (va_up (va_up (va_up a_89 0 (upd (a_89 0) (f_89 10).toNatClampNeg x89_3)) 1 (upd ((va_up a_89 0 (upd (a_89 0) (f_89 10).toNatClampNeg x89_3)) 1) (f_89 10).toNatClampNeg x89_1)) 2 (upd ((va_up (va_up a_89 0 (upd (a_89 0) (f_89 10).toNatClampNeg x89_3)) 1 (upd ((va_up a_89 0 (upd (a_89 0) (f_89 10).toNatClampNeg x89_3)) 1) (f_89 10).toNatClampNeg x89_1)) 2) (f_89 10).toNatClampNeg (f_89 9))) g) (ps' := [wd_Tok cs h r (fun _ => some tp) f_89 (va_up (va_up (va_up a_89 0 (upd (a_89 0) (f_89 10).toNatClampNeg x89_3)) 1 (upd ((va_up a_89 0 (upd (a_89 0) (f_89 10).toNatClampNeg x89_3)) 1) (f_89 10).toNatClampNeg x89_1)) 2 (upd ((va_up (va_up a_89 0 (upd (a_89 0) (f_89 10).toNatClampNeg x89_3)) 1 (upd ((va_up a_89 0 (upd (a_89 0) (f_89 10).toNatClampNeg x89_3)) 1) (f_89 10).toNatClampNeg x89_1)) 2) (f_89 10).toNatClampNeg (f_89 9))) g, [(tp, .inl (cs 1, 2048, .inl tb))]]) (sa_Tok_2 _ _ _ _ _ _ _ _) rfl (fun H locs hw => ?_)
      refine lv_aload_n S.x S.b d_Tok_token_134 rfl (lv_at hl 0 rfl) ?_
      refine lv_dup S.x S.b d_Tok_token_135 rfl ?_
      refine px_get S k_Tok hT hw 0 0 10 (v := .int (f_89 10)) rfl rfl rfl (by decide) m1_113 d_Tok_token_136 ?_
      refine lv_iconst (v := 1) S.x S.b d_Tok_token_139 (by decide) ?_
      refine lv_iadd S.x S.b d_Tok_token_140 ?_
      have lr4 := Int32.le_toInt (f_89 10)
      have ur4 := Int32.toInt_lt (f_89 10)
      refine lv_topi (fun z5 ez5 => ?_)
      have tz5 : z5.toInt = ((f_89 10).toInt + (1 : Int) + 2147483648) % 4294967296 - 2147483648 := by rw [ez5]; exact i_add (f_89 10) 1
      have lz5 := Int32.le_toInt z5
      have uz5 := Int32.toInt_lt z5
      try replace tz5 : z5.toInt = (f_89 10).toInt + (1 : Int) := by omega
      refine px_put S k_Tok hT hw 0 0 10 rfl rfl (by decide) m1_113 rfl rfl rfl (Nat.le_of_ble_eq_true rfl) d_Tok_token_141 (w' := wd_Tok cs h r (fun _ => some tp) (upd f_89 10 z5) (va_up (va_up (va_up a_89 0 (upd (a_89 0) (f_89 10).toNatClampNeg x89_3)) 1 (upd ((va_up a_89 0 (upd (a_89 0) (f_89 10).toNatClampNeg x89_3)) 1) (f_89 10).toNatClampNeg x89_1)) 2 (upd ((va_up (va_up a_89 0 (upd (a_89 0) (f_89 10).toNatClampNeg x89_3)) 1 (upd ((va_up a_89 0 (upd (a_89 0) (f_89 10).toNatClampNeg x89_3)) 1) (f_89 10).toNatClampNeg x89_1)) 2) (f_89 10).toNatClampNeg (f_89 9))) g) (ps' := [wd_Tok cs h r (fun _ => some tp) (upd f_89 10 z5) (va_up (va_up (va_up a_89 0 (upd (a_89 0) (f_89 10).toNatClampNeg x89_3)) 1 (upd ((va_up a_89 0 (upd (a_89 0) (f_89 10).toNatClampNeg x89_3)) 1) (f_89 10).toNatClampNeg x89_1)) 2 (upd ((va_up (va_up a_89 0 (upd (a_89 0) (f_89 10).toNatClampNeg x89_3)) 1 (upd ((va_up a_89 0 (upd (a_89 0) (f_89 10).toNatClampNeg x89_3)) 1) (f_89 10).toNatClampNeg x89_1)) 2) (f_89 10).toNatClampNeg (f_89 9))) g, [(tp, .inl (cs 1, 2048, .inl tb))]]) rfl rfl (fun H locs hw => ?_)
      exact J144 (upd f_89 10 z5) (va_up (va_up (va_up a_89 0 (upd (a_89 0) (f_89 10).toNatClampNeg x89_3)) 1 (upd ((va_up a_89 0 (upd (a_89 0) (f_89 10).toNatClampNeg x89_3)) 1) (f_89 10).toNatClampNeg x89_1)) 2 (upd ((va_up (va_up a_89 0 (upd (a_89 0) (f_89 10).toNatClampNeg x89_3)) 1 (upd ((va_up a_89 0 (upd (a_89 0) (f_89 10).toNatClampNeg x89_3)) 1) (f_89 10).toNatClampNeg x89_1)) 2) (f_89 10).toNatClampNeg (f_89 9))) x89_3 _ _ ls (show TokOk (f_89 7) (f_89 8) z5 (f_89 11) (f_89 12) (f_89 13) (f_89 17) ((va_up (va_up (va_up a_89 0 (upd (a_89 0) (f_89 10).toNatClampNeg x89_3)) 1 (upd ((va_up a_89 0 (upd (a_89 0) (f_89 10).toNatClampNeg x89_3)) 1) (f_89 10).toNatClampNeg x89_1)) 2 (upd ((va_up (va_up a_89 0 (upd (a_89 0) (f_89 10).toNatClampNeg x89_3)) 1 (upd ((va_up a_89 0 (upd (a_89 0) (f_89 10).toNatClampNeg x89_3)) 1) (f_89 10).toNatClampNeg x89_1)) 2) (f_89 10).toNatClampNeg (f_89 9))) 4) from ⟨⟨by omega, by omega⟩, ⟨by omega, by omega⟩, ⟨by omega, by omega⟩, ⟨by omega, by omega⟩, ⟨by omega, by omega⟩, ⟨by omega, by omega⟩, by omega, (by rw [va_up_n (by decide), va_up_n (by decide), va_up_n (by decide)]; exact hn4)⟩) (show (f_89 7).toInt = (f 7).toInt from by omega) (show 1 ≤ z5.toInt from by omega) hw (lv_sub hl [0, 2] rfl)
  refine lv_aload_n S.x S.b d_Tok_token_0 rfl (lv_at hl 0 rfl) ?_
  refine px_get S k_Tok hT hw 0 0 8 (v := .int (f 8)) rfl rfl rfl (by decide) m1_111 d_Tok_token_1 ?_
  refine lv_istore_n (lv' := [(1, .int (f 8)), (0, .ref h)]) S.x S.b d_Tok_token_4 rfl hl (by decide) rfl (fun ls hl => ?_)
  refine lv_aload_n S.x S.b d_Tok_token_5 rfl (lv_at hl 1 rfl) ?_
  refine lv_aload_n S.x S.b d_Tok_token_6 rfl (lv_at hl 1 rfl) ?_
  refine px_get S k_Tok hT hw 0 0 8 (v := .int (f 8)) rfl rfl rfl (by decide) m1_111 d_Tok_token_7 ?_
  refine px_calli (pr := []) (px_runV (As := [.int (f 8)]) (rest := []) S (c_Tok_byteAt l D cs h r tp tb f a g (f 8) (show TokOk (f 7) (f 8) (f 10) (f 11) (f 12) (f 13) (f 17) (a 4) from ⟨⟨by omega, by omega⟩, ⟨by omega, by omega⟩, ⟨by omega, by omega⟩, ⟨by omega, by omega⟩, ⟨by omega, by omega⟩, ⟨by omega, by omega⟩, by omega, hn4⟩)  _) hT (pr := []) (pcs := [wd_Tok cs h r (fun _ => some tp) f a g, [(tp, .inl (cs 1, 2048, .inl tb))]]) hw px_X.tt (px_recv hT hw 0 0 rfl rfl rfl) m3_186 m3_183 m3_185 ms_1_6 m1_2 q_Tok_byteAt ⟨Nat.le_of_ble_eq_true rfl, Nat.le_of_ble_eq_true rfl⟩ hl.1 rfl (Nat.le_of_ble_eq_true rfl) d_Tok_token_10 ⟨Nat.le_of_ble_eq_true rfl, Nat.le_of_ble_eq_true rfl⟩) hw hA (fun v9 p8 H locs hp8 hw => ?_)
  obtain ⟨rfl, e10, e11, e12⟩ := hp8
  have e10 : -1 ≤ v9.toInt := e10
  have e11 : v9.toInt ≤ 255 := e11
  have e12 : 0 ≤ v9.toInt → 0 ≤ (f 8).toInt ∧ (f 8).toInt < (f 7).toInt := e12
  have hw : pw D A s.heap H locs [wd_Tok cs h r (fun _ => some tp) f a g, [(tp, .inl (cs 1, 2048, .inl tb))]] := hw
  have lv9 := Int32.le_toInt v9
  have uv9 := Int32.toInt_lt v9
  refine lv_istore_n (lv' := [(2, .int v9), (1, .int (f 8)), (0, .ref h)]) S.x S.b d_Tok_token_13 rfl hl (by decide) rfl (fun ls hl => ?_)
  refine lv_iconst (v := 0) S.x S.b d_Tok_token_14 (by decide) ?_
  refine lv_istore_n (lv' := [(3, .int 0), (2, .int v9), (1, .int (f 8)), (0, .ref h)]) S.x S.b d_Tok_token_15 rfl hl (by decide) rfl (fun ls hl => ?_)
  refine lv_aload_n S.x S.b d_Tok_token_16 rfl (lv_at hl 3 rfl) ?_
  refine lv_iconst (v := 0) S.x S.b d_Tok_token_17 (by decide) ?_
  refine px_put S k_Tok hT hw 0 0 9 rfl rfl (by decide) m1_112 rfl rfl rfl (Nat.le_of_ble_eq_true rfl) d_Tok_token_18 (w' := wd_Tok cs h r (fun _ => some tp) (upd f 9 0) a g) (ps' := [wd_Tok cs h r (fun _ => some tp) (upd f 9 0) a g, [(tp, .inl (cs 1, 2048, .inl tb))]]) rfl rfl (fun H locs hw => ?_)
  refine lv_iload_n S.x S.b d_Tok_token_21 rfl (lv_at hl 1 rfl) ?_
  refine px_calli (pr := [wd_Tok cs h r (fun _ => some tp) (upd f 9 0) a g, [(tp, .inl (cs 1, 2048, .inl tb))]]) (px_runS (As := [.int v9]) (rest := []) S (c_Tok_isLetter l D cs v9 _) hT (pr := [wd_Tok cs h r (fun _ => some tp) (upd f 9 0) a g, [(tp, .inl (cs 1, 2048, .inl tb))]]) (pcs := []) hw px_X.tt m3_201 m3_199 m3_200 m1_2 q_Tok_isLetter ⟨Nat.le_of_ble_eq_true rfl, Nat.le_of_ble_eq_true rfl⟩ hl.1 rfl (Nat.le_of_ble_eq_true rfl) d_Tok_token_22 ⟨Nat.le_of_ble_eq_true rfl, Nat.le_of_ble_eq_true rfl⟩) hw hA (fun v16 p15 H locs hp15 hw => ?_)
  obtain ⟨rfl, e17⟩ := hp15
  have e17 := z_int e17
  have hw : pw D A s.heap H locs [wd_Tok cs h r (fun _ => some tp) (upd f 9 0) a g, [(tp, .inl (cs 1, 2048, .inl tb))]] := hw
  have lv16 := Int32.le_toInt v16
  have uv16 := Int32.toInt_lt v16
  refine lv_if_eq (tgt := 36) S.x S.b d_Tok_token_25 (by decide) (fun c18 => ?_) (fun c18 => ?_)
  · have nc18 : v16.toInt = (0 : Int) := (i_eq (x := v16) (y := 0)).mp c18
    refine lv_iload_n S.x S.b d_Tok_token_36 rfl (lv_at hl 1 rfl) ?_
    refine px_calli (pr := [wd_Tok cs h r (fun _ => some tp) (upd f 9 0) a g, [(tp, .inl (cs 1, 2048, .inl tb))]]) (px_runS (As := [.int v9]) (rest := []) S (c_Tok_isDigit l D cs v9 _) hT (pr := [wd_Tok cs h r (fun _ => some tp) (upd f 9 0) a g, [(tp, .inl (cs 1, 2048, .inl tb))]]) (pcs := []) hw px_X.tt m3_208 m3_206 m3_207 m1_2 q_Tok_isDigit ⟨Nat.le_of_ble_eq_true rfl, Nat.le_of_ble_eq_true rfl⟩ hl.1 rfl (Nat.le_of_ble_eq_true rfl) d_Tok_token_37 ⟨Nat.le_of_ble_eq_true rfl, Nat.le_of_ble_eq_true rfl⟩) hw hA (fun v22 p21 H locs hp21 hw => ?_)
    obtain ⟨rfl, e23⟩ := hp21
    have e23 := z_int e23
    have hw : pw D A s.heap H locs [wd_Tok cs h r (fun _ => some tp) (upd f 9 0) a g, [(tp, .inl (cs 1, 2048, .inl tb))]] := hw
    have lv22 := Int32.le_toInt v22
    have uv22 := Int32.toInt_lt v22
    refine lv_if_eq (tgt := 51) S.x S.b d_Tok_token_40 (by decide) (fun c24 => ?_) (fun c24 => ?_)
    · have nc24 : v22.toInt = (0 : Int) := (i_eq (x := v22) (y := 0)).mp c24
      refine lv_iload_n S.x S.b d_Tok_token_51 rfl (lv_at hl 1 rfl) ?_
      refine lv_bipush (v := 39) S.x S.b d_Tok_token_52 (by decide) ?_
      refine lv_icmp_ne (tgt := 65) S.x S.b d_Tok_token_54 (by decide) (fun c25 => ?_) (fun c25 => ?_)
      · have nc25 : ¬ v9.toInt = (39 : Int) := mt (i_eq (x := v9) (y := 39)).mpr c25
        refine lv_iload_n S.x S.b d_Tok_token_65 rfl (lv_at hl 1 rfl) ?_
        refine lv_bipush (v := 34) S.x S.b d_Tok_token_66 (by decide) ?_
        refine lv_icmp_ne (tgt := 79) S.x S.b d_Tok_token_68 (by decide) (fun c26 => ?_) (fun c26 => ?_)
        · have nc26 : ¬ v9.toInt = (34 : Int) := mt (i_eq (x := v9) (y := 34)).mpr c26
          refine lv_iload_n S.x S.b d_Tok_token_79 rfl (lv_at hl 1 rfl) ?_
          refine lv_if_lt (tgt := 89) S.x S.b d_Tok_token_80 (by decide) (fun c27 => ?_) (fun c27 => ?_)
          · have nc27 : v9.toInt < (0 : Int) := (i_lt (x := v9) (y := 0)).mp c27
            exact J89 (upd f 9 0) a (f 8) (0 : Int32) _ _ ls (show TokOk (f 7) (f 8) (f 10) (f 11) (f 12) (f 13) (f 17) (a 4) from ⟨⟨by omega, by omega⟩, ⟨by omega, by omega⟩, ⟨by omega, by omega⟩, ⟨by omega, by omega⟩, ⟨by omega, by omega⟩, ⟨by omega, by omega⟩, by omega, hn4⟩) (show (f 7).toInt = (f 7).toInt from by omega) hw (lv_sub hl [3, 2, 0] rfl)
          · have nc27 : ¬ v9.toInt < (0 : Int) := mt (i_lt (x := v9) (y := 0)).mpr c27
            refine lv_aload_n S.x S.b d_Tok_token_83 rfl (lv_at hl 3 rfl) ?_
            refine lv_iload_n S.x S.b d_Tok_token_84 rfl (lv_at hl 1 rfl) ?_
            refine px_calli (pr := []) (px_runV (As := [.int v9]) (rest := []) S (c_Tok_mark l D cs sk st sn sb h r tp tb g (upd f 9 0) a v9  (show TokOk (f 7) (f 8) (f 10) (f 11) (f 12) (f 13) (f 17) (a 4) from ⟨⟨by omega, by omega⟩, ⟨by omega, by omega⟩, ⟨by omega, by omega⟩, ⟨by omega, by omega⟩, ⟨by omega, by omega⟩, ⟨by omega, by omega⟩, by omega, hn4⟩) (show sn ≤ 1000000 from by omega) (show 0 ≤ (f 8).toInt from by omega) (show (f 8).toInt < (f 7).toInt from by omega) _) hT (pr := []) (pcs := [wd_Tok cs h r (fun _ => some tp) (upd f 9 0) a g, [(tp, .inl (cs 1, 2048, .inl tb))]]) hw (oX_call (P := (fun A U H => (vk_R "HomeSystem$Tokens" 127 "(){}[],;:?=|^&<>+-*/%!~" sk U) ∧ (oZ A U H) ∧ (oS A sk st sn sb U H))) (pr := []) (oG_and oG_L (oG_and oG_Z oG_S)) hw hA ⟨hL, hZ, hS⟩) (px_recv hT hw 0 0 rfl rfl rfl) m4_5 m4_2 m4_4 ms_2_3 m1_2 q_Tok_mark ⟨Nat.le_of_ble_eq_true rfl, Nat.le_of_ble_eq_true rfl⟩ hl.1 rfl (Nat.le_of_ble_eq_true rfl) d_Tok_token_85 ⟨Nat.le_of_ble_eq_true rfl, Nat.le_of_ble_eq_true rfl⟩) hw hA (fun v31 p30 H locs hp30 hw => ?_)
            obtain ⟨f28, a29, rfl, h33, e32⟩ := hp30
            obtain ⟨⟨o1, o2⟩, ⟨o3, o4⟩, ⟨o5, o6⟩, ⟨o7, o8⟩, ⟨o9, o10⟩, ⟨o11, o12⟩, o13, hn4⟩ := h33
            have e32 : (f28 7).toInt = (f 7).toInt := e32
            have hw : pw D A s.heap H locs [wd_Tok cs h r (fun _ => some tp) f28 a29 g, [(tp, .inl (cs 1, 2048, .inl tb))]] := hw
            have lv31 := Int32.le_toInt v31
            have uv31 := Int32.toInt_lt v31
            refine lv_istore_n (lv' := [(3, .int v31), (2, .int v9), (1, .int (f 8)), (0, .ref h)]) S.x S.b d_Tok_token_88 rfl hl (by decide) rfl (fun ls hl => ?_)
            exact J89 f28 a29 (f 8) v31 _ _ ls (show TokOk (f28 7) (f28 8) (f28 10) (f28 11) (f28 12) (f28 13) (f28 17) (a29 4) from ⟨⟨by omega, by omega⟩, ⟨by omega, by omega⟩, ⟨by omega, by omega⟩, ⟨by omega, by omega⟩, ⟨by omega, by omega⟩, ⟨by omega, by omega⟩, by omega, hn4⟩) (show (f28 7).toInt = (f 7).toInt from by omega) hw (lv_sub hl [3, 2, 0] rfl)
        · have nc26 : v9.toInt = (34 : Int) := (i_eq (x := v9) (y := 34)).mp c26
          refine lv_aload_n S.x S.b d_Tok_token_71 rfl (lv_at hl 3 rfl) ?_
          refine px_calli (pr := []) (px_runV (As := []) (rest := []) S (c_Tok_string l D cs h r tp tb (upd f 9 0) a g  (show TokOk (f 7) (f 8) (f 10) (f 11) (f 12) (f 13) (f 17) (a 4) from ⟨⟨by omega, by omega⟩, ⟨by omega, by omega⟩, ⟨by omega, by omega⟩, ⟨by omega, by omega⟩, ⟨by omega, by omega⟩, ⟨by omega, by omega⟩, by omega, hn4⟩)  _) hT (pr := []) (pcs := [wd_Tok cs h r (fun _ => some tp) (upd f 9 0) a g, [(tp, .inl (cs 1, 2048, .inl tb))]]) hw px_X.tt (px_recv hT hw 0 0 rfl rfl rfl) m4_1 m3_238 m4_0 ms_2_2 m1_2 q_Tok_string ⟨Nat.le_of_ble_eq_true rfl, Nat.le_of_ble_eq_true rfl⟩ hl.1 rfl (Nat.le_of_ble_eq_true rfl) d_Tok_token_72 ⟨Nat.le_of_ble_eq_true rfl, Nat.le_of_ble_eq_true rfl⟩) hw hA (fun v37 p36 H locs hp36 hw => ?_)
          obtain ⟨f34, a35, rfl, hok, e38⟩ := hp36
          obtain ⟨⟨o1, o2⟩, ⟨o3, o4⟩, ⟨o5, o6⟩, ⟨o7, o8⟩, ⟨o9, o10⟩, ⟨o11, o12⟩, o13, hn4⟩ := hok
          have e38 : (f34 7).toInt = (f 7).toInt := e38
          have hw : pw D A s.heap H locs [wd_Tok cs h r (fun _ => some tp) f34 a35 g, [(tp, .inl (cs 1, 2048, .inl tb))]] := hw
          have lv37 := Int32.le_toInt v37
          have uv37 := Int32.toInt_lt v37
          refine lv_istore_n (lv' := [(3, .int v37), (2, .int v9), (1, .int (f 8)), (0, .ref h)]) S.x S.b d_Tok_token_75 rfl hl (by decide) rfl (fun ls hl => ?_)
          refine lv_goto (tgt := 89) S.x S.b d_Tok_token_76 (by decide) ?_
          exact J89 f34 a35 (f 8) v37 _ _ ls (show TokOk (f34 7) (f34 8) (f34 10) (f34 11) (f34 12) (f34 13) (f34 17) (a35 4) from ⟨⟨by omega, by omega⟩, ⟨by omega, by omega⟩, ⟨by omega, by omega⟩, ⟨by omega, by omega⟩, ⟨by omega, by omega⟩, ⟨by omega, by omega⟩, by omega, hn4⟩) (show (f34 7).toInt = (f 7).toInt from by omega) hw (lv_sub hl [3, 2, 0] rfl)
      · have nc25 : v9.toInt = (39 : Int) := (i_eq (x := v9) (y := 39)).mp c25
        refine lv_aload_n S.x S.b d_Tok_token_57 rfl (lv_at hl 3 rfl) ?_
        refine px_calli (pr := []) (px_runV (As := []) (rest := []) S (c_Tok_character l D cs h r tp tb (upd f 9 0) a g  (show TokOk (f 7) (f 8) (f 10) (f 11) (f 12) (f 13) (f 17) (a 4) from ⟨⟨by omega, by omega⟩, ⟨by omega, by omega⟩, ⟨by omega, by omega⟩, ⟨by omega, by omega⟩, ⟨by omega, by omega⟩, ⟨by omega, by omega⟩, by omega, hn4⟩)  _) hT (pr := []) (pcs := [wd_Tok cs h r (fun _ => some tp) (upd f 9 0) a g, [(tp, .inl (cs 1, 2048, .inl tb))]]) hw px_X.tt (px_recv hT hw 0 0 rfl rfl rfl) m3_229 m3_226 m3_228 ms_1_15 m1_2 q_Tok_character ⟨Nat.le_of_ble_eq_true rfl, Nat.le_of_ble_eq_true rfl⟩ hl.1 rfl (Nat.le_of_ble_eq_true rfl) d_Tok_token_58 ⟨Nat.le_of_ble_eq_true rfl, Nat.le_of_ble_eq_true rfl⟩) hw hA (fun v42 p41 H locs hp41 hw => ?_)
        obtain ⟨f39, a40, rfl, hok, e43⟩ := hp41
        obtain ⟨⟨o1, o2⟩, ⟨o3, o4⟩, ⟨o5, o6⟩, ⟨o7, o8⟩, ⟨o9, o10⟩, ⟨o11, o12⟩, o13, hn4⟩ := hok
        have e43 : (f39 7).toInt = (f 7).toInt := e43
        have hw : pw D A s.heap H locs [wd_Tok cs h r (fun _ => some tp) f39 a40 g, [(tp, .inl (cs 1, 2048, .inl tb))]] := hw
        have lv42 := Int32.le_toInt v42
        have uv42 := Int32.toInt_lt v42
        refine lv_istore_n (lv' := [(3, .int v42), (2, .int v9), (1, .int (f 8)), (0, .ref h)]) S.x S.b d_Tok_token_61 rfl hl (by decide) rfl (fun ls hl => ?_)
        refine lv_goto (tgt := 89) S.x S.b d_Tok_token_62 (by decide) ?_
        exact J89 f39 a40 (f 8) v42 _ _ ls (show TokOk (f39 7) (f39 8) (f39 10) (f39 11) (f39 12) (f39 13) (f39 17) (a40 4) from ⟨⟨by omega, by omega⟩, ⟨by omega, by omega⟩, ⟨by omega, by omega⟩, ⟨by omega, by omega⟩, ⟨by omega, by omega⟩, ⟨by omega, by omega⟩, by omega, hn4⟩) (show (f39 7).toInt = (f 7).toInt from by omega) hw (lv_sub hl [3, 2, 0] rfl)
    · have nc24 : ¬ v22.toInt = (0 : Int) := mt (i_eq (x := v22) (y := 0)).mpr c24
      refine lv_aload_n S.x S.b d_Tok_token_43 rfl (lv_at hl 3 rfl) ?_
      refine px_calli (pr := []) (px_runV (As := []) (rest := []) S (c_Tok_number l D cs h r tp tb (upd f 9 0) a g  (show TokOk (f 7) (f 8) (f 10) (f 11) (f 12) (f 13) (f 17) (a 4) from ⟨⟨by omega, by omega⟩, ⟨by omega, by omega⟩, ⟨by omega, by omega⟩, ⟨by omega, by omega⟩, ⟨by omega, by omega⟩, ⟨by omega, by omega⟩, by omega, hn4⟩)  _) hT (pr := []) (pcs := [wd_Tok cs h r (fun _ => some tp) (upd f 9 0) a g, [(tp, .inl (cs 1, 2048, .inl tb))]]) hw px_X.tt (px_recv hT hw 0 0 rfl rfl rfl) m3_220 m3_217 m3_219 ms_1_13 m1_2 q_Tok_number ⟨Nat.le_of_ble_eq_true rfl, Nat.le_of_ble_eq_true rfl⟩ hl.1 rfl (Nat.le_of_ble_eq_true rfl) d_Tok_token_44 ⟨Nat.le_of_ble_eq_true rfl, Nat.le_of_ble_eq_true rfl⟩) hw hA (fun v47 p46 H locs hp46 hw => ?_)
      obtain ⟨f44, a45, rfl, hok, e48⟩ := hp46
      obtain ⟨⟨o1, o2⟩, ⟨o3, o4⟩, ⟨o5, o6⟩, ⟨o7, o8⟩, ⟨o9, o10⟩, ⟨o11, o12⟩, o13, hn4⟩ := hok
      have e48 : (f44 7).toInt = (f 7).toInt := e48
      have hw : pw D A s.heap H locs [wd_Tok cs h r (fun _ => some tp) f44 a45 g, [(tp, .inl (cs 1, 2048, .inl tb))]] := hw
      have lv47 := Int32.le_toInt v47
      have uv47 := Int32.toInt_lt v47
      refine lv_istore_n (lv' := [(3, .int v47), (2, .int v9), (1, .int (f 8)), (0, .ref h)]) S.x S.b d_Tok_token_47 rfl hl (by decide) rfl (fun ls hl => ?_)
      refine lv_goto (tgt := 89) S.x S.b d_Tok_token_48 (by decide) ?_
      exact J89 f44 a45 (f 8) v47 _ _ ls (show TokOk (f44 7) (f44 8) (f44 10) (f44 11) (f44 12) (f44 13) (f44 17) (a45 4) from ⟨⟨by omega, by omega⟩, ⟨by omega, by omega⟩, ⟨by omega, by omega⟩, ⟨by omega, by omega⟩, ⟨by omega, by omega⟩, ⟨by omega, by omega⟩, by omega, hn4⟩) (show (f44 7).toInt = (f 7).toInt from by omega) hw (lv_sub hl [3, 2, 0] rfl)
  · have nc18 : ¬ v16.toInt = (0 : Int) := mt (i_eq (x := v16) (y := 0)).mpr c18
    refine lv_aload_n S.x S.b d_Tok_token_28 rfl (lv_at hl 3 rfl) ?_
    refine px_calli (pr := []) (px_runV (As := []) (rest := []) S (c_Tok_name l D cs h r tp tb (upd f 9 0) a g  (show TokOk (f 7) (f 8) (f 10) (f 11) (f 12) (f 13) (f 17) (a 4) from ⟨⟨by omega, by omega⟩, ⟨by omega, by omega⟩, ⟨by omega, by omega⟩, ⟨by omega, by omega⟩, ⟨by omega, by omega⟩, ⟨by omega, by omega⟩, by omega, hn4⟩)  _) hT (pr := []) (pcs := [wd_Tok cs h r (fun _ => some tp) (upd f 9 0) a g, [(tp, .inl (cs 1, 2048, .inl tb))]]) hw px_X.tt (px_recv hT hw 0 0 rfl rfl rfl) m3_205 m3_202 m3_204 ms_1_10 m1_2 q_Tok_name ⟨Nat.le_of_ble_eq_true rfl, Nat.le_of_ble_eq_true rfl⟩ hl.1 rfl (Nat.le_of_ble_eq_true rfl) d_Tok_token_29 ⟨Nat.le_of_ble_eq_true rfl, Nat.le_of_ble_eq_true rfl⟩) hw hA (fun v52 p51 H locs hp51 hw => ?_)
    obtain ⟨f49, a50, rfl, hok, e53⟩ := hp51
    obtain ⟨⟨o1, o2⟩, ⟨o3, o4⟩, ⟨o5, o6⟩, ⟨o7, o8⟩, ⟨o9, o10⟩, ⟨o11, o12⟩, o13, hn4⟩ := hok
    have e53 : (f49 7).toInt = (f 7).toInt := e53
    have hw : pw D A s.heap H locs [wd_Tok cs h r (fun _ => some tp) f49 a50 g, [(tp, .inl (cs 1, 2048, .inl tb))]] := hw
    have lv52 := Int32.le_toInt v52
    have uv52 := Int32.toInt_lt v52
    refine lv_istore_n (lv' := [(3, .int v52), (2, .int v9), (1, .int (f 8)), (0, .ref h)]) S.x S.b d_Tok_token_32 rfl hl (by decide) rfl (fun ls hl => ?_)
    refine lv_goto (tgt := 89) S.x S.b d_Tok_token_33 (by decide) ?_
    exact J89 f49 a50 (f 8) v52 _ _ ls (show TokOk (f49 7) (f49 8) (f49 10) (f49 11) (f49 12) (f49 13) (f49 17) (a50 4) from ⟨⟨by omega, by omega⟩, ⟨by omega, by omega⟩, ⟨by omega, by omega⟩, ⟨by omega, by omega⟩, ⟨by omega, by omega⟩, ⟨by omega, by omega⟩, by omega, hn4⟩) (show (f49 7).toInt = (f 7).toInt from by omega) hw (lv_sub hl [3, 2, 0] rfl)
abbrev b_Tok_scan : ByteArray := prog_12_method_2_code
def y_Tok_scan : MethodName := ⟨"HomeSystem$Tokens", "scan", "([BI)V"⟩
theorem d_Tok_scan_0 : decode b_Tok_scan 0 = .ok (.aload_n 0, 1) := by decide +kernel
theorem d_Tok_scan_1 : decode b_Tok_scan 1 = .ok (.aload_n 1, 1) := by decide +kernel
theorem d_Tok_scan_2 : decode b_Tok_scan 2 = .ok (.putfield 43, 3) := by decide +kernel
theorem d_Tok_scan_5 : decode b_Tok_scan 5 = .ok (.aload_n 0, 1) := by decide +kernel
theorem d_Tok_scan_6 : decode b_Tok_scan 6 = .ok (.iload_n 2, 1) := by decide +kernel
theorem d_Tok_scan_7 : decode b_Tok_scan 7 = .ok (.putfield 47, 3) := by decide +kernel
theorem d_Tok_scan_10 : decode b_Tok_scan 10 = .ok (.aload_n 0, 1) := by decide +kernel
theorem d_Tok_scan_11 : decode b_Tok_scan 11 = .ok (.iconst 0, 1) := by decide +kernel
theorem d_Tok_scan_12 : decode b_Tok_scan 12 = .ok (.putfield 50, 3) := by decide +kernel
theorem d_Tok_scan_15 : decode b_Tok_scan 15 = .ok (.aload_n 0, 1) := by decide +kernel
theorem d_Tok_scan_16 : decode b_Tok_scan 16 = .ok (.iconst 0, 1) := by decide +kernel
theorem d_Tok_scan_17 : decode b_Tok_scan 17 = .ok (.putfield 53, 3) := by decide +kernel
theorem d_Tok_scan_20 : decode b_Tok_scan 20 = .ok (.aload_n 0, 1) := by decide +kernel
theorem d_Tok_scan_21 : decode b_Tok_scan 21 = .ok (.bipush 26, 2) := by decide +kernel
theorem d_Tok_scan_23 : decode b_Tok_scan 23 = .ok (.putfield 56, 3) := by decide +kernel
theorem d_Tok_scan_26 : decode b_Tok_scan 26 = .ok (.aload_n 0, 1) := by decide +kernel
theorem d_Tok_scan_27 : decode b_Tok_scan 27 = .ok (.iconst 0, 1) := by decide +kernel
theorem d_Tok_scan_28 : decode b_Tok_scan 28 = .ok (.putfield 59, 3) := by decide +kernel
theorem d_Tok_scan_31 : decode b_Tok_scan 31 = .ok (.aload_n 0, 1) := by decide +kernel
theorem d_Tok_scan_32 : decode b_Tok_scan 32 = .ok (.iconst 0, 1) := by decide +kernel
theorem d_Tok_scan_33 : decode b_Tok_scan 33 = .ok (.putfield 62, 3) := by decide +kernel
theorem d_Tok_scan_36 : decode b_Tok_scan 36 = .ok (.iconst 1, 1) := by decide +kernel
theorem d_Tok_scan_37 : decode b_Tok_scan 37 = .ok (.istore_n 3, 1) := by decide +kernel
theorem d_Tok_scan_38 : decode b_Tok_scan 38 = .ok (.iconst 0, 1) := by decide +kernel
theorem d_Tok_scan_39 : decode b_Tok_scan 39 = .ok (.istore 4, 2) := by decide +kernel
theorem d_Tok_scan_41 : decode b_Tok_scan 41 = .ok (.iload 4, 2) := by decide +kernel
theorem d_Tok_scan_43 : decode b_Tok_scan 43 = .ok (.aload_n 0, 1) := by decide +kernel
theorem d_Tok_scan_44 : decode b_Tok_scan 44 = .ok (.getfield 47, 3) := by decide +kernel
theorem d_Tok_scan_47 : decode b_Tok_scan 47 = .ok (.if_icmp .gt 22, 3) := by decide +kernel
theorem d_Tok_scan_50 : decode b_Tok_scan 50 = .ok (.iload_n 3, 1) := by decide +kernel
theorem d_Tok_scan_51 : decode b_Tok_scan 51 = .ok (.ifCond .eq 18, 3) := by decide +kernel
theorem d_Tok_scan_54 : decode b_Tok_scan 54 = .ok (.aload_n 0, 1) := by decide +kernel
theorem d_Tok_scan_55 : decode b_Tok_scan 55 = .ok (.invokevirtual 66, 3) := by decide +kernel
theorem d_Tok_scan_58 : decode b_Tok_scan 58 = .ok (.aload_n 0, 1) := by decide +kernel
theorem d_Tok_scan_59 : decode b_Tok_scan 59 = .ok (.invokevirtual 69, 3) := by decide +kernel
theorem d_Tok_scan_62 : decode b_Tok_scan 62 = .ok (.istore_n 3, 1) := by decide +kernel
theorem d_Tok_scan_63 : decode b_Tok_scan 63 = .ok (.iinc 4 1, 3) := by decide +kernel
theorem d_Tok_scan_66 : decode b_Tok_scan 66 = .ok (.goto (-25), 3) := by decide +kernel
theorem d_Tok_scan_69 : decode b_Tok_scan 69 = .ok (.return_, 1) := by decide +kernel
theorem q_Tok_scan : px_y y_Tok_scan 2 := by unfold px_y; decide +kernel
set_option maxHeartbeats 4000000 in
set_option maxRecDepth 100000 in
theorem c_Tok_scan (l : Launch) (D : va_G) (cs : Nat → ClassId) (sk : Nat) (st : Nat) (sn : Nat) (sb : Nat → Int32) (h : Nat) (r : Nat → Nat) (tp : Nat) (tb : Nat → Int32) (g : Nat → Nat → Option Nat) (f : Nat → Int32) (a : Nat → Nat → Int32) (p0 : Int32) (o6 : Option Nat) (g0 : sn ≤ 1000000) (g1 : 0 ≤ p0.toInt) (g2 : p0.toInt ≤ 2048) (g3 : 0 ≤ (f 13).toInt) (g4 : (f 13).toInt ≤ 2048) (g5 : 0 ≤ (f 17).toInt) (hn4 : ∀ j : Nat, 0 ≤ (a 4 j).toInt ∧ (a 4 j).toInt ≤ 1000 + 24 * (j : Int)) : MetV l y_Tok_scan b_Tok_scan 5 D cs 6 240 (0) (0) [.ref h, .ref tp, .int p0] [wd_Tok cs h r (fun k => if k = 6 then o6 else none) f a g, [(tp, .inl (cs 1, 2048, .inl tb))]] (oX (fun A U H => (vk_R "HomeSystem$Tokens" 127 "(){}[],;:?=|^&<>+-*/%!~" sk U) ∧ (oZ A U H) ∧ (oS A sk st sn sb U H)) [wd_Tok cs h r (fun k => if k = 6 then o6 else none) f a g, [(tp, .inl (cs 1, 2048, .inl tb))]]) (fun ps => ∃ (f' : Nat → Int32) (a' : Nat → Nat → Int32), (ps = [wd_Tok cs h r (fun _ => some tp) f' a' g, [(tp, .inl (cs 1, 2048, .inl tb))]]) ∧ (TokOk (f' 7) (f' 8) (f' 10) (f' 11) (f' 12) (f' 13) (f' 17) (a' 4)) ∧ ((f' 7).toInt = p0.toInt) ∧ (1 ≤ (f' 10).toInt)) := by
  refine px_enter (by decide) (Nat.le_of_ble_eq_true rfl) ?_
  intro p e s m below meth c A ls hAe S hr hlk hnm hA hT hX hw hl
  have hl : lv_has ls 5 [(0, .ref h), (1, .ref tp), (2, .int p0)] := hl
  have lp0 := Int32.le_toInt p0
  have up0 := Int32.toInt_lt p0
  have cst0 : (0 : Int32).toInt = 0 := rfl
  have cst1 : (1 : Int32).toInt = 1 := rfl
  have cst26 : (26 : Int32).toInt = 26 := rfl
  have hX : (fun A U H => (vk_R "HomeSystem$Tokens" 127 "(){}[],;:?=|^&<>+-*/%!~" sk U) ∧ (oZ A U H) ∧ (oS A sk st sn sb U H)) A s s.heap := by rw [hAe]; exact hX
  obtain ⟨hL, hZ, hS⟩ := hX
  have hsn : (nI sn).toInt = (sn : Int) := nI_toInt (by omega)
  have J41 : ∀ (n : Nat) (f_41 : Nat → Int32) (a_41 : Nat → Nat → Int32) (x41_3 x41_4 : Int32) (H : Heap) (locs : List Loc) (ls : Array Slot), (TokOk (f_41 7) (f_41 8) (f_41 10) (f_41 11) (f_41 12) (f_41 13) (f_41 17) (a_41 4)) → ((f_41 7).toInt = p0.toInt) → (0 ≤ x41_4.toInt) → (x41_4.toInt ≤ (f_41 7).toInt + 1) → (x41_4.toInt = 0 → x41_3.toInt = 1) → (x41_4.toInt ≤ 0 ∨ 1 ≤ (f_41 10).toInt) → (f_41 7).toInt+2-x41_4.toInt < (n : Int) → pw D A s.heap H locs [wd_Tok cs h r (fun _ => some tp) f_41 a_41 g, [(tp, .inl (cs 1, 2048, .inl tb))]] → lv_has ls 5 [(0, .ref h), (1, .ref tp), (2, .int p0), (3, .int x41_3), (4, .int x41_4)] → W p l e { frames := 6, cells := 0, slots := 0, locals := 240 } s m [.ref h, .ref tp, .int p0].toArray below meth c H locs 0 0 (MQ below (va_Qv (fun ps => ∃ (f' : Nat → Int32) (a' : Nat → Nat → Int32), (ps = [wd_Tok cs h r (fun _ => some tp) f' a' g, [(tp, .inl (cs 1, 2048, .inl tb))]]) ∧ (TokOk (f' 7) (f' 8) (f' 10) (f' 11) (f' 12) (f' 13) (f' 17) (a' 4)) ∧ ((f' 7).toInt = p0.toInt) ∧ (1 ≤ (f' 10).toInt)) (pc_B D (va_A ([wd_Tok cs h r (fun k => if k = 6 then o6 else none) f a g, [(tp, .inl (cs 1, 2048, .inl tb))]] : List va_W).flatten s.heap.size)) (va_A ([wd_Tok cs h r (fun k => if k = 6 then o6 else none) f a g, [(tp, .inl (cs 1, 2048, .inl tb))]] : List va_W).flatten s.heap.size)) [.ref h, .ref tp, .int p0].toArray s 0 0 A) (F0 m 41 ls []) := by
    intro n
    induction n with
    | zero =>
      intro f_41 a_41 x41_3 x41_4 H locs ls hi41_0 k41_0 k41_1 k41_2 k41_3 k41_4 hm hw hl
      obtain ⟨⟨o1, o2⟩, ⟨o3, o4⟩, ⟨o5, o6⟩, ⟨o7, o8⟩, ⟨o9, o10⟩, ⟨o11, o12⟩, o13, hn4⟩ := hi41_0
      have lx41_3 := Int32.le_toInt x41_3
      have ux41_3 := Int32.toInt_lt x41_3
      have lx41_4 := Int32.le_toInt x41_4
      have ux41_4 := Int32.toInt_lt x41_4
      exact absurd hm (by omega)
    | succ n ih =>
      intro f_41 a_41 x41_3 x41_4 H locs ls hi41_0 k41_0 k41_1 k41_2 k41_3 k41_4 hm hw hl
      obtain ⟨⟨o1, o2⟩, ⟨o3, o4⟩, ⟨o5, o6⟩, ⟨o7, o8⟩, ⟨o9, o10⟩, ⟨o11, o12⟩, o13, hn4⟩ := hi41_0
      have lx41_3 := Int32.le_toInt x41_3
      have ux41_3 := Int32.toInt_lt x41_3
      have lx41_4 := Int32.le_toInt x41_4
      have ux41_4 := Int32.toInt_lt x41_4
      refine lv_iload S.x S.b d_Tok_scan_41 (lv_at hl 4 rfl) ?_
      refine lv_aload_n S.x S.b d_Tok_scan_43 rfl (lv_at hl 0 rfl) ?_
      refine px_get S k_Tok hT hw 0 0 7 (v := .int (f_41 7)) rfl rfl rfl (by decide) m1_110 d_Tok_scan_44 ?_
      refine lv_icmp_gt (tgt := 69) S.x S.b d_Tok_scan_47 (by decide) (fun c1 => ?_) (fun c1 => ?_)
      · have nc1 : (f_41 7).toInt < x41_4.toInt := (i_lt (x := (f_41 7)) (y := x41_4)).mp c1
        exact px_vret S hr hlk hAe hw (Nat.le_of_ble_eq_true rfl) (Nat.le_of_ble_eq_true rfl) (⟨f_41, a_41, rfl, (show TokOk (f_41 7) (f_41 8) (f_41 10) (f_41 11) (f_41 12) (f_41 13) (f_41 17) (a_41 4) from ⟨⟨by omega, by omega⟩, ⟨by omega, by omega⟩, ⟨by omega, by omega⟩, ⟨by omega, by omega⟩, ⟨by omega, by omega⟩, ⟨by omega, by omega⟩, by omega, hn4⟩), (show (f_41 7).toInt = p0.toInt from by omega), (show 1 ≤ (f_41 10).toInt from by omega)⟩) d_Tok_scan_69
      · have nc1 : ¬ (f_41 7).toInt < x41_4.toInt := mt (i_lt (x := (f_41 7)) (y := x41_4)).mpr c1
        refine lv_iload_n S.x S.b d_Tok_scan_50 rfl (lv_at hl 3 rfl) ?_
        refine lv_if_eq (tgt := 69) S.x S.b d_Tok_scan_51 (by decide) (fun c2 => ?_) (fun c2 => ?_)
        · have nc2 : x41_3.toInt = (0 : Int) := (i_eq (x := x41_3) (y := 0)).mp c2
          exact px_vret S hr hlk hAe hw (Nat.le_of_ble_eq_true rfl) (Nat.le_of_ble_eq_true rfl) (⟨f_41, a_41, rfl, (show TokOk (f_41 7) (f_41 8) (f_41 10) (f_41 11) (f_41 12) (f_41 13) (f_41 17) (a_41 4) from ⟨⟨by omega, by omega⟩, ⟨by omega, by omega⟩, ⟨by omega, by omega⟩, ⟨by omega, by omega⟩, ⟨by omega, by omega⟩, ⟨by omega, by omega⟩, by omega, hn4⟩), (show (f_41 7).toInt = p0.toInt from by omega), (show 1 ≤ (f_41 10).toInt from by omega)⟩) d_Tok_scan_69
        · have nc2 : ¬ x41_3.toInt = (0 : Int) := mt (i_eq (x := x41_3) (y := 0)).mpr c2
          refine lv_aload_n S.x S.b d_Tok_scan_54 rfl (lv_at hl 0 rfl) ?_
          refine px_callv (pr := []) (px_runV (As := []) (rest := []) S (c_Tok_skip l D cs h r tp tb f_41 a_41 g  (show TokOk (f_41 7) (f_41 8) (f_41 10) (f_41 11) (f_41 12) (f_41 13) (f_41 17) (a_41 4) from ⟨⟨by omega, by omega⟩, ⟨by omega, by omega⟩, ⟨by omega, by omega⟩, ⟨by omega, by omega⟩, ⟨by omega, by omega⟩, ⟨by omega, by omega⟩, by omega, hn4⟩)  _) hT (pr := []) (pcs := [wd_Tok cs h r (fun _ => some tp) f_41 a_41 g, [(tp, .inl (cs 1, 2048, .inl tb))]]) hw px_X.tt (px_recv hT hw 0 0 rfl rfl rfl) m3_182 m3_179 m3_181 ms_1_5 m1_2 q_Tok_skip ⟨Nat.le_of_ble_eq_true rfl, Nat.le_of_ble_eq_true rfl⟩ hl.1 rfl (Nat.le_of_ble_eq_true rfl) d_Tok_scan_55 ⟨Nat.le_of_ble_eq_true rfl, Nat.le_of_ble_eq_true rfl⟩) hw hA (fun p5 H locs hp5 hw => ?_)
          obtain ⟨f3, a4, rfl, hok, e7⟩ := hp5
          obtain ⟨⟨o1, o2⟩, ⟨o3, o4⟩, ⟨o5, o6⟩, ⟨o7, o8⟩, ⟨o9, o10⟩, ⟨o11, o12⟩, o13, hn4⟩ := hok
          have e7 : (f3 7).toInt = (f_41 7).toInt := e7
          have hw : pw D A s.heap H locs [wd_Tok cs h r (fun _ => some tp) f3 a4 g, [(tp, .inl (cs 1, 2048, .inl tb))]] := hw
          refine lv_aload_n S.x S.b d_Tok_scan_58 rfl (lv_at hl 0 rfl) ?_
          refine px_calli (pr := []) (px_runV (As := []) (rest := []) S (c_Tok_token l D cs sk st sn sb h r tp tb g f3 a4   (show TokOk (f3 7) (f3 8) (f3 10) (f3 11) (f3 12) (f3 13) (f3 17) (a4 4) from ⟨⟨by omega, by omega⟩, ⟨by omega, by omega⟩, ⟨by omega, by omega⟩, ⟨by omega, by omega⟩, ⟨by omega, by omega⟩, ⟨by omega, by omega⟩, by omega, hn4⟩) (show sn ≤ 1000000 from by omega) _) hT (pr := []) (pcs := [wd_Tok cs h r (fun _ => some tp) f3 a4 g, [(tp, .inl (cs 1, 2048, .inl tb))]]) hw (oX_call (P := (fun A U H => (vk_R "HomeSystem$Tokens" 127 "(){}[],;:?=|^&<>+-*/%!~" sk U) ∧ (oZ A U H) ∧ (oS A sk st sn sb U H))) (pr := []) (oG_and oG_L (oG_and oG_Z oG_S)) hw hA ⟨hL, hZ, hS⟩) (px_recv hT hw 0 0 rfl rfl rfl) m3_198 m3_195 m3_197 ms_1_9 m1_2 q_Tok_token ⟨Nat.le_of_ble_eq_true rfl, Nat.le_of_ble_eq_true rfl⟩ hl.1 rfl (Nat.le_of_ble_eq_true rfl) d_Tok_scan_59 ⟨Nat.le_of_ble_eq_true rfl, Nat.le_of_ble_eq_true rfl⟩) hw hA (fun v11 p10 H locs hp10 hw => ?_)
          obtain ⟨f8, a9, rfl, h15, e12, e13, e14⟩ := hp10
          obtain ⟨⟨o1, o2⟩, ⟨o3, o4⟩, ⟨o5, o6⟩, ⟨o7, o8⟩, ⟨o9, o10⟩, ⟨o11, o12⟩, o13, hn4⟩ := h15
          have e12 : (f8 7).toInt = (f3 7).toInt := e12
          have e13 := z_rng e13
          have e14 : 1 ≤ (f8 10).toInt := e14
          have hw : pw D A s.heap H locs [wd_Tok cs h r (fun _ => some tp) f8 a9 g, [(tp, .inl (cs 1, 2048, .inl tb))]] := hw
          have lv11 := Int32.le_toInt v11
          have uv11 := Int32.toInt_lt v11
          refine lv_istore_n (lv' := [(3, .int v11), (0, .ref h), (1, .ref tp), (2, .int p0), (4, .int x41_4)]) S.x S.b d_Tok_scan_62 rfl hl (by decide) rfl (fun ls hl => ?_)
          obtain ⟨z16, ez16⟩ : ∃ y : Int32, y = x41_4 + 1 := ⟨_, rfl⟩
          have tz16 : z16.toInt = (x41_4.toInt + 1 + 2147483648) % 4294967296 - 2147483648 := by rw [ez16]; exact i_add x41_4 1
          have lz16 := Int32.le_toInt z16
          have uz16 := Int32.toInt_lt z16
          try replace tz16 : z16.toInt = x41_4.toInt + 1 := by omega
          refine lv_iinc (v := z16) (lv' := [(4, .int z16), (3, .int v11), (0, .ref h), (1, .ref tp), (2, .int p0)]) S.x S.b d_Tok_scan_63 hl (k := 4) rfl (by rw [ez16]; rfl) (by decide) rfl (fun ls hl => ?_)
          refine lv_goto (tgt := 41) S.x S.b d_Tok_scan_66 (by decide) ?_
          exact ih f8 a9 v11 z16 _ _ ls (show TokOk (f8 7) (f8 8) (f8 10) (f8 11) (f8 12) (f8 13) (f8 17) (a9 4) from ⟨⟨by omega, by omega⟩, ⟨by omega, by omega⟩, ⟨by omega, by omega⟩, ⟨by omega, by omega⟩, ⟨by omega, by omega⟩, ⟨by omega, by omega⟩, by omega, hn4⟩) (show (f8 7).toInt = p0.toInt from by omega) (show 0 ≤ z16.toInt from by omega) (show z16.toInt ≤ (f8 7).toInt + 1 from by omega) (show z16.toInt = 0 → v11.toInt = 1 from by omega) (show z16.toInt ≤ 0 ∨ 1 ≤ (f8 10).toInt from by omega) (show (f8 7).toInt+2-z16.toInt < (n : Int) from by omega) hw (lv_sub hl [2, 3, 4, 1, 0] rfl)
  refine lv_aload_n S.x S.b d_Tok_scan_0 rfl (lv_at hl 0 rfl) ?_
  refine lv_aload_n S.x S.b d_Tok_scan_1 rfl (lv_at hl 1 rfl) ?_
  refine px_put S k_Tok hT hw 0 0 6 rfl rfl (by decide) m1_109 rfl rfl rfl (Nat.le_of_ble_eq_true rfl) d_Tok_scan_2 (w' := wd_Tok cs h r (fun k => if k = 6 then (some tp) else none) f a g) (ps' := [wd_Tok cs h r (fun k => if k = 6 then (some tp) else none) f a g, [(tp, .inl (cs 1, 2048, .inl tb))]]) rfl rfl (fun H locs hw => ?_)
  have hw : pw D A s.heap _ _ [wd_Tok cs h r (fun _ => some tp) f a g, [(tp, .inl (cs 1, 2048, .inl tb))]] := hw.eq rfl
  refine lv_aload_n S.x S.b d_Tok_scan_5 rfl (lv_at hl 0 rfl) ?_
  refine lv_iload_n S.x S.b d_Tok_scan_6 rfl (lv_at hl 2 rfl) ?_
  refine px_put S k_Tok hT hw 0 0 7 rfl rfl (by decide) m1_110 rfl rfl rfl (Nat.le_of_ble_eq_true rfl) d_Tok_scan_7 (w' := wd_Tok cs h r (fun _ => some tp) (upd f 7 p0) a g) (ps' := [wd_Tok cs h r (fun _ => some tp) (upd f 7 p0) a g, [(tp, .inl (cs 1, 2048, .inl tb))]]) rfl rfl (fun H locs hw => ?_)
  refine lv_aload_n S.x S.b d_Tok_scan_10 rfl (lv_at hl 0 rfl) ?_
  refine lv_iconst (v := 0) S.x S.b d_Tok_scan_11 (by decide) ?_
  refine px_put S k_Tok hT hw 0 0 8 rfl rfl (by decide) m1_111 rfl rfl rfl (Nat.le_of_ble_eq_true rfl) d_Tok_scan_12 (w' := wd_Tok cs h r (fun _ => some tp) (upd (upd f 7 p0) 8 0) a g) (ps' := [wd_Tok cs h r (fun _ => some tp) (upd (upd f 7 p0) 8 0) a g, [(tp, .inl (cs 1, 2048, .inl tb))]]) rfl rfl (fun H locs hw => ?_)
  refine lv_aload_n S.x S.b d_Tok_scan_15 rfl (lv_at hl 0 rfl) ?_
  refine lv_iconst (v := 0) S.x S.b d_Tok_scan_16 (by decide) ?_
  refine px_put S k_Tok hT hw 0 0 10 rfl rfl (by decide) m1_113 rfl rfl rfl (Nat.le_of_ble_eq_true rfl) d_Tok_scan_17 (w' := wd_Tok cs h r (fun _ => some tp) (upd (upd (upd f 7 p0) 8 0) 10 0) a g) (ps' := [wd_Tok cs h r (fun _ => some tp) (upd (upd (upd f 7 p0) 8 0) 10 0) a g, [(tp, .inl (cs 1, 2048, .inl tb))]]) rfl rfl (fun H locs hw => ?_)
  refine lv_aload_n S.x S.b d_Tok_scan_20 rfl (lv_at hl 0 rfl) ?_
  refine lv_bipush (v := 26) S.x S.b d_Tok_scan_21 (by decide) ?_
  refine px_put S k_Tok hT hw 0 0 11 rfl rfl (by decide) m1_114 rfl rfl rfl (Nat.le_of_ble_eq_true rfl) d_Tok_scan_23 (w' := wd_Tok cs h r (fun _ => some tp) (upd (upd (upd (upd f 7 p0) 8 0) 10 0) 11 26) a g) (ps' := [wd_Tok cs h r (fun _ => some tp) (upd (upd (upd (upd f 7 p0) 8 0) 10 0) 11 26) a g, [(tp, .inl (cs 1, 2048, .inl tb))]]) rfl rfl (fun H locs hw => ?_)
  refine lv_aload_n S.x S.b d_Tok_scan_26 rfl (lv_at hl 0 rfl) ?_
  refine lv_iconst (v := 0) S.x S.b d_Tok_scan_27 (by decide) ?_
  refine px_put S k_Tok hT hw 0 0 12 rfl rfl (by decide) m1_115 rfl rfl rfl (Nat.le_of_ble_eq_true rfl) d_Tok_scan_28 (w' := wd_Tok cs h r (fun _ => some tp) (upd (upd (upd (upd (upd f 7 p0) 8 0) 10 0) 11 26) 12 0) a g) (ps' := [wd_Tok cs h r (fun _ => some tp) (upd (upd (upd (upd (upd f 7 p0) 8 0) 10 0) 11 26) 12 0) a g, [(tp, .inl (cs 1, 2048, .inl tb))]]) rfl rfl (fun H locs hw => ?_)
  refine lv_aload_n S.x S.b d_Tok_scan_31 rfl (lv_at hl 0 rfl) ?_
  refine lv_iconst (v := 0) S.x S.b d_Tok_scan_32 (by decide) ?_
  refine px_put S k_Tok hT hw 0 0 15 rfl rfl (by decide) m1_121 rfl rfl rfl (Nat.le_of_ble_eq_true rfl) d_Tok_scan_33 (w' := wd_Tok cs h r (fun _ => some tp) (upd (upd (upd (upd (upd (upd f 7 p0) 8 0) 10 0) 11 26) 12 0) 15 0) a g) (ps' := [wd_Tok cs h r (fun _ => some tp) (upd (upd (upd (upd (upd (upd f 7 p0) 8 0) 10 0) 11 26) 12 0) 15 0) a g, [(tp, .inl (cs 1, 2048, .inl tb))]]) rfl rfl (fun H locs hw => ?_)
  refine lv_iconst (v := 1) S.x S.b d_Tok_scan_36 (by decide) ?_
  refine lv_istore_n (lv' := [(3, .int 1), (0, .ref h), (1, .ref tp), (2, .int p0)]) S.x S.b d_Tok_scan_37 rfl hl (by decide) rfl (fun ls hl => ?_)
  refine lv_iconst (v := 0) S.x S.b d_Tok_scan_38 (by decide) ?_
  refine lv_istore (lv' := [(4, .int 0), (3, .int 1), (0, .ref h), (1, .ref tp), (2, .int p0)]) S.x S.b d_Tok_scan_39 hl (by decide) rfl (fun ls hl => ?_)
  exact J41 ((p0.toInt+2-(0 : Int)).toNat + 1) (upd (upd (upd (upd (upd (upd f 7 p0) 8 0) 10 0) 11 26) 12 0) 15 0) a (1 : Int32) (0 : Int32) _ _ ls (show TokOk p0 0 0 26 0 (f 13) (f 17) (a 4) from ⟨⟨by omega, by omega⟩, ⟨by omega, by omega⟩, ⟨by omega, by omega⟩, ⟨by omega, by omega⟩, ⟨by omega, by omega⟩, ⟨by omega, by omega⟩, by omega, hn4⟩) (show p0.toInt = p0.toInt from by omega) (show 0 ≤ (0 : Int) from by omega) (show (0 : Int) ≤ p0.toInt + 1 from by omega) (show (0 : Int) = 0 → (1 : Int) = 1 from by omega) (show (0 : Int) ≤ 0 ∨ 1 ≤ (0 : Int) from by omega) (show p0.toInt+2-(0 : Int) < ((((p0.toInt+2-(0 : Int)).toNat + 1 : Nat) : Int) : Int) from by omega) hw (lv_sub hl [2, 3, 4, 1, 0] rfl)
