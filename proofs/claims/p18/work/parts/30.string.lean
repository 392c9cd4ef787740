theorem oz_3462ede644 {a0 a1 : Int} {n2 : Nat} (h0 : a0 < (n2 : Int)) (h1 : a1 = (n2 : Int)) : a0 < a1 := by omega
theorem oz_fcd56301a2 {a0 a2 : Int} {n1 : Nat} (h0 : a2 = (n1 : Int)) (h1 : a0 ≤ a2) : a0 ≤ (n1 : Int) := by omega
theorem m1_63 : Cond.fieldLink "java/lang/String" 38 "java/lang/String" "COMPACT_STRINGS" "Z" ∈ AL := AL_1 (List.mem_of_getElem? (i := 63) rfl) rfl
theorem m8_12 : Cond.fieldLink "java/lang/String" 15 "java/lang/String" "coder" "B" ∈ AL := AL_8 (List.mem_of_getElem? (i := 12) rfl) rfl
theorem m8_11 : Cond.fieldLink "java/lang/String" 9 "java/lang/String" "value" "[B" ∈ AL := AL_8 (List.mem_of_getElem? (i := 11) rfl) rfl
theorem m1_59 : Cond.methodLink "java/lang/String" 335 ⟨"java/lang/String", "coder", "()B"⟩ ∈ AL := AL_1 (List.mem_of_getElem? (i := 59) rfl) rfl
theorem m1_62 : Cond.code ⟨"java/lang/String", "coder", "()B"⟩ prog_31_method_152_code 1 (Option.some FieldType.byte) ∈ AL := AL_1 (List.mem_of_getElem? (i := 62) rfl) rfl
theorem m1_3 : Cond.initialized "java/lang/String" ∈ AL := AL_1 (List.mem_of_getElem? (i := 3) rfl) rfl
theorem m1_60 : Cond.instanceMethod ⟨"java/lang/String", "coder", "()B"⟩ ∈ AL := AL_1 (List.mem_of_getElem? (i := 60) rfl) rfl
theorem m1_61 : Cond.selects "java/lang/String" ⟨"java/lang/String", "coder", "()B"⟩ ⟨"java/lang/String", "coder", "()B"⟩ ∈ AL := AL_1 (List.mem_of_getElem? (i := 61) rfl) rfl
theorem m1_79 : Cond.fieldLink "java/lang/String" 1053 "jdk/internal/util/Preconditions" "SIOOBE_FORMATTER" "Ljava/util/function/BiFunction;" ∈ AL := AL_1 (List.mem_of_getElem? (i := 79) rfl) rfl
theorem m1_81 : Cond.methodLink "java/lang/String" 1059 ⟨"jdk/internal/util/Preconditions", "checkIndex", "(IILjava/util/function/BiFunction;)I"⟩ ∈ AL := AL_1 (List.mem_of_getElem? (i := 81) rfl) rfl
theorem m1_83 : Cond.code ⟨"jdk/internal/util/Preconditions", "checkIndex", "(IILjava/util/function/BiFunction;)I"⟩ prog_47_method_11_code 3 (Option.some FieldType.int) ∈ AL := AL_1 (List.mem_of_getElem? (i := 83) rfl) rfl
theorem m1_5 : Cond.initialized "jdk/internal/util/Preconditions" ∈ AL := AL_1 (List.mem_of_getElem? (i := 5) rfl) rfl
theorem m1_82 : Cond.static ⟨"jdk/internal/util/Preconditions", "checkIndex", "(IILjava/util/function/BiFunction;)I"⟩ ∈ AL := AL_1 (List.mem_of_getElem? (i := 82) rfl) rfl
theorem m1_76 : Cond.methodLink "java/lang/StringLatin1" 9 ⟨"java/lang/String", "checkIndex", "(II)V"⟩ ∈ AL := AL_1 (List.mem_of_getElem? (i := 76) rfl) rfl
theorem m1_78 : Cond.code ⟨"java/lang/String", "checkIndex", "(II)V"⟩ prog_31_method_155_code 2 (Option.none : Option Jvm.ClassFile.FieldType) ∈ AL := AL_1 (List.mem_of_getElem? (i := 78) rfl) rfl
theorem m1_77 : Cond.static ⟨"java/lang/String", "checkIndex", "(II)V"⟩ ∈ AL := AL_1 (List.mem_of_getElem? (i := 77) rfl) rfl
theorem m1_69 : Cond.methodLink "java/lang/String" 492 ⟨"java/lang/String", "isLatin1", "()Z"⟩ ∈ AL := AL_1 (List.mem_of_getElem? (i := 69) rfl) rfl
theorem m1_72 : Cond.code ⟨"java/lang/String", "isLatin1", "()Z"⟩ prog_31_method_154_code 1 (Option.some FieldType.boolean) ∈ AL := AL_1 (List.mem_of_getElem? (i := 72) rfl) rfl
theorem m1_70 : Cond.instanceMethod ⟨"java/lang/String", "isLatin1", "()Z"⟩ ∈ AL := AL_1 (List.mem_of_getElem? (i := 70) rfl) rfl
theorem m1_71 : Cond.selects "java/lang/String" ⟨"java/lang/String", "isLatin1", "()Z"⟩ ⟨"java/lang/String", "isLatin1", "()Z"⟩ ∈ AL := AL_1 (List.mem_of_getElem? (i := 71) rfl) rfl
theorem m1_84 : Cond.methodLink "java/lang/String" 498 ⟨"java/lang/StringUTF16", "charAt", "([BI)C"⟩ ∈ AL := AL_1 (List.mem_of_getElem? (i := 84) rfl) rfl
theorem m1_73 : Cond.methodLink "java/lang/String" 495 ⟨"java/lang/StringLatin1", "charAt", "([BI)C"⟩ ∈ AL := AL_1 (List.mem_of_getElem? (i := 73) rfl) rfl
theorem m1_75 : Cond.code ⟨"java/lang/StringLatin1", "charAt", "([BI)C"⟩ prog_33_method_2_code 2 (Option.some FieldType.char) ∈ AL := AL_1 (List.mem_of_getElem? (i := 75) rfl) rfl
theorem m1_4 : Cond.initialized "java/lang/StringLatin1" ∈ AL := AL_1 (List.mem_of_getElem? (i := 4) rfl) rfl
theorem m1_74 : Cond.static ⟨"java/lang/StringLatin1", "charAt", "([BI)C"⟩ ∈ AL := AL_1 (List.mem_of_getElem? (i := 74) rfl) rfl
theorem m4_19 : Cond.methodLink "java/lang/StringLatin1" 88 ⟨"java/lang/StringLatin1", "canEncode", "(I)Z"⟩ ∈ AL := AL_4 (List.mem_of_getElem? (i := 19) rfl) rfl
theorem m4_21 : Cond.code ⟨"java/lang/StringLatin1", "canEncode", "(I)Z"⟩ prog_33_method_4_code 1 (Option.some FieldType.boolean) ∈ AL := AL_4 (List.mem_of_getElem? (i := 21) rfl) rfl
theorem m4_20 : Cond.static ⟨"java/lang/StringLatin1", "canEncode", "(I)Z"⟩ ∈ AL := AL_4 (List.mem_of_getElem? (i := 20) rfl) rfl
theorem m4_22 : Cond.methodLink "java/lang/StringLatin1" 92 ⟨"java/lang/Math", "max", "(II)I"⟩ ∈ AL := AL_4 (List.mem_of_getElem? (i := 22) rfl) rfl
theorem m4_23 : Cond.methodLink "java/lang/StringLatin1" 38 ⟨"java/lang/Math", "min", "(II)I"⟩ ∈ AL := AL_4 (List.mem_of_getElem? (i := 23) rfl) rfl
theorem m4_24 : Cond.methodLink "java/lang/StringLatin1" 95 ⟨"java/lang/StringLatin1", "indexOfChar", "([BIII)I"⟩ ∈ AL := AL_4 (List.mem_of_getElem? (i := 24) rfl) rfl
theorem m4_26 : Cond.code ⟨"java/lang/StringLatin1", "indexOfChar", "([BIII)I"⟩ prog_33_method_23_code 6 (Option.some FieldType.int) ∈ AL := AL_4 (List.mem_of_getElem? (i := 26) rfl) rfl
theorem m4_25 : Cond.static ⟨"java/lang/StringLatin1", "indexOfChar", "([BIII)I"⟩ ∈ AL := AL_4 (List.mem_of_getElem? (i := 25) rfl) rfl
theorem m4_15 : Cond.methodLink "java/lang/String" 505 ⟨"java/lang/String", "length", "()I"⟩ ∈ AL := AL_4 (List.mem_of_getElem? (i := 15) rfl) rfl
theorem m1_58 : Cond.code ⟨"java/lang/String", "length", "()I"⟩ prog_31_method_54_code 1 (Option.some FieldType.int) ∈ AL := AL_1 (List.mem_of_getElem? (i := 58) rfl) rfl
theorem m1_56 : Cond.instanceMethod ⟨"java/lang/String", "length", "()I"⟩ ∈ AL := AL_1 (List.mem_of_getElem? (i := 56) rfl) rfl
theorem m1_57 : Cond.selects "java/lang/String" ⟨"java/lang/String", "length", "()I"⟩ ⟨"java/lang/String", "length", "()I"⟩ ∈ AL := AL_1 (List.mem_of_getElem? (i := 57) rfl) rfl
theorem m4_27 : Cond.methodLink "java/lang/String" 640 ⟨"java/lang/StringUTF16", "indexOf", "([BIII)I"⟩ ∈ AL := AL_4 (List.mem_of_getElem? (i := 27) rfl) rfl
theorem m4_16 : Cond.methodLink "java/lang/String" 637 ⟨"java/lang/StringLatin1", "indexOf", "([BIII)I"⟩ ∈ AL := AL_4 (List.mem_of_getElem? (i := 16) rfl) rfl
theorem m4_18 : Cond.code ⟨"java/lang/StringLatin1", "indexOf", "([BIII)I"⟩ prog_33_method_22_code 4 (Option.some FieldType.int) ∈ AL := AL_4 (List.mem_of_getElem? (i := 18) rfl) rfl
theorem m4_17 : Cond.static ⟨"java/lang/StringLatin1", "indexOf", "([BIII)I"⟩ ∈ AL := AL_4 (List.mem_of_getElem? (i := 17) rfl) rfl
theorem m4_11 : Cond.methodLink "java/lang/String" 633 ⟨"java/lang/String", "indexOf", "(II)I"⟩ ∈ AL := AL_4 (List.mem_of_getElem? (i := 11) rfl) rfl
theorem m4_14 : Cond.code ⟨"java/lang/String", "indexOf", "(II)I"⟩ prog_31_method_80_code 3 (Option.some FieldType.int) ∈ AL := AL_4 (List.mem_of_getElem? (i := 14) rfl) rfl
theorem m4_12 : Cond.instanceMethod ⟨"java/lang/String", "indexOf", "(II)I"⟩ ∈ AL := AL_4 (List.mem_of_getElem? (i := 12) rfl) rfl
theorem m4_13 : Cond.selects "java/lang/String" ⟨"java/lang/String", "indexOf", "(II)I"⟩ ⟨"java/lang/String", "indexOf", "(II)I"⟩ ∈ AL := AL_4 (List.mem_of_getElem? (i := 13) rfl) rfl
abbrev b_String_coder : ByteArray := prog_31_method_152_code
def y_String_coder : MethodName := ⟨"java/lang/String", "coder", "()B"⟩
theorem d_String_coder_0 : decode b_String_coder 0 = .ok (.getstatic 38, 3) := by decide +kernel
theorem d_String_coder_3 : decode b_String_coder 3 = .ok (.ifCond .eq 10, 3) := by decide +kernel
theorem d_String_coder_6 : decode b_String_coder 6 = .ok (.aload_n 0, 1) := by decide +kernel
theorem d_String_coder_7 : decode b_String_coder 7 = .ok (.getfield 15, 3) := by decide +kernel
theorem d_String_coder_10 : decode b_String_coder 10 = .ok (.goto 4, 3) := by decide +kernel
theorem d_String_coder_13 : decode b_String_coder 13 = .ok (.iconst 1, 1) := by decide +kernel
theorem d_String_coder_14 : decode b_String_coder 14 = .ok (.ireturn, 1) := by decide +kernel
theorem q_String_coder : px_y y_String_coder 0 := by unfold px_y; decide +kernel
set_option maxHeartbeats 4000000 in
set_option maxRecDepth 100000 in
theorem c_String_coder (l : Launch) (D : va_G) (cs : Nat → ClassId) (sk : Nat) (st : Nat) (sn : Nat) (sb : Nat → Int32)  (g0 : sn ≤ 1000000) : MetI l y_String_coder b_String_coder 1 (.byte) D cs 0 0 (0) (0) [.ref sk] [] (oX (fun A U H => (oZ A U H) ∧ (oS A sk st sn sb U H)) []) (fun v ps => (ps = []) ∧ (v.toInt = 0) ∧ (R_String_coder v)) := by
  refine px_enter (by decide) (Nat.le_of_ble_eq_true rfl) ?_
  intro p e s m below meth c A ls hAe S hr hlk hnm hA hT hX hw hl
  have hl : lv_has ls 1 [(0, .ref sk)] := hl
  have cst1 : (1 : Int32).toInt = 1 := rfl
  have hX : (fun A U H => (oZ A U H) ∧ (oS A sk st sn sb U H)) A s s.heap := by rw [hAe]; exact hX
  obtain ⟨hZ, hS⟩ := hX
  have hsn : (nI sn).toInt = (sn : Int) := nI_toInt (by omega)
  refine va_gets S.x S.b hZ hw.2.2 S.own (S.w m1_63) (fun _ h => h) d_String_coder_0 ?_
  refine lv_if_eq (tgt := 13) S.x S.b d_String_coder_3 (by decide) (fun c1 => ?_) (fun c1 => ?_)
  · exact absurd c1 (by decide)
  ·
    refine lv_aload_n S.x S.b d_String_coder_6 rfl (lv_at hl 0 rfl) ?_
    refine vk_getf S.x S.b hS.2.1 hw.2.2 S.own (S.w m8_12) (fun _ h => h) d_String_coder_7 ?_
    refine lv_goto (tgt := 14) S.x S.b d_String_coder_10 (by decide) ?_
    exact px_iret (v := 0) S hr rfl hlk hAe hw (Nat.le_of_ble_eq_true rfl) (Nat.le_of_ble_eq_true rfl) (⟨rfl, (show (0 : Int) = 0 from by first | exact oz_7d1a308c7e | omega), (show R_String_coder (0 : Int32) from (Or.inl rfl))⟩) d_String_coder_14
abbrev b_String_isLatin1 : ByteArray := prog_31_method_154_code
def y_String_isLatin1 : MethodName := ⟨"java/lang/String", "isLatin1", "()Z"⟩
theorem d_String_isLatin1_0 : decode b_String_isLatin1 0 = .ok (.getstatic 38, 3) := by decide +kernel
theorem d_String_isLatin1_3 : decode b_String_isLatin1 3 = .ok (.ifCond .eq 14, 3) := by decide +kernel
theorem d_String_isLatin1_6 : decode b_String_isLatin1 6 = .ok (.aload_n 0, 1) := by decide +kernel
theorem d_String_isLatin1_7 : decode b_String_isLatin1 7 = .ok (.getfield 15, 3) := by decide +kernel
theorem d_String_isLatin1_10 : decode b_String_isLatin1 10 = .ok (.ifCond .ne 7, 3) := by decide +kernel
theorem d_String_isLatin1_13 : decode b_String_isLatin1 13 = .ok (.iconst 1, 1) := by decide +kernel
theorem d_String_isLatin1_14 : decode b_String_isLatin1 14 = .ok (.goto 4, 3) := by decide +kernel
theorem d_String_isLatin1_17 : decode b_String_isLatin1 17 = .ok (.iconst 0, 1) := by decide +kernel
theorem d_String_isLatin1_18 : decode b_String_isLatin1 18 = .ok (.ireturn, 1) := by decide +kernel
theorem q_String_isLatin1 : px_y y_String_isLatin1 0 := by unfold px_y; decide +kernel
set_option maxHeartbeats 4000000 in
set_option maxRecDepth 100000 in
theorem c_String_isLatin1 (l : Launch) (D : va_G) (cs : Nat → ClassId) (sk : Nat) (st : Nat) (sn : Nat) (sb : Nat → Int32)  (g0 : sn ≤ 1000000) : MetI l y_String_isLatin1 b_String_isLatin1 1 (.boolean) D cs 0 0 (0) (0) [.ref sk] [] (oX (fun A U H => (oZ A U H) ∧ (oS A sk st sn sb U H)) []) (fun v ps => (ps = []) ∧ (v.toInt = 1) ∧ (R_String_isLatin1 v)) := by
  refine px_enter (by decide) (Nat.le_of_ble_eq_true rfl) ?_
  intro p e s m below meth c A ls hAe S hr hlk hnm hA hT hX hw hl
  have hl : lv_has ls 1 [(0, .ref sk)] := hl
  have cst0 : (0 : Int32).toInt = 0 := rfl
  have cst1 : (1 : Int32).toInt = 1 := rfl
  have hX : (fun A U H => (oZ A U H) ∧ (oS A sk st sn sb U H)) A s s.heap := by rw [hAe]; exact hX
  obtain ⟨hZ, hS⟩ := hX
  have hsn : (nI sn).toInt = (sn : Int) := nI_toInt (by omega)
  refine va_gets S.x S.b hZ hw.2.2 S.own (S.w m1_63) (fun _ h => h) d_String_isLatin1_0 ?_
  refine lv_if_eq (tgt := 17) S.x S.b d_String_isLatin1_3 (by decide) (fun c1 => ?_) (fun c1 => ?_)
  · exact absurd c1 (by decide)
  ·
    refine lv_aload_n S.x S.b d_String_isLatin1_6 rfl (lv_at hl 0 rfl) ?_
    refine vk_getf S.x S.b hS.2.1 hw.2.2 S.own (S.w m8_12) (fun _ h => h) d_String_isLatin1_7 ?_
    refine lv_if_ne (tgt := 17) S.x S.b d_String_isLatin1_10 (by decide) (fun c2 => ?_) (fun c2 => ?_)
    · exact absurd c2 (by decide)
    ·
      refine lv_iconst (v := 1) S.x S.b d_String_isLatin1_13 (by decide) ?_
      refine lv_goto (tgt := 18) S.x S.b d_String_isLatin1_14 (by decide) ?_
      exact px_iret (v := 1) S hr rfl hlk hAe hw (Nat.le_of_ble_eq_true rfl) (Nat.le_of_ble_eq_true rfl) (⟨rfl, (show (1 : Int) = 1 from by first | exact oz_1285e5f113 | omega), (show R_String_isLatin1 (1 : Int32) from (Or.inl rfl))⟩) d_String_isLatin1_18
abbrev b_String_length : ByteArray := prog_31_method_54_code
def y_String_length : MethodName := ⟨"java/lang/String", "length", "()I"⟩
theorem d_String_length_0 : decode b_String_length 0 = .ok (.aload_n 0, 1) := by decide +kernel
theorem d_String_length_1 : decode b_String_length 1 = .ok (.getfield 9, 3) := by decide +kernel
theorem d_String_length_4 : decode b_String_length 4 = .ok (.arraylength, 1) := by decide +kernel
theorem d_String_length_5 : decode b_String_length 5 = .ok (.aload_n 0, 1) := by decide +kernel
theorem d_String_length_6 : decode b_String_length 6 = .ok (.invokevirtual 335, 3) := by decide +kernel
theorem d_String_length_9 : decode b_String_length 9 = .ok (.ishr, 1) := by decide +kernel
theorem d_String_length_10 : decode b_String_length 10 = .ok (.ireturn, 1) := by decide +kernel
theorem q_String_length : px_y y_String_length 0 := by unfold px_y; decide +kernel
set_option maxHeartbeats 4000000 in
set_option maxRecDepth 100000 in
theorem c_String_length (l : Launch) (D : va_G) (cs : Nat → ClassId) (sk : Nat) (st : Nat) (sn : Nat) (sb : Nat → Int32)  (g0 : sn ≤ 1000000) : MetI l y_String_length b_String_length 1 (.int) D cs 1 30 (0) (0) [.ref sk] [] (oX (fun A U H => (oZ A U H) ∧ (oS A sk st sn sb U H)) []) (fun v ps => (ps = []) ∧ (v.toInt = (sn : Int)) ∧ (R_String_length sn v)) := by
  refine px_enter (by decide) (Nat.le_of_ble_eq_true rfl) ?_
  intro p e s m below meth c A ls hAe S hr hlk hnm hA hT hX hw hl
  have hl : lv_has ls 1 [(0, .ref sk)] := hl
  have hX : (fun A U H => (oZ A U H) ∧ (oS A sk st sn sb U H)) A s s.heap := by rw [hAe]; exact hX
  obtain ⟨hZ, hS⟩ := hX
  have hsn : (nI sn).toInt = (sn : Int) := nI_toInt (by omega)
  refine lv_aload_n S.x S.b d_String_length_0 rfl (lv_at hl 0 rfl) ?_
  refine vk_getf S.x S.b hS.2.2.1 hw.2.2 S.own (S.w m8_11) (fun _ h => h) d_String_length_1 ?_
  refine va_tlen S.x S.b hS.2.2.2 hw.2.2 (v := (nI sn)) rfl d_String_length_4 ?_
  refine lv_aload_n S.x S.b d_String_length_5 rfl (lv_at hl 0 rfl) ?_
  refine px_calli (pr := []) (px_runV (As := []) (rest := [.int (nI sn)]) S (c_String_coder l D cs sk st sn sb   (show sn ≤ 1000000 from by first | exact g0 | omega) _) hT (pr := []) (pcs := []) hw (oX_call (P := (fun A U H => (oZ A U H) ∧ (oS A sk st sn sb U H))) (pr := []) (oG_and oG_Z oG_S) hw hA ⟨hZ, hS⟩) (oS_recv hw hS) m1_62 m1_59 m1_60 m1_61 m1_3 q_String_coder ⟨Nat.le_of_ble_eq_true rfl, Nat.le_of_ble_eq_true rfl⟩ hl.1 rfl (Nat.le_of_ble_eq_true rfl) d_String_length_6 ⟨Nat.le_of_ble_eq_true rfl, Nat.le_of_ble_eq_true rfl⟩) hw hA (fun v2 p1 H locs hp1 hw => ?_)
  obtain ⟨rfl, e3, e4⟩ := hp1
  have e3 : v2.toInt = 0 := e3
  have e4 : R_String_coder v2 := e4
  have hw : pw D A s.heap H locs [] := hw
  have lv2 := Int32.le_toInt v2
  have uv2 := Int32.toInt_lt v2
  refine lv_ishr S.x S.b d_String_length_9 ?_
  have lr5 := Int32.le_toInt (nI sn)
  have ur5 := Int32.toInt_lt (nI sn)
  refine lv_topi (fun z6 ez6 => ?_)
  have lz6 := Int32.le_toInt z6
  have uz6 := Int32.toInt_lt z6
  have tz6 : z6.toInt = (sn : Int) := by rw [ez6, show v2 = 0 from i_eq.mpr (show _ = (0 : Int) from by omega), sb_shr0]; omega
  exact px_iret (v := z6) S hr rfl hlk hAe hw (Nat.le_of_ble_eq_true rfl) (Nat.le_of_ble_eq_true rfl) (⟨rfl, (show z6.toInt = (sn : Int) from by first | exact tz6 | omega), (show R_String_length sn z6 from (Or.inl ⟨v2, e4, z6, ez6, rfl⟩))⟩) d_String_length_10
abbrev b_Preconditions_checkIndex : ByteArray := prog_47_method_11_code
def y_Preconditions_checkIndex : MethodName := ⟨"jdk/internal/util/Preconditions", "checkIndex", "(IILjava/util/function/BiFunction;)I"⟩
theorem d_Preconditions_checkIndex_0 : decode b_Preconditions_checkIndex 0 = .ok (.iload_n 0, 1) := by decide +kernel
theorem d_Preconditions_checkIndex_1 : decode b_Preconditions_checkIndex 1 = .ok (.ifCond .lt 8, 3) := by decide +kernel
theorem d_Preconditions_checkIndex_4 : decode b_Preconditions_checkIndex 4 = .ok (.iload_n 0, 1) := by decide +kernel
theorem d_Preconditions_checkIndex_5 : decode b_Preconditions_checkIndex 5 = .ok (.iload_n 1, 1) := by decide +kernel
theorem d_Preconditions_checkIndex_6 : decode b_Preconditions_checkIndex 6 = .ok (.if_icmp .lt 10, 3) := by decide +kernel
theorem d_Preconditions_checkIndex_9 : decode b_Preconditions_checkIndex 9 = .ok (.aload_n 2, 1) := by decide +kernel
theorem d_Preconditions_checkIndex_10 : decode b_Preconditions_checkIndex 10 = .ok (.iload_n 0, 1) := by decide +kernel
theorem d_Preconditions_checkIndex_11 : decode b_Preconditions_checkIndex 11 = .ok (.iload_n 1, 1) := by decide +kernel
theorem d_Preconditions_checkIndex_12 : decode b_Preconditions_checkIndex 12 = .ok (.invokestatic 95, 3) := by decide +kernel
theorem d_Preconditions_checkIndex_15 : decode b_Preconditions_checkIndex 15 = .ok (.athrow, 1) := by decide +kernel
theorem d_Preconditions_checkIndex_16 : decode b_Preconditions_checkIndex 16 = .ok (.iload_n 0, 1) := by decide +kernel
theorem d_Preconditions_checkIndex_17 : decode b_Preconditions_checkIndex 17 = .ok (.ireturn, 1) := by decide +kernel
theorem q_Preconditions_checkIndex : px_y y_Preconditions_checkIndex 3 := by unfold px_y; decide +kernel
set_option maxHeartbeats 4000000 in
set_option maxRecDepth 100000 in
theorem c_checkIndexN (l : Launch) (D : va_G) (cs : Nat → ClassId)  (p0 p1 : Int32)  (g0 : 0 ≤ p0.toInt) (g1 : p0.toInt < p1.toInt) : MetI l y_Preconditions_checkIndex b_Preconditions_checkIndex 3 (.int) D cs 0 0 (0) (0) [.int p0, .int p1, .null] [] (fun _ => True) (fun v ps => (ps = []) ∧ (R_checkIndexN p0 p1 v)) := by
  refine px_enter (by decide) (Nat.le_of_ble_eq_true rfl) ?_
  intro p e s m below meth c A ls hAe S hr hlk hnm hA hT hX hw hl
  have hl : lv_has ls 3 [(0, .int p0), (1, .int p1), (2, .null)] := hl
  have lp0 := Int32.le_toInt p0
  have up0 := Int32.toInt_lt p0
  have lp1 := Int32.le_toInt p1
  have up1 := Int32.toInt_lt p1
  refine lv_iload_n S.x S.b d_Preconditions_checkIndex_0 rfl (lv_at hl 0 rfl) ?_
  refine lv_if_lt (tgt := 9) S.x S.b d_Preconditions_checkIndex_1 (by decide) (fun c1 => ?_) (fun c1 => ?_)
  · have nc1 : p0.toInt < (0 : Int) := (i_lt (x := p0) (y := 0)).mp c1
    refine lq_aload_n (x := none) S.x S.b d_Preconditions_checkIndex_9 rfl (lv_at hl 2 rfl) ?_
    refine lv_iload_n S.x S.b d_Preconditions_checkIndex_10 rfl (lv_at hl 0 rfl) ?_
    refine lv_iload_n S.x S.b d_Preconditions_checkIndex_11 rfl (lv_at hl 1 rfl) ?_
    exfalso
    omega
  · have nc1 : ¬ p0.toInt < (0 : Int) := mt (i_lt (x := p0) (y := 0)).mpr c1
    refine lv_iload_n S.x S.b d_Preconditions_checkIndex_4 rfl (lv_at hl 0 rfl) ?_
    refine lv_iload_n S.x S.b d_Preconditions_checkIndex_5 rfl (lv_at hl 1 rfl) ?_
    refine lv_icmp_lt (tgt := 16) S.x S.b d_Preconditions_checkIndex_6 (by decide) (fun c3 => ?_) (fun c3 => ?_)
    · have nc3 : p0.toInt < p1.toInt := (i_lt (x := p0) (y := p1)).mp c3
      refine lv_iload_n S.x S.b d_Preconditions_checkIndex_16 rfl (lv_at hl 0 rfl) ?_
      exact px_iret (v := p0) S hr rfl hlk hAe hw (Nat.le_of_ble_eq_true rfl) (Nat.le_of_ble_eq_true rfl) (⟨rfl, (show R_checkIndexN p0 p1 p0 from (Or.inl ⟨nc1, nc3, rfl⟩))⟩) d_Preconditions_checkIndex_17
    · have nc3 : ¬ p0.toInt < p1.toInt := mt (i_lt (x := p0) (y := p1)).mpr c3
      refine lq_aload_n (x := none) S.x S.b d_Preconditions_checkIndex_9 rfl (lv_at hl 2 rfl) ?_
      refine lv_iload_n S.x S.b d_Preconditions_checkIndex_10 rfl (lv_at hl 0 rfl) ?_
      refine lv_iload_n S.x S.b d_Preconditions_checkIndex_11 rfl (lv_at hl 1 rfl) ?_
      exfalso
      omega
set_option maxHeartbeats 4000000 in
set_option maxRecDepth 100000 in
theorem c_checkIndexR (l : Launch) (D : va_G) (cs : Nat → ClassId)  (p0 p1 : Int32) (ob : Nat) (g0 : 0 ≤ p0.toInt) (g1 : p0.toInt < p1.toInt) : MetI l y_Preconditions_checkIndex b_Preconditions_checkIndex 3 (.int) D cs 0 0 (0) (0) [.int p0, .int p1, .ref ob] [] (fun _ => True) (fun v ps => (ps = []) ∧ (R_checkIndexR p0 p1 v)) := by
  refine px_enter (by decide) (Nat.le_of_ble_eq_true rfl) ?_
  intro p e s m below meth c A ls hAe S hr hlk hnm hA hT hX hw hl
  have hl : lv_has ls 3 [(0, .int p0), (1, .int p1), (2, .ref ob)] := hl
  have lp0 := Int32.le_toInt p0
  have up0 := Int32.toInt_lt p0
  have lp1 := Int32.le_toInt p1
  have up1 := Int32.toInt_lt p1
  refine lv_iload_n S.x S.b d_Preconditions_checkIndex_0 rfl (lv_at hl 0 rfl) ?_
  refine lv_if_lt (tgt := 9) S.x S.b d_Preconditions_checkIndex_1 (by decide) (fun c1 => ?_) (fun c1 => ?_)
  · have nc1 : p0.toInt < (0 : Int) := (i_lt (x := p0) (y := 0)).mp c1
    refine lv_aload_n S.x S.b d_Preconditions_checkIndex_9 rfl (lv_at hl 2 rfl) ?_
    refine lv_iload_n S.x S.b d_Preconditions_checkIndex_10 rfl (lv_at hl 0 rfl) ?_
    refine lv_iload_n S.x S.b d_Preconditions_checkIndex_11 rfl (lv_at hl 1 rfl) ?_
    exfalso
    omega
  · have nc1 : ¬ p0.toInt < (0 : Int) := mt (i_lt (x := p0) (y := 0)).mpr c1
    refine lv_iload_n S.x S.b d_Preconditions_checkIndex_4 rfl (lv_at hl 0 rfl) ?_
    refine lv_iload_n S.x S.b d_Preconditions_checkIndex_5 rfl (lv_at hl 1 rfl) ?_
    refine lv_icmp_lt (tgt := 16) S.x S.b d_Preconditions_checkIndex_6 (by decide) (fun c3 => ?_) (fun c3 => ?_)
    · have nc3 : p0.toInt < p1.toInt := (i_lt (x := p0) (y := p1)).mp c3
      refine lv_iload_n S.x S.b d_Preconditions_checkIndex_16 rfl (lv_at hl 0 rfl) ?_
      exact px_iret (v := p0) S hr rfl hlk hAe hw (Nat.le_of_ble_eq_true rfl) (Nat.le_of_ble_eq_true rfl) (⟨rfl, (show R_checkIndexR p0 p1 p0 from (Or.inl ⟨nc1, nc3, rfl⟩))⟩) d_Preconditions_checkIndex_17
    · have nc3 : ¬ p0.toInt < p1.toInt := mt (i_lt (x := p0) (y := p1)).mpr c3
      refine lv_aload_n S.x S.b d_Preconditions_checkIndex_9 rfl (lv_at hl 2 rfl) ?_
      refine lv_iload_n S.x S.b d_Preconditions_checkIndex_10 rfl (lv_at hl 0 rfl) ?_
      refine lv_iload_n S.x S.b d_Preconditions_checkIndex_11 rfl (lv_at hl 1 rfl) ?_
      exfalso
      omega
abbrev b_String_checkIndex : ByteArray := prog_31_method_155_code
def y_String_checkIndex : MethodName := ⟨"java/lang/String", "checkIndex", "(II)V"⟩
theorem d_String_checkIndex_0 : decode b_String_checkIndex 0 = .ok (.iload_n 0, 1) := by decide +kernel
theorem d_String_checkIndex_1 : decode b_String_checkIndex 1 = .ok (.iload_n 1, 1) := by decide +kernel
theorem d_String_checkIndex_2 : decode b_String_checkIndex 2 = .ok (.getstatic 1053, 3) := by decide +kernel
theorem d_String_checkIndex_5 : decode b_String_checkIndex 5 = .ok (.invokestatic 1059, 3) := by decide +kernel
theorem d_String_checkIndex_8 : decode b_String_checkIndex 8 = .ok (.pop, 1) := by decide +kernel
theorem d_String_checkIndex_9 : decode b_String_checkIndex 9 = .ok (.return_, 1) := by decide +kernel
theorem q_String_checkIndex : px_y y_String_checkIndex 2 := by unfold px_y; decide +kernel
set_option maxHeartbeats 4000000 in
set_option maxRecDepth 100000 in
theorem c_String_checkIndex (l : Launch) (D : va_G) (cs : Nat → ClassId)  (p0 p1 : Int32)  (g0 : 0 ≤ p0.toInt) (g1 : p0.toInt < p1.toInt) : MetV l y_String_checkIndex b_String_checkIndex 2 D cs 1 30 (0) (0) [.int p0, .int p1] [] (oX (fun A U H => (oF A U H)) []) (fun ps => (ps = [])) := by
  refine px_enter (by decide) (Nat.le_of_ble_eq_true rfl) ?_
  intro p e s m below meth c A ls hAe S hr hlk hnm hA hT hX hw hl
  have hl : lv_has ls 2 [(0, .int p0), (1, .int p1)] := hl
  have lp0 := Int32.le_toInt p0
  have up0 := Int32.toInt_lt p0
  have lp1 := Int32.le_toInt p1
  have up1 := Int32.toInt_lt p1
  have hX : (fun A U H => (oF A U H)) A s s.heap := by rw [hAe]; exact hX
  have hF0 := hX
  refine lv_iload_n S.x S.b d_String_checkIndex_0 rfl (lv_at hl 0 rfl) ?_
  refine lv_iload_n S.x S.b d_String_checkIndex_1 rfl (lv_at hl 1 rfl) ?_
  rcases hF0 with hF1 | ⟨fo, hF1⟩
  · refine va_gets S.x S.b hF1 hw.2.2 S.own (S.w m1_79) (fun _ h => h) d_String_checkIndex_2 ?_
    refine px_calli (pr := []) (px_runS (As := [.int p0, .int p1, .null]) (rest := []) S (c_checkIndexN l D cs  p0 p1  (show 0 ≤ p0.toInt from by first | exact g0 | omega) (show p0.toInt < p1.toInt from by first | exact g1 | omega) _) hT (pr := []) (pcs := []) hw px_X.tt m1_83 m1_81 m1_82 m1_5 q_Preconditions_checkIndex ⟨Nat.le_of_ble_eq_true rfl, Nat.le_of_ble_eq_true rfl⟩ hl.1 rfl (Nat.le_of_ble_eq_true rfl) d_String_checkIndex_5 ⟨Nat.le_of_ble_eq_true rfl, Nat.le_of_ble_eq_true rfl⟩) hw hA (fun v2 p1 H locs hp1 hw => ?_)
    obtain ⟨rfl, e3⟩ := hp1
    have e3 : R_checkIndexN p0 p1 v2 := e3
    have hw : pw D A s.heap H locs [] := hw
    have lv2 := Int32.le_toInt v2
    have uv2 := Int32.toInt_lt v2
    refine lv_pop S.x S.b d_String_checkIndex_8 rfl ?_
    exact px_vret S hr hlk hAe hw (Nat.le_of_ble_eq_true rfl) (Nat.le_of_ble_eq_true rfl) (rfl) d_String_checkIndex_9
  · refine va_gets S.x S.b hF1 hw.2.2 S.own (S.w m1_79) (fun _ h => h) d_String_checkIndex_2 ?_
    refine px_calli (pr := []) (px_runS (As := [.int p0, .int p1, .ref fo]) (rest := []) S (c_checkIndexR l D cs  p0 p1 fo (show 0 ≤ p0.toInt from by first | exact g0 | omega) (show p0.toInt < p1.toInt from by first | exact g1 | omega) _) hT (pr := []) (pcs := []) hw px_X.tt m1_83 m1_81 m1_82 m1_5 q_Preconditions_checkIndex ⟨Nat.le_of_ble_eq_true rfl, Nat.le_of_ble_eq_true rfl⟩ hl.1 rfl (Nat.le_of_ble_eq_true rfl) d_String_checkIndex_5 ⟨Nat.le_of_ble_eq_true rfl, Nat.le_of_ble_eq_true rfl⟩) hw hA (fun v5 p4 H locs hp4 hw => ?_)
    obtain ⟨rfl, e6⟩ := hp4
    have e6 : R_checkIndexR p0 p1 v5 := e6
    have hw : pw D A s.heap H locs [] := hw
    have lv5 := Int32.le_toInt v5
    have uv5 := Int32.toInt_lt v5
    refine lv_pop S.x S.b d_String_checkIndex_8 rfl ?_
    exact px_vret S hr hlk hAe hw (Nat.le_of_ble_eq_true rfl) (Nat.le_of_ble_eq_true rfl) (rfl) d_String_checkIndex_9
abbrev b_StringLatin1_charAt : ByteArray := prog_33_method_2_code
def y_StringLatin1_charAt : MethodName := ⟨"java/lang/StringLatin1", "charAt", "([BI)C"⟩
theorem d_StringLatin1_charAt_0 : decode b_StringLatin1_charAt 0 = .ok (.iload_n 1, 1) := by decide +kernel
theorem d_StringLatin1_charAt_1 : decode b_StringLatin1_charAt 1 = .ok (.aload_n 0, 1) := by decide +kernel
theorem d_StringLatin1_charAt_2 : decode b_StringLatin1_charAt 2 = .ok (.arraylength, 1) := by decide +kernel
theorem d_StringLatin1_charAt_3 : decode b_StringLatin1_charAt 3 = .ok (.invokestatic 9, 3) := by decide +kernel
theorem d_StringLatin1_charAt_6 : decode b_StringLatin1_charAt 6 = .ok (.aload_n 0, 1) := by decide +kernel
theorem d_StringLatin1_charAt_7 : decode b_StringLatin1_charAt 7 = .ok (.iload_n 1, 1) := by decide +kernel
theorem d_StringLatin1_charAt_8 : decode b_StringLatin1_charAt 8 = .ok (.baload, 1) := by decide +kernel
theorem d_StringLatin1_charAt_9 : decode b_StringLatin1_charAt 9 = .ok (.sipush 255, 3) := by decide +kernel
theorem d_StringLatin1_charAt_12 : decode b_StringLatin1_charAt 12 = .ok (.iand, 1) := by decide +kernel
theorem d_StringLatin1_charAt_13 : decode b_StringLatin1_charAt 13 = .ok (.i2c, 1) := by decide +kernel
theorem d_StringLatin1_charAt_14 : decode b_StringLatin1_charAt 14 = .ok (.ireturn, 1) := by decide +kernel
theorem q_StringLatin1_charAt : px_y y_StringLatin1_charAt 2 := by unfold px_y; decide +kernel
set_option maxHeartbeats 4000000 in
set_option maxRecDepth 100000 in
theorem c_StringLatin1_charAt (l : Launch) (D : va_G) (cs : Nat → ClassId) (st : Nat) (sn : Nat) (sb : Nat → Int32) (p0 : Int32)  (g0 : sn ≤ 1000000) (g1 : 0 ≤ p0.toInt) (g2 : p0.toInt < (sn : Int)) : MetI l y_StringLatin1_charAt b_StringLatin1_charAt 2 (.char) D cs 2 60 (0) (0) [.ref st, .int p0] [] (oX (fun A U H => (oF A U H) ∧ (oT A st sn sb U H)) []) (fun v ps => (ps = []) ∧ (narrow .char (.int v) = .int v) ∧ (R_StringLatin1_charAt sb p0 v)) := by
  refine px_enter (by decide) (Nat.le_of_ble_eq_true rfl) ?_
  intro p e s m below meth c A ls hAe S hr hlk hnm hA hT hX hw hl
  have hl : lv_has ls 2 [(0, .ref st), (1, .int p0)] := hl
  have lp0 := Int32.le_toInt p0
  have up0 := Int32.toInt_lt p0
  have cst255 : (255 : Int32).toInt = 255 := rfl
  have hX : (fun A U H => (oF A U H) ∧ (oT A st sn sb U H)) A s s.heap := by rw [hAe]; exact hX
  obtain ⟨hF0, hTT⟩ := hX
  have hsn : (nI sn).toInt = (sn : Int) := nI_toInt (by omega)
  refine lv_iload_n S.x S.b d_StringLatin1_charAt_0 rfl (lv_at hl 1 rfl) ?_
  refine lv_aload_n S.x S.b d_StringLatin1_charAt_1 rfl (lv_at hl 0 rfl) ?_
  refine va_tlen S.x S.b hTT hw.2.2 (v := (nI sn)) rfl d_StringLatin1_charAt_2 ?_
  refine px_callv (pr := []) (px_runS (As := [.int p0, .int (nI sn)]) (rest := []) S (c_String_checkIndex l D cs  p0 (nI sn)  (show 0 ≤ p0.toInt from by first | exact g1 | omega) (show p0.toInt < (nI sn).toInt from by first | exact oz_3462ede644 g2 hsn | omega) _) hT (pr := []) (pcs := []) hw (oX_call (P := (fun A U H => (oF A U H))) (pr := []) oG_F hw hA hF0) m1_78 m1_76 m1_77 m1_3 q_String_checkIndex ⟨Nat.le_of_ble_eq_true rfl, Nat.le_of_ble_eq_true rfl⟩ hl.1 rfl (Nat.le_of_ble_eq_true rfl) d_StringLatin1_charAt_3 ⟨Nat.le_of_ble_eq_true rfl, Nat.le_of_ble_eq_true rfl⟩) hw hA (fun p1 H locs hp1 hw => ?_)
  subst hp1
  have hw : pw D A s.heap H locs [] := hw
  refine lv_aload_n S.x S.b d_StringLatin1_charAt_6 rfl (lv_at hl 0 rfl) ?_
  refine lv_iload_n S.x S.b d_StringLatin1_charAt_7 rfl (lv_at hl 1 rfl) ?_
  refine va_tb S.x S.b hTT hw.2.2 (i := p0) (vp_in_iff.mpr (by constructor <;> omega)) rfl d_StringLatin1_charAt_8 ?_
  refine lv_topi (fun z3 ez3 => ?_)
  have lz3 := Int32.le_toInt z3
  have uz3 := Int32.toInt_lt z3
  refine lv_sipush (v := 255) S.x S.b d_StringLatin1_charAt_9 (by decide) ?_
  refine lv_iand S.x S.b d_StringLatin1_charAt_12 ?_
  refine lv_topi (fun z4 ez4 => ?_)
  have lz4 := Int32.le_toInt z4
  have uz4 := Int32.toInt_lt z4
  have bz4 := i_andm z3 (m := 255) 8 (by decide) (by decide)
  rw [← ez4] at bz4
  have wz4 : 0 ≤ z4.toInt ∧ z4.toInt ≤ 255 := by simp only [Nat.reducePow, Int.reducePow] at bz4; omega
  refine lv_i2c S.x S.b d_StringLatin1_charAt_13 rfl ?_
  refine lv_topi (fun z5 ez5 => ?_)
  have lz5 := Int32.le_toInt z5
  have uz5 := Int32.toInt_lt z5
  exact px_iret (v := z5) S hr (by first | assumption | (rw [ez5]; exact pk_nc _)) hlk hAe hw (Nat.le_of_ble_eq_true rfl) (Nat.le_of_ble_eq_true rfl) (⟨rfl, (show narrow .char (.int z5) = .int z5 from by first | assumption | (rw [ez5]; exact pk_nc _)), (show R_StringLatin1_charAt sb p0 z5 from (Or.inl ⟨z3, ez3, z4, ez4, z5, ez5, rfl⟩))⟩) d_StringLatin1_charAt_14
abbrev b_String_charAt : ByteArray := prog_31_method_56_code
def y_String_charAt : MethodName := ⟨"java/lang/String", "charAt", "(I)C"⟩
theorem d_String_charAt_0 : decode b_String_charAt 0 = .ok (.aload_n 0, 1) := by decide +kernel
theorem d_String_charAt_1 : decode b_String_charAt 1 = .ok (.invokevirtual 492, 3) := by decide +kernel
theorem d_String_charAt_4 : decode b_String_charAt 4 = .ok (.ifCond .eq 12, 3) := by decide +kernel
theorem d_String_charAt_7 : decode b_String_charAt 7 = .ok (.aload_n 0, 1) := by decide +kernel
theorem d_String_charAt_8 : decode b_String_charAt 8 = .ok (.getfield 9, 3) := by decide +kernel
theorem d_String_charAt_11 : decode b_String_charAt 11 = .ok (.iload_n 1, 1) := by decide +kernel
theorem d_String_charAt_12 : decode b_String_charAt 12 = .ok (.invokestatic 495, 3) := by decide +kernel
theorem d_String_charAt_15 : decode b_String_charAt 15 = .ok (.ireturn, 1) := by decide +kernel
theorem d_String_charAt_16 : decode b_String_charAt 16 = .ok (.aload_n 0, 1) := by decide +kernel
theorem d_String_charAt_17 : decode b_String_charAt 17 = .ok (.getfield 9, 3) := by decide +kernel
theorem d_String_charAt_20 : decode b_String_charAt 20 = .ok (.iload_n 1, 1) := by decide +kernel
theorem d_String_charAt_21 : decode b_String_charAt 21 = .ok (.invokestatic 498, 3) := by decide +kernel
theorem d_String_charAt_24 : decode b_String_charAt 24 = .ok (.ireturn, 1) := by decide +kernel
theorem q_String_charAt : px_y y_String_charAt 1 := by unfold px_y; decide +kernel
set_option maxHeartbeats 4000000 in
set_option maxRecDepth 100000 in
theorem c_String_charAt (l : Launch) (D : va_G) (cs : Nat → ClassId) (sk : Nat) (st : Nat) (sn : Nat) (sb : Nat → Int32) (p0 : Int32)  (g0 : sn ≤ 1000000) (g1 : 0 ≤ p0.toInt) (g2 : p0.toInt < (sn : Int)) : MetI l y_String_charAt b_String_charAt 2 (.char) D cs 3 90 (0) (0) [.ref sk, .int p0] [] (oX (fun A U H => (oF A U H) ∧ (oZ A U H) ∧ (oS A sk st sn sb U H)) []) (fun v ps => (ps = []) ∧ (narrow .char (.int v) = .int v) ∧ (R_String_charAt sb p0 v)) := by
  refine px_enter (by decide) (Nat.le_of_ble_eq_true rfl) ?_
  intro p e s m below meth c A ls hAe S hr hlk hnm hA hT hX hw hl
  have hl : lv_has ls 2 [(0, .ref sk), (1, .int p0)] := hl
  have lp0 := Int32.le_toInt p0
  have up0 := Int32.toInt_lt p0
  have hX : (fun A U H => (oF A U H) ∧ (oZ A U H) ∧ (oS A sk st sn sb U H)) A s s.heap := by rw [hAe]; exact hX
  obtain ⟨hF0, hZ, hS⟩ := hX
  have hsn : (nI sn).toInt = (sn : Int) := nI_toInt (by omega)
  refine lv_aload_n S.x S.b d_String_charAt_0 rfl (lv_at hl 0 rfl) ?_
  refine px_calli (pr := []) (px_runV (As := []) (rest := []) S (c_String_isLatin1 l D cs sk st sn sb   (show sn ≤ 1000000 from by first | exact g0 | omega) _) hT (pr := []) (pcs := []) hw (oX_call (P := (fun A U H => (oZ A U H) ∧ (oS A sk st sn sb U H))) (pr := []) (oG_and oG_Z oG_S) hw hA ⟨hZ, hS⟩) (oS_recv hw hS) m1_72 m1_69 m1_70 m1_71 m1_3 q_String_isLatin1 ⟨Nat.le_of_ble_eq_true rfl, Nat.le_of_ble_eq_true rfl⟩ hl.1 rfl (Nat.le_of_ble_eq_true rfl) d_String_charAt_1 ⟨Nat.le_of_ble_eq_true rfl, Nat.le_of_ble_eq_true rfl⟩) hw hA (fun v2 p1 H locs hp1 hw => ?_)
  obtain ⟨rfl, e3, e4⟩ := hp1
  have e3 : v2.toInt = 1 := e3
  have e4 : R_String_isLatin1 v2 := e4
  have hw : pw D A s.heap H locs [] := hw
  have lv2 := Int32.le_toInt v2
  have uv2 := Int32.toInt_lt v2
  refine lv_if_eq (tgt := 16) S.x S.b d_String_charAt_4 (by decide) (fun c5 => ?_) (fun c5 => ?_)
  · have nc5 : v2.toInt = (0 : Int) := (i_eq (x := v2) (y := 0)).mp c5
    refine lv_aload_n S.x S.b d_String_charAt_16 rfl (lv_at hl 0 rfl) ?_
    refine vk_getf S.x S.b hS.2.2.1 hw.2.2 S.own (S.w m8_11) (fun _ h => h) d_String_charAt_17 ?_
    refine lv_iload_n S.x S.b d_String_charAt_20 rfl (lv_at hl 1 rfl) ?_
    exfalso
    omega
  · have nc5 : ¬ v2.toInt = (0 : Int) := mt (i_eq (x := v2) (y := 0)).mpr c5
    refine lv_aload_n S.x S.b d_String_charAt_7 rfl (lv_at hl 0 rfl) ?_
    refine vk_getf S.x S.b hS.2.2.1 hw.2.2 S.own (S.w m8_11) (fun _ h => h) d_String_charAt_8 ?_
    refine lv_iload_n S.x S.b d_String_charAt_11 rfl (lv_at hl 1 rfl) ?_
    refine px_calli (pr := []) (px_runS (As := [.ref st, .int p0]) (rest := []) S (c_StringLatin1_charAt l D cs st sn sb p0  (show sn ≤ 1000000 from by first | exact g0 | omega) (show 0 ≤ p0.toInt from by first | exact g1 | omega) (show p0.toInt < (sn : Int) from by first | exact g2 | omega) _) hT (pr := []) (pcs := []) hw (oX_call (P := (fun A U H => (oF A U H) ∧ (oT A st sn sb U H))) (pr := []) (oG_and oG_F oG_T) hw hA ⟨hF0, hS.2.2.2⟩) m1_75 m1_73 m1_74 m1_4 q_StringLatin1_charAt ⟨Nat.le_of_ble_eq_true rfl, Nat.le_of_ble_eq_true rfl⟩ hl.1 rfl (Nat.le_of_ble_eq_true rfl) d_String_charAt_12 ⟨Nat.le_of_ble_eq_true rfl, Nat.le_of_ble_eq_true rfl⟩) hw hA (fun v8 p7 H locs hp7 hw => ?_)
    obtain ⟨rfl, e9, e10⟩ := hp7
    have e9 : narrow .char (.int v8) = .int v8 := e9
    have e10 : R_StringLatin1_charAt sb p0 v8 := e10
    have hw : pw D A s.heap H locs [] := hw
    have lv8 := Int32.le_toInt v8
    have uv8 := Int32.toInt_lt v8
    exact px_iret (v := v8) S hr (by first | assumption | (rw [ev8]; exact pk_nc _)) hlk hAe hw (Nat.le_of_ble_eq_true rfl) (Nat.le_of_ble_eq_true rfl) (⟨rfl, (show narrow .char (.int v8) = .int v8 from by first | assumption | (rw [ev8]; exact pk_nc _)), (show R_String_charAt sb p0 v8 from (Or.inl ⟨v2, e4, nc5, v8, e10, rfl⟩))⟩) d_String_charAt_15
abbrev b_StringLatin1_canEncode : ByteArray := prog_33_method_4_code
def y_StringLatin1_canEncode : MethodName := ⟨"java/lang/StringLatin1", "canEncode", "(I)Z"⟩
theorem d_StringLatin1_canEncode_0 : decode b_StringLatin1_canEncode 0 = .ok (.iload_n 0, 1) := by decide +kernel
theorem d_StringLatin1_canEncode_1 : decode b_StringLatin1_canEncode 1 = .ok (.ifCond .lt 14, 3) := by decide +kernel
theorem d_StringLatin1_canEncode_4 : decode b_StringLatin1_canEncode 4 = .ok (.iload_n 0, 1) := by decide +kernel
theorem d_StringLatin1_canEncode_5 : decode b_StringLatin1_canEncode 5 = .ok (.sipush 255, 3) := by decide +kernel
theorem d_StringLatin1_canEncode_8 : decode b_StringLatin1_canEncode 8 = .ok (.if_icmp .gt 7, 3) := by decide +kernel
theorem d_StringLatin1_canEncode_11 : decode b_StringLatin1_canEncode 11 = .ok (.iconst 1, 1) := by decide +kernel
theorem d_StringLatin1_canEncode_12 : decode b_StringLatin1_canEncode 12 = .ok (.goto 4, 3) := by decide +kernel
theorem d_StringLatin1_canEncode_15 : decode b_StringLatin1_canEncode 15 = .ok (.iconst 0, 1) := by decide +kernel
theorem d_StringLatin1_canEncode_16 : decode b_StringLatin1_canEncode 16 = .ok (.ireturn, 1) := by decide +kernel
theorem q_StringLatin1_canEncode : px_y y_StringLatin1_canEncode 1 := by unfold px_y; decide +kernel
set_option maxHeartbeats 4000000 in
set_option maxRecDepth 100000 in
theorem c_StringLatin1_canEncode (l : Launch) (D : va_G) (cs : Nat → ClassId)  (p0 : Int32)   : MetI l y_StringLatin1_canEncode b_StringLatin1_canEncode 1 (.boolean) D cs 0 0 (0) (0) [.int p0] [] (fun _ => True) (fun v ps => (ps = []) ∧ (v = 0 ∨ v = 1) ∧ (R_StringLatin1_canEncode p0 v)) := by
  refine px_enter (by decide) (Nat.le_of_ble_eq_true rfl) ?_
  intro p e s m below meth c A ls hAe S hr hlk hnm hA hT hX hw hl
  have hl : lv_has ls 1 [(0, .int p0)] := hl
  have lp0 := Int32.le_toInt p0
  have up0 := Int32.toInt_lt p0
  have cst0 : (0 : Int32).toInt = 0 := rfl
  have cst1 : (1 : Int32).toInt = 1 := rfl
  have cst255 : (255 : Int32).toInt = 255 := rfl
  refine lv_iload_n S.x S.b d_StringLatin1_canEncode_0 rfl (lv_at hl 0 rfl) ?_
  refine lv_if_lt (tgt := 15) S.x S.b d_StringLatin1_canEncode_1 (by decide) (fun c1 => ?_) (fun c1 => ?_)
  · have nc1 : p0.toInt < (0 : Int) := (i_lt (x := p0) (y := 0)).mp c1
    refine lv_iconst (v := 0) S.x S.b d_StringLatin1_canEncode_15 (by decide) ?_
    exact px_iret (v := 0) S hr rfl hlk hAe hw (Nat.le_of_ble_eq_true rfl) (Nat.le_of_ble_eq_true rfl) (⟨rfl, (show (0 : Int32) = 0 ∨ (0 : Int32) = 1 from by first | exact Or.inl rfl | exact Or.inr rfl | exact z_or (by omega)), (show R_StringLatin1_canEncode p0 (0 : Int32) from (Or.inl (Or.inl ⟨nc1, rfl⟩)))⟩) d_StringLatin1_canEncode_16
  · have nc1 : ¬ p0.toInt < (0 : Int) := mt (i_lt (x := p0) (y := 0)).mpr c1
    refine lv_iload_n S.x S.b d_StringLatin1_canEncode_4 rfl (lv_at hl 0 rfl) ?_
    refine lv_sipush (v := 255) S.x S.b d_StringLatin1_canEncode_5 (by decide) ?_
    refine lv_icmp_gt (tgt := 15) S.x S.b d_StringLatin1_canEncode_8 (by decide) (fun c3 => ?_) (fun c3 => ?_)
    · have nc3 : (255 : Int) < p0.toInt := (i_lt (x := 255) (y := p0)).mp c3
      refine lv_iconst (v := 0) S.x S.b d_StringLatin1_canEncode_15 (by decide) ?_
      exact px_iret (v := 0) S hr rfl hlk hAe hw (Nat.le_of_ble_eq_true rfl) (Nat.le_of_ble_eq_true rfl) (⟨rfl, (show (0 : Int32) = 0 ∨ (0 : Int32) = 1 from by first | exact Or.inl rfl | exact Or.inr rfl | exact z_or (by omega)), (show R_StringLatin1_canEncode p0 (0 : Int32) from (Or.inl (Or.inr ⟨nc1, Or.inl ⟨nc3, rfl⟩⟩)))⟩) d_StringLatin1_canEncode_16
    · have nc3 : ¬ (255 : Int) < p0.toInt := mt (i_lt (x := 255) (y := p0)).mpr c3
      refine lv_iconst (v := 1) S.x S.b d_StringLatin1_canEncode_11 (by decide) ?_
      refine lv_goto (tgt := 16) S.x S.b d_StringLatin1_canEncode_12 (by decide) ?_
      exact px_iret (v := 1) S hr rfl hlk hAe hw (Nat.le_of_ble_eq_true rfl) (Nat.le_of_ble_eq_true rfl) (⟨rfl, (show (1 : Int32) = 0 ∨ (1 : Int32) = 1 from by first | exact Or.inl rfl | exact Or.inr rfl | exact z_or (by omega)), (show R_StringLatin1_canEncode p0 (1 : Int32) from (Or.inl (Or.inr ⟨nc1, Or.inr ⟨nc3, rfl⟩⟩)))⟩) d_StringLatin1_canEncode_16
abbrev b_StringLatin1_indexOfChar : ByteArray := prog_33_method_23_code
def y_StringLatin1_indexOfChar : MethodName := ⟨"java/lang/StringLatin1", "indexOfChar", "([BIII)I"⟩
theorem d_StringLatin1_indexOfChar_0 : decode b_StringLatin1_indexOfChar 0 = .ok (.iload_n 1, 1) := by decide +kernel
theorem d_StringLatin1_indexOfChar_1 : decode b_StringLatin1_indexOfChar 1 = .ok (.i2b, 1) := by decide +kernel
theorem d_StringLatin1_indexOfChar_2 : decode b_StringLatin1_indexOfChar 2 = .ok (.istore 4, 2) := by decide +kernel
theorem d_StringLatin1_indexOfChar_4 : decode b_StringLatin1_indexOfChar 4 = .ok (.iload_n 2, 1) := by decide +kernel
theorem d_StringLatin1_indexOfChar_5 : decode b_StringLatin1_indexOfChar 5 = .ok (.istore 5, 2) := by decide +kernel
theorem d_StringLatin1_indexOfChar_7 : decode b_StringLatin1_indexOfChar 7 = .ok (.iload 5, 2) := by decide +kernel
theorem d_StringLatin1_indexOfChar_9 : decode b_StringLatin1_indexOfChar 9 = .ok (.iload_n 3, 1) := by decide +kernel
theorem d_StringLatin1_indexOfChar_10 : decode b_StringLatin1_indexOfChar 10 = .ok (.if_icmp .ge 21, 3) := by decide +kernel
theorem d_StringLatin1_indexOfChar_13 : decode b_StringLatin1_indexOfChar 13 = .ok (.aload_n 0, 1) := by decide +kernel
theorem d_StringLatin1_indexOfChar_14 : decode b_StringLatin1_indexOfChar 14 = .ok (.iload 5, 2) := by decide +kernel
theorem d_StringLatin1_indexOfChar_16 : decode b_StringLatin1_indexOfChar 16 = .ok (.baload, 1) := by decide +kernel
theorem d_StringLatin1_indexOfChar_17 : decode b_StringLatin1_indexOfChar 17 = .ok (.iload 4, 2) := by decide +kernel
theorem d_StringLatin1_indexOfChar_19 : decode b_StringLatin1_indexOfChar 19 = .ok (.if_icmp .ne 6, 3) := by decide +kernel
theorem d_StringLatin1_indexOfChar_22 : decode b_StringLatin1_indexOfChar 22 = .ok (.iload 5, 2) := by decide +kernel
theorem d_StringLatin1_indexOfChar_24 : decode b_StringLatin1_indexOfChar 24 = .ok (.ireturn, 1) := by decide +kernel
theorem d_StringLatin1_indexOfChar_25 : decode b_StringLatin1_indexOfChar 25 = .ok (.iinc 5 1, 3) := by decide +kernel
theorem d_StringLatin1_indexOfChar_28 : decode b_StringLatin1_indexOfChar 28 = .ok (.goto (-21), 3) := by decide +kernel
theorem d_StringLatin1_indexOfChar_31 : decode b_StringLatin1_indexOfChar 31 = .ok (.iconst (-1), 1) := by decide +kernel
theorem d_StringLatin1_indexOfChar_32 : decode b_StringLatin1_indexOfChar 32 = .ok (.ireturn, 1) := by decide +kernel
theorem q_StringLatin1_indexOfChar : px_y y_StringLatin1_indexOfChar 4 := by unfold px_y; decide +kernel
set_option maxHeartbeats 4000000 in
set_option maxRecDepth 100000 in
theorem c_StringLatin1_indexOfChar (l : Launch) (D : va_G) (cs : Nat → ClassId) (st : Nat) (sn : Nat) (sb : Nat → Int32) (p0 p1 p2 : Int32)  (g0 : sn ≤ 1000000) (g1 : 0 ≤ p1.toInt) (g2 : p2.toInt ≤ (sn : Int)) : MetI l y_StringLatin1_indexOfChar b_StringLatin1_indexOfChar 6 (.int) D cs 0 0 (0) (0) [.ref st, .int p0, .int p1, .int p2] [] (oX (fun A U H => (oT A st sn sb U H)) []) (fun v ps => (ps = []) ∧ (R_StringLatin1_indexOfChar sb p0 p1 p2 v)) := by
  refine px_enter (by decide) (Nat.le_of_ble_eq_true rfl) ?_
  intro p e s m below meth c A ls hAe S hr hlk hnm hA hT hX hw hl
  have hl : lv_has ls 6 [(0, .ref st), (1, .int p0), (2, .int p1), (3, .int p2)] := hl
  have lp0 := Int32.le_toInt p0
  have up0 := Int32.toInt_lt p0
  have lp1 := Int32.le_toInt p1
  have up1 := Int32.toInt_lt p1
  have lp2 := Int32.le_toInt p2
  have up2 := Int32.toInt_lt p2
  have cstm1 : ((-1) : Int32).toInt = (-1) := rfl
  have hX : (fun A U H => (oT A st sn sb U H)) A s s.heap := by rw [hAe]; exact hX
  have hTT := hX
  have hsn : (nI sn).toInt = (sn : Int) := nI_toInt (by omega)
  have J7 : ∀ (n_7 : Nat)  (x7_4 x7_5 : Int32) (H : Heap) (locs : List Loc) (ls : Array Slot), (0 ≤ x7_5.toInt) → (K_StringLatin1_indexOfChar_7 sb p0 p1 p2 x7_4 x7_5) → p2.toInt-x7_5.toInt+4294967297 < (n_7 : Int) → pw D A s.heap H locs [] → lv_has ls 6 [(0, .ref st), (1, .int p0), (2, .int p1), (3, .int p2), (4, .int x7_4), (5, .int x7_5)] → W p l e { frames := 0, cells := 0, slots := 0, locals := 0 } s m [.ref st, .int p0, .int p1, .int p2].toArray below meth c H locs 0 0 (MQ below (va_Qi (fun v ps => (ps = []) ∧ (R_StringLatin1_indexOfChar sb p0 p1 p2 v)) (pc_B D (va_A ([] : List va_W).flatten s.heap.size)) (va_A ([] : List va_W).flatten s.heap.size)) [.ref st, .int p0, .int p1, .int p2].toArray s 0 0 A) (F0 m 7 ls []) := by
    intro n_7
    induction n_7 with
    | zero =>
      intro x7_4 x7_5 H locs ls k7_0 k7_1 hm hw hl
      have lx7_4 := Int32.le_toInt x7_4
      have ux7_4 := Int32.toInt_lt x7_4
      have lx7_5 := Int32.le_toInt x7_5
      have ux7_5 := Int32.toInt_lt x7_5
      exact absurd hm (by omega)
    | succ n_7 ih7 =>
      intro x7_4 x7_5 H locs ls k7_0 k7_1 hm hw hl
      have lx7_4 := Int32.le_toInt x7_4
      have ux7_4 := Int32.toInt_lt x7_4
      have lx7_5 := Int32.le_toInt x7_5
      have ux7_5 := Int32.toInt_lt x7_5
      refine lv_iload S.x S.b d_StringLatin1_indexOfChar_7 (lv_at hl 5 rfl) ?_
      refine lv_iload_n S.x S.b d_StringLatin1_indexOfChar_9 rfl (lv_at hl 3 rfl) ?_
      refine lv_icmp_ge (tgt := 31) S.x S.b d_StringLatin1_indexOfChar_10 (by decide) (fun c1 => ?_) (fun c1 => ?_)
      · have nc1 : p2.toInt ≤ x7_5.toInt := (i_le (x := p2) (y := x7_5)).mp c1
        refine lv_iconst (v := (-1)) S.x S.b d_StringLatin1_indexOfChar_31 (by decide) ?_
        exact px_iret (v := (-1)) S hr rfl hlk hAe hw (Nat.le_of_ble_eq_true rfl) (Nat.le_of_ble_eq_true rfl) (⟨rfl, (show R_StringLatin1_indexOfChar sb p0 p1 p2 (-1 : Int32) from (k7_1 _ 1 (Or.inr (Or.inl ⟨rfl, x7_4, x7_5, rfl, rfl, rfl, rfl, rfl, Or.inl ⟨nc1, rfl⟩⟩))))⟩) d_StringLatin1_indexOfChar_32
      · have nc1 : ¬ p2.toInt ≤ x7_5.toInt := mt (i_le (x := p2) (y := x7_5)).mpr c1
        refine lv_aload_n S.x S.b d_StringLatin1_indexOfChar_13 rfl (lv_at hl 0 rfl) ?_
        refine lv_iload S.x S.b d_StringLatin1_indexOfChar_14 (lv_at hl 5 rfl) ?_
        refine va_tb S.x S.b hTT hw.2.2 (i := x7_5) (vp_in_iff.mpr (by constructor <;> omega)) rfl d_StringLatin1_indexOfChar_16 ?_
        refine lv_topi (fun z3 ez3 => ?_)
        have lz3 := Int32.le_toInt z3
        have uz3 := Int32.toInt_lt z3
        refine lv_iload S.x S.b d_StringLatin1_indexOfChar_17 (lv_at hl 4 rfl) ?_
        refine lv_icmp_ne (tgt := 25) S.x S.b d_StringLatin1_indexOfChar_19 (by decide) (fun c4 => ?_) (fun c4 => ?_)
        · have nc4 : ¬ z3.toInt = x7_4.toInt := mt (i_eq (x := z3) (y := x7_4)).mpr c4
          obtain ⟨z6, ez6⟩ : ∃ y : Int32, y = x7_5 + 1 := ⟨_, rfl⟩
          have tz6 : z6.toInt = (x7_5.toInt + 1 + 2147483648) % 4294967296 - 2147483648 := by rw [ez6]; exact i_add x7_5 1
          have lz6 := Int32.le_toInt z6
          have uz6 := Int32.toInt_lt z6
          try replace tz6 : z6.toInt = x7_5.toInt + 1 := by omega
          refine lv_iinc (v := z6) (lv' := [(5, .int z6), (0, .ref st), (1, .int p0), (2, .int p1), (3, .int p2), (4, .int x7_4)]) S.x S.b d_StringLatin1_indexOfChar_25 hl (k := 5) rfl (by rw [ez6]; rfl) (by decide) rfl (fun ls hl => ?_)
          refine lv_goto (tgt := 7) S.x S.b d_StringLatin1_indexOfChar_28 (by decide) ?_
          exact ih7 x7_4 z6 _ _ ls (show 0 ≤ z6.toInt from by first | exact oz_ae613611c0 tz6 k7_0 | omega) (show K_StringLatin1_indexOfChar_7 sb p0 p1 p2 x7_4 z6 from (fun y_v k hE => k7_1 y_v (k + 1) (Or.inr (Or.inl ⟨rfl, x7_4, x7_5, rfl, rfl, rfl, rfl, rfl, Or.inr ⟨nc1, z3, ez3, Or.inl ⟨nc4, z6, ez6, hE⟩⟩⟩)))) (show p2.toInt-z6.toInt+4294967297 < (n_7 : Int) from by omega) hw (lv_sub hl [1, 2, 3, 4, 5, 0] rfl)
        · have nc4 : z3.toInt = x7_4.toInt := (i_eq (x := z3) (y := x7_4)).mp c4
          refine lv_iload S.x S.b d_StringLatin1_indexOfChar_22 (lv_at hl 5 rfl) ?_
          exact px_iret (v := x7_5) S hr rfl hlk hAe hw (Nat.le_of_ble_eq_true rfl) (Nat.le_of_ble_eq_true rfl) (⟨rfl, (show R_StringLatin1_indexOfChar sb p0 p1 p2 x7_5 from (k7_1 _ 1 (Or.inr (Or.inl ⟨rfl, x7_4, x7_5, rfl, rfl, rfl, rfl, rfl, Or.inr ⟨nc1, z3, ez3, Or.inr ⟨nc4, rfl⟩⟩⟩))))⟩) d_StringLatin1_indexOfChar_24
  refine lv_iload_n S.x S.b d_StringLatin1_indexOfChar_0 rfl (lv_at hl 1 rfl) ?_
  refine lv_i2b S.x S.b d_StringLatin1_indexOfChar_1 rfl ?_
  refine lv_topi (fun z7 ez7 => ?_)
  have lz7 := Int32.le_toInt z7
  have uz7 := Int32.toInt_lt z7
  refine lv_istore (lv' := [(4, .int z7), (0, .ref st), (1, .int p0), (2, .int p1), (3, .int p2)]) S.x S.b d_StringLatin1_indexOfChar_2 hl (by decide) rfl (fun ls hl => ?_)
  refine lv_iload_n S.x S.b d_StringLatin1_indexOfChar_4 rfl (lv_at hl 3 rfl) ?_
  refine lv_istore (lv' := [(5, .int p1), (4, .int z7), (0, .ref st), (1, .int p0), (2, .int p1), (3, .int p2)]) S.x S.b d_StringLatin1_indexOfChar_5 hl (by decide) rfl (fun ls hl => ?_)
  exact J7 ((p2.toInt-p1.toInt+4294967297).toNat + 1) z7 p1 _ _ ls (show 0 ≤ p1.toInt from by first | exact g1 | omega) (show K_StringLatin1_indexOfChar_7 sb p0 p1 p2 z7 p1 from (fun y_v k hE => Exists.intro (k + 1) (Or.inl ⟨rfl, z7, ez7, hE⟩))) (show p2.toInt-p1.toInt+4294967297 < ((((p2.toInt-p1.toInt+4294967297).toNat + 1 : Nat) : Int) : Int) from by first | exact oz_natlt | omega) hw (lv_sub hl [2, 3, 4, 5, 1, 0] rfl)
abbrev b_StringLatin1_indexOf : ByteArray := prog_33_method_22_code
def y_StringLatin1_indexOf : MethodName := ⟨"java/lang/StringLatin1", "indexOf", "([BIII)I"⟩
theorem d_StringLatin1_indexOf_0 : decode b_StringLatin1_indexOf 0 = .ok (.iload_n 1, 1) := by decide +kernel
theorem d_StringLatin1_indexOf_1 : decode b_StringLatin1_indexOf 1 = .ok (.invokestatic 88, 3) := by decide +kernel
theorem d_StringLatin1_indexOf_4 : decode b_StringLatin1_indexOf 4 = .ok (.ifCond .ne 5, 3) := by decide +kernel
theorem d_StringLatin1_indexOf_7 : decode b_StringLatin1_indexOf 7 = .ok (.iconst (-1), 1) := by decide +kernel
theorem d_StringLatin1_indexOf_8 : decode b_StringLatin1_indexOf 8 = .ok (.ireturn, 1) := by decide +kernel
theorem d_StringLatin1_indexOf_9 : decode b_StringLatin1_indexOf 9 = .ok (.iload_n 2, 1) := by decide +kernel
theorem d_StringLatin1_indexOf_10 : decode b_StringLatin1_indexOf 10 = .ok (.iconst 0, 1) := by decide +kernel
theorem d_StringLatin1_indexOf_11 : decode b_StringLatin1_indexOf 11 = .ok (.invokestatic 92, 3) := by decide +kernel
theorem d_StringLatin1_indexOf_14 : decode b_StringLatin1_indexOf 14 = .ok (.istore_n 2, 1) := by decide +kernel
theorem d_StringLatin1_indexOf_15 : decode b_StringLatin1_indexOf 15 = .ok (.iload_n 3, 1) := by decide +kernel
theorem d_StringLatin1_indexOf_16 : decode b_StringLatin1_indexOf 16 = .ok (.aload_n 0, 1) := by decide +kernel
theorem d_StringLatin1_indexOf_17 : decode b_StringLatin1_indexOf 17 = .ok (.arraylength, 1) := by decide +kernel
theorem d_StringLatin1_indexOf_18 : decode b_StringLatin1_indexOf 18 = .ok (.invokestatic 38, 3) := by decide +kernel
theorem d_StringLatin1_indexOf_21 : decode b_StringLatin1_indexOf 21 = .ok (.istore_n 3, 1) := by decide +kernel
theorem d_StringLatin1_indexOf_22 : decode b_StringLatin1_indexOf 22 = .ok (.iload_n 2, 1) := by decide +kernel
theorem d_StringLatin1_indexOf_23 : decode b_StringLatin1_indexOf 23 = .ok (.iload_n 3, 1) := by decide +kernel
theorem d_StringLatin1_indexOf_24 : decode b_StringLatin1_indexOf 24 = .ok (.if_icmp .lt 5, 3) := by decide +kernel
theorem d_StringLatin1_indexOf_27 : decode b_StringLatin1_indexOf 27 = .ok (.iconst (-1), 1) := by decide +kernel
theorem d_StringLatin1_indexOf_28 : decode b_StringLatin1_indexOf 28 = .ok (.ireturn, 1) := by decide +kernel
theorem d_StringLatin1_indexOf_29 : decode b_StringLatin1_indexOf 29 = .ok (.aload_n 0, 1) := by decide +kernel
theorem d_StringLatin1_indexOf_30 : decode b_StringLatin1_indexOf 30 = .ok (.iload_n 1, 1) := by decide +kernel
theorem d_StringLatin1_indexOf_31 : decode b_StringLatin1_indexOf 31 = .ok (.iload_n 2, 1) := by decide +kernel
theorem d_StringLatin1_indexOf_32 : decode b_StringLatin1_indexOf 32 = .ok (.iload_n 3, 1) := by decide +kernel
theorem d_StringLatin1_indexOf_33 : decode b_StringLatin1_indexOf 33 = .ok (.invokestatic 95, 3) := by decide +kernel
theorem d_StringLatin1_indexOf_36 : decode b_StringLatin1_indexOf 36 = .ok (.ireturn, 1) := by decide +kernel
theorem q_StringLatin1_indexOf : px_y y_StringLatin1_indexOf 4 := by unfold px_y; decide +kernel
set_option maxHeartbeats 4000000 in
set_option maxRecDepth 100000 in
theorem c_StringLatin1_indexOf (l : Launch) (D : va_G) (cs : Nat → ClassId) (st : Nat) (sn : Nat) (sb : Nat → Int32) (p0 p1 p2 : Int32)  (g0 : sn ≤ 1000000) : MetI l y_StringLatin1_indexOf b_StringLatin1_indexOf 4 (.int) D cs 1 40 (0) (0) [.ref st, .int p0, .int p1, .int p2] [] (oX (fun A U H => (oT A st sn sb U H)) []) (fun v ps => (ps = []) ∧ (R_StringLatin1_indexOf sn sb p0 p1 p2 v)) := by
  refine px_enter (by decide) (Nat.le_of_ble_eq_true rfl) ?_
  intro p e s m below meth c A ls hAe S hr hlk hnm hA hT hX hw hl
  have hl : lv_has ls 4 [(0, .ref st), (1, .int p0), (2, .int p1), (3, .int p2)] := hl
  have lp0 := Int32.le_toInt p0
  have up0 := Int32.toInt_lt p0
  have lp1 := Int32.le_toInt p1
  have up1 := Int32.toInt_lt p1
  have lp2 := Int32.le_toInt p2
  have up2 := Int32.toInt_lt p2
  have cstm1 : ((-1) : Int32).toInt = (-1) := rfl
  have cst0 : (0 : Int32).toInt = 0 := rfl
  have hX : (fun A U H => (oT A st sn sb U H)) A s s.heap := by rw [hAe]; exact hX
  have hTT := hX
  have hsn : (nI sn).toInt = (sn : Int) := nI_toInt (by omega)
  refine lv_iload_n S.x S.b d_StringLatin1_indexOf_0 rfl (lv_at hl 1 rfl) ?_
  refine px_calli (pr := []) (px_runS (As := [.int p0]) (rest := []) S (c_StringLatin1_canEncode l D cs  p0   _) hT (pr := []) (pcs := []) hw px_X.tt m4_21 m4_19 m4_20 m1_4 q_StringLatin1_canEncode ⟨Nat.le_of_ble_eq_true rfl, Nat.le_of_ble_eq_true rfl⟩ hl.1 rfl (Nat.le_of_ble_eq_true rfl) d_StringLatin1_indexOf_1 ⟨Nat.le_of_ble_eq_true rfl, Nat.le_of_ble_eq_true rfl⟩) hw hA (fun v2 p1 H locs hp1 hw => ?_)
  obtain ⟨rfl, e3, e4⟩ := hp1
  have e3 := z_rng e3
  have e4 : R_StringLatin1_canEncode p0 v2 := e4
  have hw : pw D A s.heap H locs [] := hw
  have lv2 := Int32.le_toInt v2
  have uv2 := Int32.toInt_lt v2
  refine lv_if_ne (tgt := 9) S.x S.b d_StringLatin1_indexOf_4 (by decide) (fun c5 => ?_) (fun c5 => ?_)
  · have nc5 : ¬ v2.toInt = (0 : Int) := mt (i_eq (x := v2) (y := 0)).mpr c5
    refine lv_iload_n S.x S.b d_StringLatin1_indexOf_9 rfl (lv_at hl 2 rfl) ?_
    refine lv_iconst (v := 0) S.x S.b d_StringLatin1_indexOf_10 (by decide) ?_
    refine va_mmax S.x S.b (by rw [S.ml]; exact hl.1.symm) S.own (S.w m4_22) (S.w m2_26) (S.w m1_13) (S.w m2_27) (Nat.le_of_ble_eq_true rfl) (Nat.le_of_ble_eq_true rfl) (Nat.zero_le _) (Nat.zero_le _) d_StringLatin1_indexOf_11 ?_
    refine lv_topi (fun z7 ez7 => ?_)
    have tz7 := i_max p1 0 ez7
    have lz7 := Int32.le_toInt z7
    have uz7 := Int32.toInt_lt z7
    refine lv_istore_n (lv' := [(2, .int z7), (0, .ref st), (1, .int p0), (3, .int p2)]) S.x S.b d_StringLatin1_indexOf_14 rfl hl (by decide) rfl (fun ls hl => ?_)
    refine lv_iload_n S.x S.b d_StringLatin1_indexOf_15 rfl (lv_at hl 3 rfl) ?_
    refine lv_aload_n S.x S.b d_StringLatin1_indexOf_16 rfl (lv_at hl 1 rfl) ?_
    refine va_tlen S.x S.b hTT hw.2.2 (v := (nI sn)) rfl d_StringLatin1_indexOf_17 ?_
    refine va_mmin S.x S.b (by rw [S.ml]; exact hl.1.symm) S.own (S.w m4_23) (S.w m2_68) (S.w m1_13) (S.w m2_69) (Nat.le_of_ble_eq_true rfl) (Nat.le_of_ble_eq_true rfl) (Nat.zero_le _) (Nat.zero_le _) d_StringLatin1_indexOf_18 ?_
    refine lv_topi (fun z8 ez8 => ?_)
    have tz8 := i_min p2 (nI sn) ez8
    have lz8 := Int32.le_toInt z8
    have uz8 := Int32.toInt_lt z8
    refine lv_istore_n (lv' := [(3, .int z8), (2, .int z7), (0, .ref st), (1, .int p0)]) S.x S.b d_StringLatin1_indexOf_21 rfl hl (by decide) rfl (fun ls hl => ?_)
    refine lv_iload_n S.x S.b d_StringLatin1_indexOf_22 rfl (lv_at hl 1 rfl) ?_
    refine lv_iload_n S.x S.b d_StringLatin1_indexOf_23 rfl (lv_at hl 0 rfl) ?_
    refine lv_icmp_lt (tgt := 29) S.x S.b d_StringLatin1_indexOf_24 (by decide) (fun c9 => ?_) (fun c9 => ?_)
    · have nc9 : z7.toInt < z8.toInt := (i_lt (x := z7) (y := z8)).mp c9
      refine lv_aload_n S.x S.b d_StringLatin1_indexOf_29 rfl (lv_at hl 2 rfl) ?_
      refine lv_iload_n S.x S.b d_StringLatin1_indexOf_30 rfl (lv_at hl 3 rfl) ?_
      refine lv_iload_n S.x S.b d_StringLatin1_indexOf_31 rfl (lv_at hl 1 rfl) ?_
      refine lv_iload_n S.x S.b d_StringLatin1_indexOf_32 rfl (lv_at hl 0 rfl) ?_
      refine px_calli (pr := []) (px_runS (As := [.ref st, .int p0, .int z7, .int z8]) (rest := []) S (c_StringLatin1_indexOfChar l D cs st sn sb p0 z7 z8  (show sn ≤ 1000000 from by first | exact g0 | omega) (show 0 ≤ z7.toInt from by omega) (show z8.toInt ≤ (sn : Int) from by first | exact oz_fcd56301a2 hsn tz8.2.1 | omega) _) hT (pr := []) (pcs := []) hw (oX_call (P := (fun A U H => (oT A st sn sb U H))) (pr := []) oG_T hw hA hTT) m4_26 m4_24 m4_25 m1_4 q_StringLatin1_indexOfChar ⟨Nat.le_of_ble_eq_true rfl, Nat.le_of_ble_eq_true rfl⟩ hl.1 rfl (Nat.le_of_ble_eq_true rfl) d_StringLatin1_indexOf_33 ⟨Nat.le_of_ble_eq_true rfl, Nat.le_of_ble_eq_true rfl⟩) hw hA (fun v12 p11 H locs hp11 hw => ?_)
      obtain ⟨rfl, e13⟩ := hp11
      have e13 : R_StringLatin1_indexOfChar sb p0 z7 z8 v12 := e13
      have hw : pw D A s.heap H locs [] := hw
      have lv12 := Int32.le_toInt v12
      have uv12 := Int32.toInt_lt v12
      exact px_iret (v := v12) S hr rfl hlk hAe hw (Nat.le_of_ble_eq_true rfl) (Nat.le_of_ble_eq_true rfl) (⟨rfl, (show R_StringLatin1_indexOf sn sb p0 p1 p2 v12 from (Or.inl ⟨v2, e4, Or.inl ⟨nc5, z7, ez7, z8, ez8, Or.inl ⟨nc9, v12, e13, rfl⟩⟩⟩))⟩) d_StringLatin1_indexOf_36
    · have nc9 : ¬ z7.toInt < z8.toInt := mt (i_lt (x := z7) (y := z8)).mpr c9
      refine lv_iconst (v := (-1)) S.x S.b d_StringLatin1_indexOf_27 (by decide) ?_
      exact px_iret (v := (-1)) S hr rfl hlk hAe hw (Nat.le_of_ble_eq_true rfl) (Nat.le_of_ble_eq_true rfl) (⟨rfl, (show R_StringLatin1_indexOf sn sb p0 p1 p2 (-1 : Int32) from (Or.inl ⟨v2, e4, Or.inl ⟨nc5, z7, ez7, z8, ez8, Or.inr ⟨nc9, rfl⟩⟩⟩))⟩) d_StringLatin1_indexOf_28
  · have nc5 : v2.toInt = (0 : Int) := (i_eq (x := v2) (y := 0)).mp c5
    refine lv_iconst (v := (-1)) S.x S.b d_StringLatin1_indexOf_7 (by decide) ?_
    exact px_iret (v := (-1)) S hr rfl hlk hAe hw (Nat.le_of_ble_eq_true rfl) (Nat.le_of_ble_eq_true rfl) (⟨rfl, (show R_StringLatin1_indexOf sn sb p0 p1 p2 (-1 : Int32) from (Or.inl ⟨v2, e4, Or.inr ⟨nc5, rfl⟩⟩))⟩) d_StringLatin1_indexOf_8
abbrev b_String_indexOf : ByteArray := prog_31_method_80_code
def y_String_indexOf : MethodName := ⟨"java/lang/String", "indexOf", "(II)I"⟩
theorem d_String_indexOf_0 : decode b_String_indexOf 0 = .ok (.aload_n 0, 1) := by decide +kernel
theorem d_String_indexOf_1 : decode b_String_indexOf 1 = .ok (.invokevirtual 492, 3) := by decide +kernel
theorem d_String_indexOf_4 : decode b_String_indexOf 4 = .ok (.ifCond .eq 19, 3) := by decide +kernel
theorem d_String_indexOf_7 : decode b_String_indexOf 7 = .ok (.aload_n 0, 1) := by decide +kernel
theorem d_String_indexOf_8 : decode b_String_indexOf 8 = .ok (.getfield 9, 3) := by decide +kernel
theorem d_String_indexOf_11 : decode b_String_indexOf 11 = .ok (.iload_n 1, 1) := by decide +kernel
theorem d_String_indexOf_12 : decode b_String_indexOf 12 = .ok (.iload_n 2, 1) := by decide +kernel
theorem d_String_indexOf_13 : decode b_String_indexOf 13 = .ok (.aload_n 0, 1) := by decide +kernel
theorem d_String_indexOf_14 : decode b_String_indexOf 14 = .ok (.invokevirtual 505, 3) := by decide +kernel
theorem d_String_indexOf_17 : decode b_String_indexOf 17 = .ok (.invokestatic 637, 3) := by decide +kernel
theorem d_String_indexOf_20 : decode b_String_indexOf 20 = .ok (.goto 16, 3) := by decide +kernel
theorem d_String_indexOf_23 : decode b_String_indexOf 23 = .ok (.aload_n 0, 1) := by decide +kernel
theorem d_String_indexOf_24 : decode b_String_indexOf 24 = .ok (.getfield 9, 3) := by decide +kernel
theorem d_String_indexOf_27 : decode b_String_indexOf 27 = .ok (.iload_n 1, 1) := by decide +kernel
theorem d_String_indexOf_28 : decode b_String_indexOf 28 = .ok (.iload_n 2, 1) := by decide +kernel
theorem d_String_indexOf_29 : decode b_String_indexOf 29 = .ok (.aload_n 0, 1) := by decide +kernel
theorem d_String_indexOf_30 : decode b_String_indexOf 30 = .ok (.invokevirtual 505, 3) := by decide +kernel
theorem d_String_indexOf_33 : decode b_String_indexOf 33 = .ok (.invokestatic 640, 3) := by decide +kernel
theorem d_String_indexOf_36 : decode b_String_indexOf 36 = .ok (.ireturn, 1) := by decide +kernel
theorem q_String_indexOf : px_y y_String_indexOf 2 := by unfold px_y; decide +kernel
set_option maxHeartbeats 4000000 in
set_option maxRecDepth 100000 in
theorem c_String_indexOf (l : Launch) (D : va_G) (cs : Nat → ClassId) (sk : Nat) (st : Nat) (sn : Nat) (sb : Nat → Int32) (p0 p1 : Int32)  (g0 : sn ≤ 1000000) : MetI l y_String_indexOf b_String_indexOf 3 (.int) D cs 2 80 (0) (0) [.ref sk, .int p0, .int p1] [] (oX (fun A U H => (oZ A U H) ∧ (oS A sk st sn sb U H)) []) (fun v ps => (ps = []) ∧ (R_String_indexOf sn sb p0 p1 v)) := by
  refine px_enter (by decide) (Nat.le_of_ble_eq_true rfl) ?_
  intro p e s m below meth c A ls hAe S hr hlk hnm hA hT hX hw hl
  have hl : lv_has ls 3 [(0, .ref sk), (1, .int p0), (2, .int p1)] := hl
  have lp0 := Int32.le_toInt p0
  have up0 := Int32.toInt_lt p0
  have lp1 := Int32.le_toInt p1
  have up1 := Int32.toInt_lt p1
  have hX : (fun A U H => (oZ A U H) ∧ (oS A sk st sn sb U H)) A s s.heap := by rw [hAe]; exact hX
  obtain ⟨hZ, hS⟩ := hX
  have hsn : (nI sn).toInt = (sn : Int) := nI_toInt (by omega)
  refine lv_aload_n S.x S.b d_String_indexOf_0 rfl (lv_at hl 0 rfl) ?_
  refine px_calli (pr := []) (px_runV (As := []) (rest := []) S (c_String_isLatin1 l D cs sk st sn sb   (show sn ≤ 1000000 from by first | exact g0 | omega) _) hT (pr := []) (pcs := []) hw (oX_call (P := (fun A U H => (oZ A U H) ∧ (oS A sk st sn sb U H))) (pr := []) (oG_and oG_Z oG_S) hw hA ⟨hZ, hS⟩) (oS_recv hw hS) m1_72 m1_69 m1_70 m1_71 m1_3 q_String_isLatin1 ⟨Nat.le_of_ble_eq_true rfl, Nat.le_of_ble_eq_true rfl⟩ hl.1 rfl (Nat.le_of_ble_eq_true rfl) d_String_indexOf_1 ⟨Nat.le_of_ble_eq_true rfl, Nat.le_of_ble_eq_true rfl⟩) hw hA (fun v2 p1 H locs hp1 hw => ?_)
  obtain ⟨rfl, e3, e4⟩ := hp1
  have e3 : v2.toInt = 1 := e3
  have e4 : R_String_isLatin1 v2 := e4
  have hw : pw D A s.heap H locs [] := hw
  have lv2 := Int32.le_toInt v2
  have uv2 := Int32.toInt_lt v2
  refine lv_if_eq (tgt := 23) S.x S.b d_String_indexOf_4 (by decide) (fun c5 => ?_) (fun c5 => ?_)
  · have nc5 : v2.toInt = (0 : Int) := (i_eq (x := v2) (y := 0)).mp c5
    refine lv_aload_n S.x S.b d_String_indexOf_23 rfl (lv_at hl 0 rfl) ?_
    refine vk_getf S.x S.b hS.2.2.1 hw.2.2 S.own (S.w m8_11) (fun _ h => h) d_String_indexOf_24 ?_
    refine lv_iload_n S.x S.b d_String_indexOf_27 rfl (lv_at hl 1 rfl) ?_
    refine lv_iload_n S.x S.b d_String_indexOf_28 rfl (lv_at hl 2 rfl) ?_
    refine lv_aload_n S.x S.b d_String_indexOf_29 rfl (lv_at hl 0 rfl) ?_
    refine px_calli (pr := []) (px_runV (As := []) (rest := [.int p1, .int p0, .ref st]) S (c_String_length l D cs sk st sn sb   (show sn ≤ 1000000 from by first | exact g0 | omega) _) hT (pr := []) (pcs := []) hw (oX_call (P := (fun A U H => (oZ A U H) ∧ (oS A sk st sn sb U H))) (pr := []) (oG_and oG_Z oG_S) hw hA ⟨hZ, hS⟩) (oS_recv hw hS) m1_58 m4_15 m1_56 m1_57 m1_3 q_String_length ⟨Nat.le_of_ble_eq_true rfl, Nat.le_of_ble_eq_true rfl⟩ hl.1 rfl (Nat.le_of_ble_eq_true rfl) d_String_indexOf_30 ⟨Nat.le_of_ble_eq_true rfl, Nat.le_of_ble_eq_true rfl⟩) hw hA (fun v8 p7 H locs hp7 hw => ?_)
    obtain ⟨rfl, e9, e10⟩ := hp7
    have e9 : v8.toInt = (sn : Int) := e9
    have e10 : R_String_length sn v8 := e10
    have hw : pw D A s.heap H locs [] := hw
    have lv8 := Int32.le_toInt v8
    have uv8 := Int32.toInt_lt v8
    exfalso
    omega
  · have nc5 : ¬ v2.toInt = (0 : Int) := mt (i_eq (x := v2) (y := 0)).mpr c5
    refine lv_aload_n S.x S.b d_String_indexOf_7 rfl (lv_at hl 0 rfl) ?_
    refine vk_getf S.x S.b hS.2.2.1 hw.2.2 S.own (S.w m8_11) (fun _ h => h) d_String_indexOf_8 ?_
    refine lv_iload_n S.x S.b d_String_indexOf_11 rfl (lv_at hl 1 rfl) ?_
    refine lv_iload_n S.x S.b d_String_indexOf_12 rfl (lv_at hl 2 rfl) ?_
    refine lv_aload_n S.x S.b d_String_indexOf_13 rfl (lv_at hl 0 rfl) ?_
    refine px_calli (pr := []) (px_runV (As := []) (rest := [.int p1, .int p0, .ref st]) S (c_String_length l D cs sk st sn sb   (show sn ≤ 1000000 from by first | exact g0 | omega) _) hT (pr := []) (pcs := []) hw (oX_call (P := (fun A U H => (oZ A U H) ∧ (oS A sk st sn sb U H))) (pr := []) (oG_and oG_Z oG_S) hw hA ⟨hZ, hS⟩) (oS_recv hw hS) m1_58 m4_15 m1_56 m1_57 m1_3 q_String_length ⟨Nat.le_of_ble_eq_true rfl, Nat.le_of_ble_eq_true rfl⟩ hl.1 rfl (Nat.le_of_ble_eq_true rfl) d_String_indexOf_14 ⟨Nat.le_of_ble_eq_true rfl, Nat.le_of_ble_eq_true rfl⟩) hw hA (fun v12 p11 H locs hp11 hw => ?_)
    obtain ⟨rfl, e13, e14⟩ := hp11
    have e13 : v12.toInt = (sn : Int) := e13
    have e14 : R_String_length sn v12 := e14
    have hw : pw D A s.heap H locs [] := hw
    have lv12 := Int32.le_toInt v12
    have uv12 := Int32.toInt_lt v12
    refine px_calli (pr := []) (px_runS (As := [.ref st, .int p0, .int p1, .int v12]) (rest := []) S (c_StringLatin1_indexOf l D cs st sn sb p0 p1 v12  (show sn ≤ 1000000 from by first | exact g0 | omega) _) hT (pr := []) (pcs := []) hw (oX_call (P := (fun A U H => (oT A st sn sb U H))) (pr := []) oG_T hw hA hS.2.2.2) m4_18 m4_16 m4_17 m1_4 q_StringLatin1_indexOf ⟨Nat.le_of_ble_eq_true rfl, Nat.le_of_ble_eq_true rfl⟩ hl.1 rfl (Nat.le_of_ble_eq_true rfl) d_String_indexOf_17 ⟨Nat.le_of_ble_eq_true rfl, Nat.le_of_ble_eq_true rfl⟩) hw hA (fun v16 p15 H locs hp15 hw => ?_)
    obtain ⟨rfl, e17⟩ := hp15
    have e17 : R_StringLatin1_indexOf sn sb p0 p1 v12 v16 := e17
    have hw : pw D A s.heap H locs [] := hw
    have lv16 := Int32.le_toInt v16
    have uv16 := Int32.toInt_lt v16
    refine lv_goto (tgt := 36) S.x S.b d_String_indexOf_20 (by decide) ?_
    exact px_iret (v := v16) S hr rfl hlk hAe hw (Nat.le_of_ble_eq_true rfl) (Nat.le_of_ble_eq_true rfl) (⟨rfl, (show R_String_indexOf sn sb p0 p1 v16 from (Or.inl ⟨v2, e4, nc5, v12, e14, v16, e17, rfl⟩))⟩) d_String_indexOf_36
abbrev b_String_indexOf2 : ByteArray := prog_31_method_79_code
def y_String_indexOf2 : MethodName := ⟨"java/lang/String", "indexOf", "(I)I"⟩
theorem d_String_indexOf2_0 : decode b_String_indexOf2 0 = .ok (.aload_n 0, 1) := by decide +kernel
theorem d_String_indexOf2_1 : decode b_String_indexOf2 1 = .ok (.iload_n 1, 1) := by decide +kernel
theorem d_String_indexOf2_2 : decode b_String_indexOf2 2 = .ok (.iconst 0, 1) := by decide +kernel
theorem d_String_indexOf2_3 : decode b_String_indexOf2 3 = .ok (.invokevirtual 633, 3) := by decide +kernel
theorem d_String_indexOf2_6 : decode b_String_indexOf2 6 = .ok (.ireturn, 1) := by decide +kernel
theorem q_String_indexOf2 : px_y y_String_indexOf2 1 := by unfold px_y; decide +kernel
set_option maxHeartbeats 4000000 in
set_option maxRecDepth 100000 in
theorem c_String_indexOf1 (l : Launch) (D : va_G) (cs : Nat → ClassId) (sk : Nat) (st : Nat) (sn : Nat) (sb : Nat → Int32) (p0 : Int32)  (g0 : sn ≤ 1000000) : MetI l y_String_indexOf2 b_String_indexOf2 2 (.int) D cs 3 120 (0) (0) [.ref sk, .int p0] [] (oX (fun A U H => (oZ A U H) ∧ (oS A sk st sn sb U H)) []) (fun v ps => (ps = []) ∧ (R_String_indexOf1 sn sb p0 v)) := by
  refine px_enter (by decide) (Nat.le_of_ble_eq_true rfl) ?_
  intro p e s m below meth c A ls hAe S hr hlk hnm hA hT hX hw hl
  have hl : lv_has ls 2 [(0, .ref sk), (1, .int p0)] := hl
  have lp0 := Int32.le_toInt p0
  have up0 := Int32.toInt_lt p0
  have cst0 : (0 : Int32).toInt = 0 := rfl
  have hX : (fun A U H => (oZ A U H) ∧ (oS A sk st sn sb U H)) A s s.heap := by rw [hAe]; exact hX
  obtain ⟨hZ, hS⟩ := hX
  have hsn : (nI sn).toInt = (sn : Int) := nI_toInt (by omega)
  refine lv_aload_n S.x S.b d_String_indexOf2_0 rfl (lv_at hl 0 rfl) ?_
  refine lv_iload_n S.x S.b d_String_indexOf2_1 rfl (lv_at hl 1 rfl) ?_
  refine lv_iconst (v := 0) S.x S.b d_String_indexOf2_2 (by decide) ?_
  refine px_calli (pr := []) (px_runV (As := [.int p0, .int 0]) (rest := []) S (c_String_indexOf l D cs sk st sn sb p0 0  (show sn ≤ 1000000 from by first | exact g0 | omega) _) hT (pr := []) (pcs := []) hw (oX_call (P := (fun A U H => (oZ A U H) ∧ (oS A sk st sn sb U H))) (pr := []) (oG_and oG_Z oG_S) hw hA ⟨hZ, hS⟩) (oS_recv hw hS) m4_14 m4_11 m4_12 m4_13 m1_3 q_String_indexOf ⟨Nat.le_of_ble_eq_true rfl, Nat.le_of_ble_eq_true rfl⟩ hl.1 rfl (Nat.le_of_ble_eq_true rfl) d_String_indexOf2_3 ⟨Nat.le_of_ble_eq_true rfl, Nat.le_of_ble_eq_true rfl⟩) hw hA (fun v2 p1 H locs hp1 hw => ?_)
  obtain ⟨rfl, e3⟩ := hp1
  have e3 : R_String_indexOf sn sb p0 (0 : Int32) v2 := e3
  have hw : pw D A s.heap H locs [] := hw
  have lv2 := Int32.le_toInt v2
  have uv2 := Int32.toInt_lt v2
  exact px_iret (v := v2) S hr rfl hlk hAe hw (Nat.le_of_ble_eq_true rfl) (Nat.le_of_ble_eq_true rfl) (⟨rfl, (show R_String_indexOf1 sn sb p0 v2 from (Or.inl ⟨v2, e3, rfl⟩))⟩) d_String_indexOf2_6
