theorem oz_1c7450c331 {a0 : Int} (h0 : a0 = (7 : Int)) : a0 = 7 := by omega
theorem m13_189 : Cond.constantLong "HomeSystemModel$Process" 221 (4294967295 : Int64) ∈ AL := AL_13 (List.mem_of_getElem? (i := 189) rfl) rfl
theorem m13_186 : Cond.methodLink "HomeSystemModel$Process" 223 ⟨"HomeSystemModel$Process", "plain", "(I)J"⟩ ∈ AL := AL_13 (List.mem_of_getElem? (i := 186) rfl) rfl
theorem m13_188 : Cond.code ⟨"HomeSystemModel$Process", "plain", "(I)J"⟩ prog_15_method_22_code 1 (Option.some FieldType.long) ∈ AL := AL_13 (List.mem_of_getElem? (i := 188) rfl) rfl
theorem m13_187 : Cond.static ⟨"HomeSystemModel$Process", "plain", "(I)J"⟩ ∈ AL := AL_13 (List.mem_of_getElem? (i := 187) rfl) rfl
theorem m14_27 : Cond.constantLong "HomeSystemModel$Process" 317 (65535 : Int64) ∈ AL := AL_14 (List.mem_of_getElem? (i := 27) rfl) rfl
theorem m13_182 : Cond.constantLong "HomeSystemModel$Process" 227 (4194304 : Int64) ∈ AL := AL_13 (List.mem_of_getElem? (i := 182) rfl) rfl
theorem m13_183 : Cond.constantLong "HomeSystemModel$Process" 229 (4 : Int64) ∈ AL := AL_13 (List.mem_of_getElem? (i := 183) rfl) rfl
theorem m10_73 : Cond.fieldLink "HomeSystemModel$Process" 231 "HomeSystemModel$Program" "rawWords" "I" ∈ AL := AL_10 (List.mem_of_getElem? (i := 73) rfl) rfl
theorem m13_184 : Cond.constantLong "HomeSystemModel$Process" 234 (4095 : Int64) ∈ AL := AL_13 (List.mem_of_getElem? (i := 184) rfl) rfl
theorem m13_185 : Cond.constantLong "HomeSystemModel$Process" 236 (4096 : Int64) ∈ AL := AL_13 (List.mem_of_getElem? (i := 185) rfl) rfl
theorem m13_202 : Cond.constantLong "HomeSystemModel$Process" 238 (5242880 : Int64) ∈ AL := AL_13 (List.mem_of_getElem? (i := 202) rfl) rfl
theorem m13_204 : Cond.constantLong "HomeSystemModel$Process" 242 (8257536 : Int64) ∈ AL := AL_13 (List.mem_of_getElem? (i := 204) rfl) rfl
theorem m13_205 : Cond.constantLong "HomeSystemModel$Process" 244 (8388608 : Int64) ∈ AL := AL_13 (List.mem_of_getElem? (i := 205) rfl) rfl
theorem m13_203 : Cond.constantLong "HomeSystemModel$Process" 240 (5259264 : Int64) ∈ AL := AL_13 (List.mem_of_getElem? (i := 203) rfl) rfl
theorem m13_178 : Cond.methodLink "HomeSystemModel$Process" 246 ⟨"HomeSystemModel$Process", "isText", "(I)Z"⟩ ∈ AL := AL_13 (List.mem_of_getElem? (i := 178) rfl) rfl
theorem m13_181 : Cond.code ⟨"HomeSystemModel$Process", "isText", "(I)Z"⟩ prog_15_method_24_code 4 (Option.some FieldType.boolean) ∈ AL := AL_13 (List.mem_of_getElem? (i := 181) rfl) rfl
theorem ms_15_0 : Cond.selects "HomeSystemModel$Process" ⟨"HomeSystemModel$Process", "isText", "(I)Z"⟩ ⟨"HomeSystemModel$Process", "isText", "(I)Z"⟩ ∈ AL := AL_p (q := (⟨"HomeSystemModel$Process", "isText", "(I)Z"⟩, 26)) (by unfold lw_privs; exact List.mem_append_right _ (List.mem_append_right _ (List.mem_append_right _ (List.mem_append_right _ (List.mem_append_right _ (List.mem_append_right _ (List.mem_append_right _ (List.mem_append_right _ (List.mem_append_right _ (List.mem_append_right _ (List.mem_append_right _ (List.mem_append_right _ (List.mem_append_right _ (List.mem_append_right _ (List.mem_append_left _ (List.mem_of_getElem? (i := 0) rfl))))))))))))))))
theorem m13_180 : Cond.instanceMethod ⟨"HomeSystemModel$Process", "isText", "(I)Z"⟩ ∈ AL := AL_13 (List.mem_of_getElem? (i := 180) rfl) rfl
theorem m13_198 : Cond.methodLink "HomeSystemModel$Process" 249 ⟨"HomeSystemModel$Process", "cellAt", "(I)I"⟩ ∈ AL := AL_13 (List.mem_of_getElem? (i := 198) rfl) rfl
theorem m13_201 : Cond.code ⟨"HomeSystemModel$Process", "cellAt", "(I)I"⟩ prog_15_method_25_code 6 (Option.some FieldType.int) ∈ AL := AL_13 (List.mem_of_getElem? (i := 201) rfl) rfl
theorem ms_15_2 : Cond.selects "HomeSystemModel$Process" ⟨"HomeSystemModel$Process", "cellAt", "(I)I"⟩ ⟨"HomeSystemModel$Process", "cellAt", "(I)I"⟩ ∈ AL := AL_p (q := (⟨"HomeSystemModel$Process", "cellAt", "(I)I"⟩, 26)) (by unfold lw_privs; exact List.mem_append_right _ (List.mem_append_right _ (List.mem_append_right _ (List.mem_append_right _ (List.mem_append_right _ (List.mem_append_right _ (List.mem_append_right _ (List.mem_append_right _ (List.mem_append_right _ (List.mem_append_right _ (List.mem_append_right _ (List.mem_append_right _ (List.mem_append_right _ (List.mem_append_right _ (List.mem_append_left _ (List.mem_of_getElem? (i := 2) rfl))))))))))))))))
theorem m13_200 : Cond.instanceMethod ⟨"HomeSystemModel$Process", "cellAt", "(I)I"⟩ ∈ AL := AL_13 (List.mem_of_getElem? (i := 200) rfl) rfl
theorem m10_71 : Cond.fieldLink "HomeSystemModel$Process" 252 "HomeSystemModel$Program" "raw" "[I" ∈ AL := AL_10 (List.mem_of_getElem? (i := 71) rfl) rfl
theorem m13_190 : Cond.methodLink "HomeSystemModel$Process" 255 ⟨"HomeSystemModel$Process", "fault", "()V"⟩ ∈ AL := AL_13 (List.mem_of_getElem? (i := 190) rfl) rfl
theorem m13_193 : Cond.code ⟨"HomeSystemModel$Process", "fault", "()V"⟩ prog_15_method_31_code 1 (Option.none : Option Jvm.ClassFile.FieldType) ∈ AL := AL_13 (List.mem_of_getElem? (i := 193) rfl) rfl
theorem ms_15_1 : Cond.selects "HomeSystemModel$Process" ⟨"HomeSystemModel$Process", "fault", "()V"⟩ ⟨"HomeSystemModel$Process", "fault", "()V"⟩ ∈ AL := AL_p (q := (⟨"HomeSystemModel$Process", "fault", "()V"⟩, 26)) (by unfold lw_privs; exact List.mem_append_right _ (List.mem_append_right _ (List.mem_append_right _ (List.mem_append_right _ (List.mem_append_right _ (List.mem_append_right _ (List.mem_append_right _ (List.mem_append_right _ (List.mem_append_right _ (List.mem_append_right _ (List.mem_append_right _ (List.mem_append_right _ (List.mem_append_right _ (List.mem_append_right _ (List.mem_append_left _ (List.mem_of_getElem? (i := 1) rfl))))))))))))))))
theorem m13_192 : Cond.instanceMethod ⟨"HomeSystemModel$Process", "fault", "()V"⟩ ∈ AL := AL_13 (List.mem_of_getElem? (i := 192) rfl) rfl
theorem m13_210 : Cond.methodLink "HomeSystemModel$Process" 264 ⟨"HomeSystemModel$Process", "bits", "(III)I"⟩ ∈ AL := AL_13 (List.mem_of_getElem? (i := 210) rfl) rfl
theorem m13_212 : Cond.code ⟨"HomeSystemModel$Process", "bits", "(III)I"⟩ prog_15_method_23_code 3 (Option.some FieldType.int) ∈ AL := AL_13 (List.mem_of_getElem? (i := 212) rfl) rfl
theorem m13_211 : Cond.static ⟨"HomeSystemModel$Process", "bits", "(III)I"⟩ ∈ AL := AL_13 (List.mem_of_getElem? (i := 211) rfl) rfl
theorem m13_213 : Cond.methodLink "HomeSystemModel$Process" 268 ⟨"HomeSystemModel$Process", "set", "(II)V"⟩ ∈ AL := AL_13 (List.mem_of_getElem? (i := 213) rfl) rfl
theorem m13_216 : Cond.code ⟨"HomeSystemModel$Process", "set", "(II)V"⟩ prog_15_method_30_code 3 (Option.none : Option Jvm.ClassFile.FieldType) ∈ AL := AL_13 (List.mem_of_getElem? (i := 216) rfl) rfl
theorem ms_15_4 : Cond.selects "HomeSystemModel$Process" ⟨"HomeSystemModel$Process", "set", "(II)V"⟩ ⟨"HomeSystemModel$Process", "set", "(II)V"⟩ ∈ AL := AL_p (q := (⟨"HomeSystemModel$Process", "set", "(II)V"⟩, 26)) (by unfold lw_privs; exact List.mem_append_right _ (List.mem_append_right _ (List.mem_append_right _ (List.mem_append_right _ (List.mem_append_right _ (List.mem_append_right _ (List.mem_append_right _ (List.mem_append_right _ (List.mem_append_right _ (List.mem_append_right _ (List.mem_append_right _ (List.mem_append_right _ (List.mem_append_right _ (List.mem_append_right _ (List.mem_append_left _ (List.mem_of_getElem? (i := 4) rfl))))))))))))))))
theorem m13_215 : Cond.instanceMethod ⟨"HomeSystemModel$Process", "set", "(II)V"⟩ ∈ AL := AL_13 (List.mem_of_getElem? (i := 215) rfl) rfl
theorem m13_222 : Cond.methodLink "HomeSystemModel$Process" 275 ⟨"HomeSystemModel$Process", "bad", "()I"⟩ ∈ AL := AL_13 (List.mem_of_getElem? (i := 222) rfl) rfl
theorem m13_225 : Cond.code ⟨"HomeSystemModel$Process", "bad", "()I"⟩ prog_15_method_34_code 1 (Option.some FieldType.int) ∈ AL := AL_13 (List.mem_of_getElem? (i := 225) rfl) rfl
theorem ms_15_6 : Cond.selects "HomeSystemModel$Process" ⟨"HomeSystemModel$Process", "bad", "()I"⟩ ⟨"HomeSystemModel$Process", "bad", "()I"⟩ ∈ AL := AL_p (q := (⟨"HomeSystemModel$Process", "bad", "()I"⟩, 26)) (by unfold lw_privs; exact List.mem_append_right _ (List.mem_append_right _ (List.mem_append_right _ (List.mem_append_right _ (List.mem_append_right _ (List.mem_append_right _ (List.mem_append_right _ (List.mem_append_right _ (List.mem_append_right _ (List.mem_append_right _ (List.mem_append_right _ (List.mem_append_right _ (List.mem_append_right _ (List.mem_append_right _ (List.mem_append_left _ (List.mem_of_getElem? (i := 6) rfl))))))))))))))))
theorem m13_224 : Cond.instanceMethod ⟨"HomeSystemModel$Process", "bad", "()I"⟩ ∈ AL := AL_13 (List.mem_of_getElem? (i := 224) rfl) rfl
abbrev b_Mpr_plain : ByteArray := prog_15_method_22_code
def y_Mpr_plain : MethodName := ⟨"HomeSystemModel$Process", "plain", "(I)J"⟩
theorem d_Mpr_plain_0 : decode b_Mpr_plain 0 = .ok (.iload_n 0, 1) := by decide +kernel
theorem d_Mpr_plain_1 : decode b_Mpr_plain 1 = .ok (.i2l, 1) := by decide +kernel
theorem d_Mpr_plain_2 : decode b_Mpr_plain 2 = .ok (.ldc2_w 221, 3) := by decide +kernel
theorem d_Mpr_plain_5 : decode b_Mpr_plain 5 = .ok (.land, 1) := by decide +kernel
theorem d_Mpr_plain_6 : decode b_Mpr_plain 6 = .ok (.lreturn, 1) := by decide +kernel
theorem q_Mpr_plain : px_y y_Mpr_plain 1 := by unfold px_y; decide +kernel
set_option maxHeartbeats 4000000 in
set_option maxRecDepth 100000 in
theorem c_mr_plain (l : Launch) (D : va_G) (cs : Nat → ClassId)  (p0 : Int32)   : MetL l y_Mpr_plain b_Mpr_plain 1 (.long) D cs 0 0 (0) (0) [.int p0] [] (fun _ => True) (fun v ps => (ps = []) ∧ (v.toInt = p0.toInt % 4294967296)) := by
  refine px_enter (by decide) (Nat.le_of_ble_eq_true rfl) ?_
  intro p e s m below meth c A ls hAe S hr hlk hnm hA hT hX hw hl
  replace hl : lv_has ls 1 [(0, .int p0)] := hl
  have lp0 := Int32.le_toInt p0
  have up0 := Int32.toInt_lt p0
  refine lv_iload_n S.x S.b d_Mpr_plain_0 rfl (lv_at hl 0 rfl) ?_
  refine lv_i2l S.x S.b d_Mpr_plain_1 rfl ?_
  refine lv_ldc2 (v := 4294967295) S.x S.b S.own (S.w m13_189) d_Mpr_plain_2 ?_
  refine lv_land S.x S.b d_Mpr_plain_5 ?_
  refine lv_topl (fun z1 ez1 => ?_)
  have tz1 : z1.toInt = p0.toInt % 4294967296 := (by rw [ez1]; exact l_plain p0)
  exact px_lret (v := z1) S hr hlk hAe hw (Nat.le_of_ble_eq_true rfl) (Nat.le_of_ble_eq_true rfl) (⟨rfl, (show z1.toInt = p0.toInt % 4294967296 from by first | exact tz1 | omega)⟩) d_Mpr_plain_6
abbrev b_Mpr_bits : ByteArray := prog_15_method_23_code
def y_Mpr_bits : MethodName := ⟨"HomeSystemModel$Process", "bits", "(III)I"⟩
theorem d_Mpr_bits_0 : decode b_Mpr_bits 0 = .ok (.iload_n 0, 1) := by decide +kernel
theorem d_Mpr_bits_1 : decode b_Mpr_bits 1 = .ok (.invokestatic 223, 3) := by decide +kernel
theorem d_Mpr_bits_4 : decode b_Mpr_bits 4 = .ok (.iload_n 1, 1) := by decide +kernel
theorem d_Mpr_bits_5 : decode b_Mpr_bits 5 = .ok (.lshr, 1) := by decide +kernel
theorem d_Mpr_bits_6 : decode b_Mpr_bits 6 = .ok (.lconst 1, 1) := by decide +kernel
theorem d_Mpr_bits_7 : decode b_Mpr_bits 7 = .ok (.iload_n 2, 1) := by decide +kernel
theorem d_Mpr_bits_8 : decode b_Mpr_bits 8 = .ok (.iload_n 1, 1) := by decide +kernel
theorem d_Mpr_bits_9 : decode b_Mpr_bits 9 = .ok (.isub, 1) := by decide +kernel
theorem d_Mpr_bits_10 : decode b_Mpr_bits 10 = .ok (.iconst 1, 1) := by decide +kernel
theorem d_Mpr_bits_11 : decode b_Mpr_bits 11 = .ok (.iadd, 1) := by decide +kernel
theorem d_Mpr_bits_12 : decode b_Mpr_bits 12 = .ok (.lshl, 1) := by decide +kernel
theorem d_Mpr_bits_13 : decode b_Mpr_bits 13 = .ok (.lconst 1, 1) := by decide +kernel
theorem d_Mpr_bits_14 : decode b_Mpr_bits 14 = .ok (.lsub, 1) := by decide +kernel
theorem d_Mpr_bits_15 : decode b_Mpr_bits 15 = .ok (.land, 1) := by decide +kernel
theorem d_Mpr_bits_16 : decode b_Mpr_bits 16 = .ok (.l2i, 1) := by decide +kernel
theorem d_Mpr_bits_17 : decode b_Mpr_bits 17 = .ok (.ireturn, 1) := by decide +kernel
theorem q_Mpr_bits : px_y y_Mpr_bits 3 := by unfold px_y; decide +kernel
set_option maxHeartbeats 4000000 in
set_option maxRecDepth 100000 in
theorem c_mr_bits (l : Launch) (D : va_G) (cs : Nat → ClassId)  (p0 p1 p2 : Int32)   : MetI l y_Mpr_bits b_Mpr_bits 3 (.int) D cs 1 30 (0) (0) [.int p0, .int p1, .int p2] [] (fun _ => True) (fun v ps => (ps = []) ∧ (p2.toInt = p1.toInt + 4 → 0 ≤ v.toInt ∧ v.toInt < 32)) := by
  refine px_enter (by decide) (Nat.le_of_ble_eq_true rfl) ?_
  intro p e s m below meth c A ls hAe S hr hlk hnm hA hT hX hw hl
  replace hl : lv_has ls 3 [(0, .int p0), (1, .int p1), (2, .int p2)] := hl
  have lp0 := Int32.le_toInt p0
  have up0 := Int32.toInt_lt p0
  have lp1 := Int32.le_toInt p1
  have up1 := Int32.toInt_lt p1
  have lp2 := Int32.le_toInt p2
  have up2 := Int32.toInt_lt p2
  have cst1 : (1 : Int32).toInt = 1 := rfl
  refine lv_iload_n S.x S.b d_Mpr_bits_0 rfl (lv_at hl 0 rfl) ?_
  refine px_calll (pr := []) (px_runS (As := [.int p0]) (rest := []) S (c_mr_plain l D cs  p0   _) hT (pr := []) (pcs := []) hw px_X.tt m13_188 m13_186 m13_187 m1_22 q_Mpr_plain ⟨Nat.le_of_ble_eq_true rfl, Nat.le_of_ble_eq_true rfl⟩ hl.1 rfl (Nat.le_of_ble_eq_true rfl) d_Mpr_bits_1 ⟨Nat.le_of_ble_eq_true rfl, Nat.le_of_ble_eq_true rfl⟩) hw hA (fun v2 p1 H locs hp1 hw => ?_)
  obtain ⟨rfl, e3⟩ := hp1
  replace e3 : v2.toInt = p0.toInt % 4294967296 := e3
  replace hw : pw D A s.heap H locs [] := hw
  refine lv_iload_n S.x S.b d_Mpr_bits_4 rfl (lv_at hl 1 rfl) ?_
  refine lv_lshr S.x S.b d_Mpr_bits_5 rfl ?_
  refine lv_topl (fun z4 ez4 => ?_)
  refine lv_lconst (v := 1) S.x S.b d_Mpr_bits_6 (by decide) ?_
  refine lv_iload_n S.x S.b d_Mpr_bits_7 rfl (lv_at hl 2 rfl) ?_
  refine lv_iload_n S.x S.b d_Mpr_bits_8 rfl (lv_at hl 1 rfl) ?_
  refine lv_isub S.x S.b d_Mpr_bits_9 ?_
  refine lv_topi (fun z5 ez5 => ?_)
  have tz5 : z5.toInt = (p2.toInt - p1.toInt + 2147483648) % 4294967296 - 2147483648 := by rw [ez5]; exact i_sub p2 p1
  have lz5 := Int32.le_toInt z5
  have uz5 := Int32.toInt_lt z5
  try replace tz5 : z5.toInt = p2.toInt - p1.toInt := by omega
  refine lv_iconst (v := 1) S.x S.b d_Mpr_bits_10 (by decide) ?_
  refine lv_iadd S.x S.b d_Mpr_bits_11 ?_
  refine lv_topi (fun z6 ez6 => ?_)
  have tz6 : z6.toInt = (z5.toInt + (1 : Int) + 2147483648) % 4294967296 - 2147483648 := by rw [ez6]; exact i_add z5 1
  have lz6 := Int32.le_toInt z6
  have uz6 := Int32.toInt_lt z6
  try replace tz6 : z6.toInt = z5.toInt + (1 : Int) := by omega
  refine lv_lshl S.x S.b d_Mpr_bits_12 rfl ?_
  refine lv_topl (fun z7 ez7 => ?_)
  refine lv_lconst (v := 1) S.x S.b d_Mpr_bits_13 (by decide) ?_
  refine lv_lsub S.x S.b d_Mpr_bits_14 ?_
  refine lv_topl (fun z8 ez8 => ?_)
  refine lv_land S.x S.b d_Mpr_bits_15 ?_
  refine lv_topl (fun z9 ez9 => ?_)
  refine lv_l2i S.x S.b d_Mpr_bits_16 rfl ?_
  refine lv_topi (fun z10 ez10 => ?_)
  have lz10 := Int32.le_toInt z10
  have uz10 := Int32.toInt_lt z10
  have t5z10 : p2.toInt = p1.toInt + 4 → 0 ≤ z10.toInt ∧ z10.toInt < 32 := fun q9 => l_five (m := z8) (by rw [ez8, ez7]; exact l_shl5 (by omega)) (by rw [ez10, ez9])
  exact px_iret (v := z10) S hr rfl hlk hAe hw (Nat.le_of_ble_eq_true rfl) (Nat.le_of_ble_eq_true rfl) (⟨rfl, (show p2.toInt = p1.toInt + 4 → 0 ≤ z10.toInt ∧ z10.toInt < 32 from by first | exact t5z10 | omega)⟩) d_Mpr_bits_17
abbrev b_Mpr_right : ByteArray := prog_15_method_39_code
def y_Mpr_right : MethodName := ⟨"HomeSystemModel$Process", "right", "(IIZ)I"⟩
theorem d_Mpr_right_0 : decode b_Mpr_right 0 = .ok (.iload_n 2, 1) := by decide +kernel
theorem d_Mpr_right_1 : decode b_Mpr_right 1 = .ok (.ifCond .eq 8, 3) := by decide +kernel
theorem d_Mpr_right_4 : decode b_Mpr_right 4 = .ok (.iload_n 0, 1) := by decide +kernel
theorem d_Mpr_right_5 : decode b_Mpr_right 5 = .ok (.i2l, 1) := by decide +kernel
theorem d_Mpr_right_6 : decode b_Mpr_right 6 = .ok (.goto 7, 3) := by decide +kernel
theorem d_Mpr_right_9 : decode b_Mpr_right 9 = .ok (.iload_n 0, 1) := by decide +kernel
theorem d_Mpr_right_10 : decode b_Mpr_right 10 = .ok (.invokestatic 223, 3) := by decide +kernel
theorem d_Mpr_right_13 : decode b_Mpr_right 13 = .ok (.lstore_n 3, 1) := by decide +kernel
theorem d_Mpr_right_14 : decode b_Mpr_right 14 = .ok (.lload_n 3, 1) := by decide +kernel
theorem d_Mpr_right_15 : decode b_Mpr_right 15 = .ok (.iload_n 1, 1) := by decide +kernel
theorem d_Mpr_right_16 : decode b_Mpr_right 16 = .ok (.lshr, 1) := by decide +kernel
theorem d_Mpr_right_17 : decode b_Mpr_right 17 = .ok (.l2i, 1) := by decide +kernel
theorem d_Mpr_right_18 : decode b_Mpr_right 18 = .ok (.ireturn, 1) := by decide +kernel
theorem q_Mpr_right : px_y y_Mpr_right 3 := by unfold px_y; decide +kernel
set_option maxHeartbeats 4000000 in
set_option maxRecDepth 100000 in
theorem c_mr_right (l : Launch) (D : va_G) (cs : Nat → ClassId)  (p0 p1 p2 : Int32)   : MetI l y_Mpr_right b_Mpr_right 5 (.int) D cs 1 30 (0) (0) [.int p0, .int p1, .int p2] [] (fun _ => True) (fun v ps => (ps = [])) := by
  refine px_enter (by decide) (Nat.le_of_ble_eq_true rfl) ?_
  intro p e s m below meth c A ls hAe S hr hlk hnm hA hT hX hw hl
  replace hl : lv_has ls 5 [(0, .int p0), (1, .int p1), (2, .int p2)] := hl
  have lp0 := Int32.le_toInt p0
  have up0 := Int32.toInt_lt p0
  have lp1 := Int32.le_toInt p1
  have up1 := Int32.toInt_lt p1
  have lp2 := Int32.le_toInt p2
  have up2 := Int32.toInt_lt p2
  refine lv_iload_n S.x S.b d_Mpr_right_0 rfl (lv_at hl 2 rfl) ?_
  refine lv_if_eq (tgt := 9) S.x S.b d_Mpr_right_1 (by decide) (fun c1 => ?_) (fun c1 => ?_)
  · have nc1 : p2.toInt = (0 : Int) := (i_eq (x := p2) (y := 0)).mp c1
    refine lv_iload_n S.x S.b d_Mpr_right_9 rfl (lv_at hl 0 rfl) ?_
    refine px_calll (pr := []) (px_runS (As := [.int p0]) (rest := []) S (c_mr_plain l D cs  p0   _) hT (pr := []) (pcs := []) hw px_X.tt m13_188 m13_186 m13_187 m1_22 q_Mpr_plain ⟨Nat.le_of_ble_eq_true rfl, Nat.le_of_ble_eq_true rfl⟩ hl.1 rfl (Nat.le_of_ble_eq_true rfl) d_Mpr_right_10 ⟨Nat.le_of_ble_eq_true rfl, Nat.le_of_ble_eq_true rfl⟩) hw hA (fun v3 p2 H locs hp2 hw => ?_)
    obtain ⟨rfl, e4⟩ := hp2
    replace e4 : v3.toInt = p0.toInt % 4294967296 := e4
    replace hw : pw D A s.heap H locs [] := hw
    refine lv_lstore_n (lv' := [(3, .long v3), (0, .int p0), (1, .int p1), (2, .int p2)]) S.x S.b d_Mpr_right_13 rfl hl (by decide) rfl (fun ls hl => ?_)
    refine lv_lload_n S.x S.b d_Mpr_right_14 rfl (lv_at hl 0 rfl) ?_
    refine lv_iload_n S.x S.b d_Mpr_right_15 rfl (lv_at hl 2 rfl) ?_
    refine lv_lshr S.x S.b d_Mpr_right_16 rfl ?_
    refine lv_topl (fun z5 ez5 => ?_)
    refine lv_l2i S.x S.b d_Mpr_right_17 rfl ?_
    refine lv_topi (fun z6 ez6 => ?_)
    have lz6 := Int32.le_toInt z6
    have uz6 := Int32.toInt_lt z6
    exact px_iret (v := z6) S hr rfl hlk hAe hw (Nat.le_of_ble_eq_true rfl) (Nat.le_of_ble_eq_true rfl) (rfl) d_Mpr_right_18
  · have nc1 : ¬ p2.toInt = (0 : Int) := mt (i_eq (x := p2) (y := 0)).mpr c1
    refine lv_iload_n S.x S.b d_Mpr_right_4 rfl (lv_at hl 0 rfl) ?_
    refine lv_i2l S.x S.b d_Mpr_right_5 rfl ?_
    refine lv_goto (tgt := 13) S.x S.b d_Mpr_right_6 (by decide) ?_
    refine lv_lstore_n (lv' := [(3, .long (p0).toInt64), (0, .int p0), (1, .int p1), (2, .int p2)]) S.x S.b d_Mpr_right_13 rfl hl (by decide) rfl (fun ls hl => ?_)
    refine lv_lload_n S.x S.b d_Mpr_right_14 rfl (lv_at hl 0 rfl) ?_
    refine lv_iload_n S.x S.b d_Mpr_right_15 rfl (lv_at hl 2 rfl) ?_
    refine lv_lshr S.x S.b d_Mpr_right_16 rfl ?_
    refine lv_topl (fun z7 ez7 => ?_)
    refine lv_l2i S.x S.b d_Mpr_right_17 rfl ?_
    refine lv_topi (fun z8 ez8 => ?_)
    have lz8 := Int32.le_toInt z8
    have uz8 := Int32.toInt_lt z8
    exact px_iret (v := z8) S hr rfl hlk hAe hw (Nat.le_of_ble_eq_true rfl) (Nat.le_of_ble_eq_true rfl) (rfl) d_Mpr_right_18
abbrev b_Mpr_simple : ByteArray := prog_15_method_40_code
def y_Mpr_simple : MethodName := ⟨"HomeSystemModel$Process", "simple", "(III)I"⟩
theorem d_Mpr_simple_0 : decode b_Mpr_simple 0 = .ok (.iload_n 0, 1) := by decide +kernel
theorem d_Mpr_simple_1 : decode b_Mpr_simple 1 = .ok (.tableswitch 84 0 6 #[43, 84, 47, 58, 76, 84, 80], 43) := by decide +kernel
theorem d_Mpr_simple_44 : decode b_Mpr_simple 44 = .ok (.iload_n 1, 1) := by decide +kernel
theorem d_Mpr_simple_45 : decode b_Mpr_simple 45 = .ok (.iload_n 2, 1) := by decide +kernel
theorem d_Mpr_simple_46 : decode b_Mpr_simple 46 = .ok (.iadd, 1) := by decide +kernel
theorem d_Mpr_simple_47 : decode b_Mpr_simple 47 = .ok (.ireturn, 1) := by decide +kernel
theorem d_Mpr_simple_48 : decode b_Mpr_simple 48 = .ok (.iload_n 1, 1) := by decide +kernel
theorem d_Mpr_simple_49 : decode b_Mpr_simple 49 = .ok (.iload_n 2, 1) := by decide +kernel
theorem d_Mpr_simple_50 : decode b_Mpr_simple 50 = .ok (.if_icmp .ge 7, 3) := by decide +kernel
theorem d_Mpr_simple_53 : decode b_Mpr_simple 53 = .ok (.iconst 1, 1) := by decide +kernel
theorem d_Mpr_simple_54 : decode b_Mpr_simple 54 = .ok (.goto 4, 3) := by decide +kernel
theorem d_Mpr_simple_57 : decode b_Mpr_simple 57 = .ok (.iconst 0, 1) := by decide +kernel
theorem d_Mpr_simple_58 : decode b_Mpr_simple 58 = .ok (.ireturn, 1) := by decide +kernel
theorem d_Mpr_simple_59 : decode b_Mpr_simple 59 = .ok (.iload_n 1, 1) := by decide +kernel
theorem d_Mpr_simple_60 : decode b_Mpr_simple 60 = .ok (.invokestatic 223, 3) := by decide +kernel
theorem d_Mpr_simple_63 : decode b_Mpr_simple 63 = .ok (.iload_n 2, 1) := by decide +kernel
theorem d_Mpr_simple_64 : decode b_Mpr_simple 64 = .ok (.invokestatic 223, 3) := by decide +kernel
theorem d_Mpr_simple_67 : decode b_Mpr_simple 67 = .ok (.lcmp, 1) := by decide +kernel
theorem d_Mpr_simple_68 : decode b_Mpr_simple 68 = .ok (.ifCond .ge 7, 3) := by decide +kernel
theorem d_Mpr_simple_71 : decode b_Mpr_simple 71 = .ok (.iconst 1, 1) := by decide +kernel
theorem d_Mpr_simple_72 : decode b_Mpr_simple 72 = .ok (.goto 4, 3) := by decide +kernel
theorem d_Mpr_simple_75 : decode b_Mpr_simple 75 = .ok (.iconst 0, 1) := by decide +kernel
theorem d_Mpr_simple_76 : decode b_Mpr_simple 76 = .ok (.ireturn, 1) := by decide +kernel
theorem d_Mpr_simple_77 : decode b_Mpr_simple 77 = .ok (.iload_n 1, 1) := by decide +kernel
theorem d_Mpr_simple_78 : decode b_Mpr_simple 78 = .ok (.iload_n 2, 1) := by decide +kernel
theorem d_Mpr_simple_79 : decode b_Mpr_simple 79 = .ok (.ixor, 1) := by decide +kernel
theorem d_Mpr_simple_80 : decode b_Mpr_simple 80 = .ok (.ireturn, 1) := by decide +kernel
theorem d_Mpr_simple_81 : decode b_Mpr_simple 81 = .ok (.iload_n 1, 1) := by decide +kernel
theorem d_Mpr_simple_82 : decode b_Mpr_simple 82 = .ok (.iload_n 2, 1) := by decide +kernel
theorem d_Mpr_simple_83 : decode b_Mpr_simple 83 = .ok (.ior, 1) := by decide +kernel
theorem d_Mpr_simple_84 : decode b_Mpr_simple 84 = .ok (.ireturn, 1) := by decide +kernel
theorem d_Mpr_simple_85 : decode b_Mpr_simple 85 = .ok (.iload_n 1, 1) := by decide +kernel
theorem d_Mpr_simple_86 : decode b_Mpr_simple 86 = .ok (.iload_n 2, 1) := by decide +kernel
theorem d_Mpr_simple_87 : decode b_Mpr_simple 87 = .ok (.iand, 1) := by decide +kernel
theorem d_Mpr_simple_88 : decode b_Mpr_simple 88 = .ok (.ireturn, 1) := by decide +kernel
theorem q_Mpr_simple : px_y y_Mpr_simple 3 := by unfold px_y; decide +kernel
set_option maxHeartbeats 4000000 in
set_option maxRecDepth 100000 in
theorem c_mr_simple (l : Launch) (D : va_G) (cs : Nat → ClassId)  (p0 p1 p2 : Int32)   : MetI l y_Mpr_simple b_Mpr_simple 3 (.int) D cs 1 30 (0) (0) [.int p0, .int p1, .int p2] [] (fun _ => True) (fun v ps => (ps = [])) := by
  refine px_enter (by decide) (Nat.le_of_ble_eq_true rfl) ?_
  intro p e s m below meth c A ls hAe S hr hlk hnm hA hT hX hw hl
  replace hl : lv_has ls 3 [(0, .int p0), (1, .int p1), (2, .int p2)] := hl
  have lp0 := Int32.le_toInt p0
  have up0 := Int32.toInt_lt p0
  have lp1 := Int32.le_toInt p1
  have up1 := Int32.toInt_lt p1
  have lp2 := Int32.le_toInt p2
  have up2 := Int32.toInt_lt p2
  have cst0 : (0 : Int32).toInt = 0 := rfl
  have cst1 : (1 : Int32).toInt = 1 := rfl
  refine lv_iload_n S.x S.b d_Mpr_simple_0 rfl (lv_at hl 0 rfl) ?_
  refine px_tableK S (dt := 85) [(44, [0]), (85, [1, 5]), (48, [2]), (59, [3]), (77, [4]), (81, [6])] d_Mpr_simple_1 (by decide +kernel) (by decide) (by decide +kernel) ?_ ?_
  ·
    refine lv_iload_n S.x S.b d_Mpr_simple_85 rfl (lv_at hl 1 rfl) ?_
    refine lv_iload_n S.x S.b d_Mpr_simple_86 rfl (lv_at hl 2 rfl) ?_
    refine lv_iand S.x S.b d_Mpr_simple_87 ?_
    refine lv_topi (fun z1 ez1 => ?_)
    have lz1 := Int32.le_toInt z1
    have uz1 := Int32.toInt_lt z1
    exact px_iret (v := z1) S hr rfl hlk hAe hw (Nat.le_of_ble_eq_true rfl) (Nat.le_of_ble_eq_true rfl) (rfl) d_Mpr_simple_88
  · refine List.forall_mem_cons.mpr ⟨fun c2 => ?_, List.forall_mem_cons.mpr ⟨fun c2 => ?_, List.forall_mem_cons.mpr ⟨fun c2 => ?_, List.forall_mem_cons.mpr ⟨fun c2 => ?_, List.forall_mem_cons.mpr ⟨fun c2 => ?_, List.forall_mem_cons.mpr ⟨fun c2 => ?_, fun _ h => absurd h List.not_mem_nil⟩⟩⟩⟩⟩⟩
    · simp only [List.mem_cons, List.not_mem_nil, or_false] at c2
      refine lv_iload_n S.x S.b d_Mpr_simple_44 rfl (lv_at hl 1 rfl) ?_
      refine lv_iload_n S.x S.b d_Mpr_simple_45 rfl (lv_at hl 2 rfl) ?_
      refine lv_iadd S.x S.b d_Mpr_simple_46 ?_
      refine lv_topi (fun z3 ez3 => ?_)
      have tz3 : z3.toInt = (p1.toInt + p2.toInt + 2147483648) % 4294967296 - 2147483648 := by rw [ez3]; exact i_add p1 p2
      have lz3 := Int32.le_toInt z3
      have uz3 := Int32.toInt_lt z3
      try replace tz3 : z3.toInt = p1.toInt + p2.toInt := by omega
      exact px_iret (v := z3) S hr rfl hlk hAe hw (Nat.le_of_ble_eq_true rfl) (Nat.le_of_ble_eq_true rfl) (rfl) d_Mpr_simple_47
    · simp only [List.mem_cons, List.not_mem_nil, or_false] at c2
      refine lv_iload_n S.x S.b d_Mpr_simple_85 rfl (lv_at hl 1 rfl) ?_
      refine lv_iload_n S.x S.b d_Mpr_simple_86 rfl (lv_at hl 2 rfl) ?_
      refine lv_iand S.x S.b d_Mpr_simple_87 ?_
      refine lv_topi (fun z4 ez4 => ?_)
      have lz4 := Int32.le_toInt z4
      have uz4 := Int32.toInt_lt z4
      exact px_iret (v := z4) S hr rfl hlk hAe hw (Nat.le_of_ble_eq_true rfl) (Nat.le_of_ble_eq_true rfl) (rfl) d_Mpr_simple_88
    · simp only [List.mem_cons, List.not_mem_nil, or_false] at c2
      refine lv_iload_n S.x S.b d_Mpr_simple_48 rfl (lv_at hl 1 rfl) ?_
      refine lv_iload_n S.x S.b d_Mpr_simple_49 rfl (lv_at hl 2 rfl) ?_
      refine lv_icmp_ge (tgt := 57) S.x S.b d_Mpr_simple_50 (by decide) (fun c5 => ?_) (fun c5 => ?_)
      · have nc5 : p2.toInt ≤ p1.toInt := (i_le (x := p2) (y := p1)).mp c5
        refine lv_iconst (v := 0) S.x S.b d_Mpr_simple_57 (by decide) ?_
        exact px_iret (v := 0) S hr rfl hlk hAe hw (Nat.le_of_ble_eq_true rfl) (Nat.le_of_ble_eq_true rfl) (rfl) d_Mpr_simple_58
      · have nc5 : ¬ p2.toInt ≤ p1.toInt := mt (i_le (x := p2) (y := p1)).mpr c5
        refine lv_iconst (v := 1) S.x S.b d_Mpr_simple_53 (by decide) ?_
        refine lv_goto (tgt := 58) S.x S.b d_Mpr_simple_54 (by decide) ?_
        exact px_iret (v := 1) S hr rfl hlk hAe hw (Nat.le_of_ble_eq_true rfl) (Nat.le_of_ble_eq_true rfl) (rfl) d_Mpr_simple_58
    · simp only [List.mem_cons, List.not_mem_nil, or_false] at c2
      refine lv_iload_n S.x S.b d_Mpr_simple_59 rfl (lv_at hl 1 rfl) ?_
      refine px_calll (pr := []) (px_runS (As := [.int p1]) (rest := []) S (c_mr_plain l D cs  p1   _) hT (pr := []) (pcs := []) hw px_X.tt m13_188 m13_186 m13_187 m1_22 q_Mpr_plain ⟨Nat.le_of_ble_eq_true rfl, Nat.le_of_ble_eq_true rfl⟩ hl.1 rfl (Nat.le_of_ble_eq_true rfl) d_Mpr_simple_60 ⟨Nat.le_of_ble_eq_true rfl, Nat.le_of_ble_eq_true rfl⟩) hw hA (fun v7 p6 H locs hp6 hw => ?_)
      obtain ⟨rfl, e8⟩ := hp6
      replace e8 : v7.toInt = p1.toInt % 4294967296 := e8
      replace hw : pw D A s.heap H locs [] := hw
      refine lv_iload_n S.x S.b d_Mpr_simple_63 rfl (lv_at hl 2 rfl) ?_
      refine px_calll (pr := []) (px_runS (As := [.int p2]) (rest := [.long v7]) S (c_mr_plain l D cs  p2   _) hT (pr := []) (pcs := []) hw px_X.tt m13_188 m13_186 m13_187 m1_22 q_Mpr_plain ⟨Nat.le_of_ble_eq_true rfl, Nat.le_of_ble_eq_true rfl⟩ hl.1 rfl (Nat.le_of_ble_eq_true rfl) d_Mpr_simple_64 ⟨Nat.le_of_ble_eq_true rfl, Nat.le_of_ble_eq_true rfl⟩) hw hA (fun v10 p9 H locs hp9 hw => ?_)
      obtain ⟨rfl, e11⟩ := hp9
      replace e11 : v10.toInt = p2.toInt % 4294967296 := e11
      replace hw : pw D A s.heap H locs [] := hw
      refine W.lcmp S.x S.b d_Mpr_simple_67 ?_
      refine lv_topi (fun z12 ez12 => ?_)
      have lz12 := Int32.le_toInt z12
      have uz12 := Int32.toInt_lt z12
      refine lv_if_ge (tgt := 75) S.x S.b d_Mpr_simple_68 (by decide) (fun c13 => ?_) (fun c13 => ?_)
      · have nc13 : (0 : Int) ≤ z12.toInt := (i_le (x := 0) (y := z12)).mp c13
        refine lv_iconst (v := 0) S.x S.b d_Mpr_simple_75 (by decide) ?_
        exact px_iret (v := 0) S hr rfl hlk hAe hw (Nat.le_of_ble_eq_true rfl) (Nat.le_of_ble_eq_true rfl) (rfl) d_Mpr_simple_76
      · have nc13 : ¬ (0 : Int) ≤ z12.toInt := mt (i_le (x := 0) (y := z12)).mpr c13
        refine lv_iconst (v := 1) S.x S.b d_Mpr_simple_71 (by decide) ?_
        refine lv_goto (tgt := 76) S.x S.b d_Mpr_simple_72 (by decide) ?_
        exact px_iret (v := 1) S hr rfl hlk hAe hw (Nat.le_of_ble_eq_true rfl) (Nat.le_of_ble_eq_true rfl) (rfl) d_Mpr_simple_76
    · simp only [List.mem_cons, List.not_mem_nil, or_false] at c2
      refine lv_iload_n S.x S.b d_Mpr_simple_77 rfl (lv_at hl 1 rfl) ?_
      refine lv_iload_n S.x S.b d_Mpr_simple_78 rfl (lv_at hl 2 rfl) ?_
      refine lv_ixor S.x S.b d_Mpr_simple_79 ?_
      refine lv_topi (fun z14 ez14 => ?_)
      have lz14 := Int32.le_toInt z14
      have uz14 := Int32.toInt_lt z14
      exact px_iret (v := z14) S hr rfl hlk hAe hw (Nat.le_of_ble_eq_true rfl) (Nat.le_of_ble_eq_true rfl) (rfl) d_Mpr_simple_80
    · simp only [List.mem_cons, List.not_mem_nil, or_false] at c2
      refine lv_iload_n S.x S.b d_Mpr_simple_81 rfl (lv_at hl 1 rfl) ?_
      refine lv_iload_n S.x S.b d_Mpr_simple_82 rfl (lv_at hl 2 rfl) ?_
      refine lv_ior S.x S.b d_Mpr_simple_83 ?_
      refine lv_topi (fun z15 ez15 => ?_)
      have lz15 := Int32.le_toInt z15
      have uz15 := Int32.toInt_lt z15
      exact px_iret (v := z15) S hr rfl hlk hAe hw (Nat.le_of_ble_eq_true rfl) (Nat.le_of_ble_eq_true rfl) (rfl) d_Mpr_simple_84
abbrev b_Mpr_product : ByteArray := prog_15_method_43_code
def y_Mpr_product : MethodName := ⟨"HomeSystemModel$Process", "product", "(III)I"⟩
theorem d_Mpr_product_0 : decode b_Mpr_product 0 = .ok (.iload_n 0, 1) := by decide +kernel
theorem d_Mpr_product_1 : decode b_Mpr_product 1 = .ok (.ifCond .ne 7, 3) := by decide +kernel
theorem d_Mpr_product_4 : decode b_Mpr_product 4 = .ok (.iload_n 1, 1) := by decide +kernel
theorem d_Mpr_product_5 : decode b_Mpr_product 5 = .ok (.iload_n 2, 1) := by decide +kernel
theorem d_Mpr_product_6 : decode b_Mpr_product 6 = .ok (.imul, 1) := by decide +kernel
theorem d_Mpr_product_7 : decode b_Mpr_product 7 = .ok (.ireturn, 1) := by decide +kernel
theorem d_Mpr_product_8 : decode b_Mpr_product 8 = .ok (.iload_n 1, 1) := by decide +kernel
theorem d_Mpr_product_9 : decode b_Mpr_product 9 = .ok (.invokestatic 223, 3) := by decide +kernel
theorem d_Mpr_product_12 : decode b_Mpr_product 12 = .ok (.lstore_n 3, 1) := by decide +kernel
theorem d_Mpr_product_13 : decode b_Mpr_product 13 = .ok (.iload_n 2, 1) := by decide +kernel
theorem d_Mpr_product_14 : decode b_Mpr_product 14 = .ok (.invokestatic 223, 3) := by decide +kernel
theorem d_Mpr_product_17 : decode b_Mpr_product 17 = .ok (.lstore 5, 2) := by decide +kernel
theorem d_Mpr_product_19 : decode b_Mpr_product 19 = .ok (.lload_n 3, 1) := by decide +kernel
theorem d_Mpr_product_20 : decode b_Mpr_product 20 = .ok (.ldc2_w 317, 3) := by decide +kernel
theorem d_Mpr_product_23 : decode b_Mpr_product 23 = .ok (.land, 1) := by decide +kernel
theorem d_Mpr_product_24 : decode b_Mpr_product 24 = .ok (.lload 5, 2) := by decide +kernel
theorem d_Mpr_product_26 : decode b_Mpr_product 26 = .ok (.ldc2_w 317, 3) := by decide +kernel
theorem d_Mpr_product_29 : decode b_Mpr_product 29 = .ok (.land, 1) := by decide +kernel
theorem d_Mpr_product_30 : decode b_Mpr_product 30 = .ok (.lmul, 1) := by decide +kernel
theorem d_Mpr_product_31 : decode b_Mpr_product 31 = .ok (.lstore 7, 2) := by decide +kernel
theorem d_Mpr_product_33 : decode b_Mpr_product 33 = .ok (.lload_n 3, 1) := by decide +kernel
theorem d_Mpr_product_34 : decode b_Mpr_product 34 = .ok (.bipush 16, 2) := by decide +kernel
theorem d_Mpr_product_36 : decode b_Mpr_product 36 = .ok (.lshr, 1) := by decide +kernel
theorem d_Mpr_product_37 : decode b_Mpr_product 37 = .ok (.lload 5, 2) := by decide +kernel
theorem d_Mpr_product_39 : decode b_Mpr_product 39 = .ok (.ldc2_w 317, 3) := by decide +kernel
theorem d_Mpr_product_42 : decode b_Mpr_product 42 = .ok (.land, 1) := by decide +kernel
theorem d_Mpr_product_43 : decode b_Mpr_product 43 = .ok (.lmul, 1) := by decide +kernel
theorem d_Mpr_product_44 : decode b_Mpr_product 44 = .ok (.lload 7, 2) := by decide +kernel
theorem d_Mpr_product_46 : decode b_Mpr_product 46 = .ok (.bipush 16, 2) := by decide +kernel
theorem d_Mpr_product_48 : decode b_Mpr_product 48 = .ok (.lshr, 1) := by decide +kernel
theorem d_Mpr_product_49 : decode b_Mpr_product 49 = .ok (.ladd, 1) := by decide +kernel
theorem d_Mpr_product_50 : decode b_Mpr_product 50 = .ok (.lstore 9, 2) := by decide +kernel
theorem d_Mpr_product_52 : decode b_Mpr_product 52 = .ok (.lload_n 3, 1) := by decide +kernel
theorem d_Mpr_product_53 : decode b_Mpr_product 53 = .ok (.ldc2_w 317, 3) := by decide +kernel
theorem d_Mpr_product_56 : decode b_Mpr_product 56 = .ok (.land, 1) := by decide +kernel
theorem d_Mpr_product_57 : decode b_Mpr_product 57 = .ok (.lload 5, 2) := by decide +kernel
theorem d_Mpr_product_59 : decode b_Mpr_product 59 = .ok (.bipush 16, 2) := by decide +kernel
theorem d_Mpr_product_61 : decode b_Mpr_product 61 = .ok (.lshr, 1) := by decide +kernel
theorem d_Mpr_product_62 : decode b_Mpr_product 62 = .ok (.lmul, 1) := by decide +kernel
theorem d_Mpr_product_63 : decode b_Mpr_product 63 = .ok (.lload 9, 2) := by decide +kernel
theorem d_Mpr_product_65 : decode b_Mpr_product 65 = .ok (.ldc2_w 317, 3) := by decide +kernel
theorem d_Mpr_product_68 : decode b_Mpr_product 68 = .ok (.land, 1) := by decide +kernel
theorem d_Mpr_product_69 : decode b_Mpr_product 69 = .ok (.ladd, 1) := by decide +kernel
theorem d_Mpr_product_70 : decode b_Mpr_product 70 = .ok (.lstore 11, 2) := by decide +kernel
theorem d_Mpr_product_72 : decode b_Mpr_product 72 = .ok (.lload_n 3, 1) := by decide +kernel
theorem d_Mpr_product_73 : decode b_Mpr_product 73 = .ok (.bipush 16, 2) := by decide +kernel
theorem d_Mpr_product_75 : decode b_Mpr_product 75 = .ok (.lshr, 1) := by decide +kernel
theorem d_Mpr_product_76 : decode b_Mpr_product 76 = .ok (.lload 5, 2) := by decide +kernel
theorem d_Mpr_product_78 : decode b_Mpr_product 78 = .ok (.bipush 16, 2) := by decide +kernel
theorem d_Mpr_product_80 : decode b_Mpr_product 80 = .ok (.lshr, 1) := by decide +kernel
theorem d_Mpr_product_81 : decode b_Mpr_product 81 = .ok (.lmul, 1) := by decide +kernel
theorem d_Mpr_product_82 : decode b_Mpr_product 82 = .ok (.lload 9, 2) := by decide +kernel
theorem d_Mpr_product_84 : decode b_Mpr_product 84 = .ok (.bipush 16, 2) := by decide +kernel
theorem d_Mpr_product_86 : decode b_Mpr_product 86 = .ok (.lshr, 1) := by decide +kernel
theorem d_Mpr_product_87 : decode b_Mpr_product 87 = .ok (.ladd, 1) := by decide +kernel
theorem d_Mpr_product_88 : decode b_Mpr_product 88 = .ok (.lload 11, 2) := by decide +kernel
theorem d_Mpr_product_90 : decode b_Mpr_product 90 = .ok (.bipush 16, 2) := by decide +kernel
theorem d_Mpr_product_92 : decode b_Mpr_product 92 = .ok (.lshr, 1) := by decide +kernel
theorem d_Mpr_product_93 : decode b_Mpr_product 93 = .ok (.ladd, 1) := by decide +kernel
theorem d_Mpr_product_94 : decode b_Mpr_product 94 = .ok (.l2i, 1) := by decide +kernel
theorem d_Mpr_product_95 : decode b_Mpr_product 95 = .ok (.istore 13, 2) := by decide +kernel
theorem d_Mpr_product_97 : decode b_Mpr_product 97 = .ok (.iload_n 0, 1) := by decide +kernel
theorem d_Mpr_product_98 : decode b_Mpr_product 98 = .ok (.iconst 3, 1) := by decide +kernel
theorem d_Mpr_product_99 : decode b_Mpr_product 99 = .ok (.if_icmp .ge 14, 3) := by decide +kernel
theorem d_Mpr_product_102 : decode b_Mpr_product 102 = .ok (.iload_n 1, 1) := by decide +kernel
theorem d_Mpr_product_103 : decode b_Mpr_product 103 = .ok (.ifCond .ge 10, 3) := by decide +kernel
theorem d_Mpr_product_106 : decode b_Mpr_product 106 = .ok (.iload 13, 2) := by decide +kernel
theorem d_Mpr_product_108 : decode b_Mpr_product 108 = .ok (.iload_n 2, 1) := by decide +kernel
theorem d_Mpr_product_109 : decode b_Mpr_product 109 = .ok (.isub, 1) := by decide +kernel
theorem d_Mpr_product_110 : decode b_Mpr_product 110 = .ok (.goto 5, 3) := by decide +kernel
theorem d_Mpr_product_113 : decode b_Mpr_product 113 = .ok (.iload 13, 2) := by decide +kernel
theorem d_Mpr_product_115 : decode b_Mpr_product 115 = .ok (.istore 13, 2) := by decide +kernel
theorem d_Mpr_product_117 : decode b_Mpr_product 117 = .ok (.iload_n 0, 1) := by decide +kernel
theorem d_Mpr_product_118 : decode b_Mpr_product 118 = .ok (.iconst 1, 1) := by decide +kernel
theorem d_Mpr_product_119 : decode b_Mpr_product 119 = .ok (.if_icmp .ne 14, 3) := by decide +kernel
theorem d_Mpr_product_122 : decode b_Mpr_product 122 = .ok (.iload_n 2, 1) := by decide +kernel
theorem d_Mpr_product_123 : decode b_Mpr_product 123 = .ok (.ifCond .ge 10, 3) := by decide +kernel
theorem d_Mpr_product_126 : decode b_Mpr_product 126 = .ok (.iload 13, 2) := by decide +kernel
theorem d_Mpr_product_128 : decode b_Mpr_product 128 = .ok (.iload_n 1, 1) := by decide +kernel
theorem d_Mpr_product_129 : decode b_Mpr_product 129 = .ok (.isub, 1) := by decide +kernel
theorem d_Mpr_product_130 : decode b_Mpr_product 130 = .ok (.goto 5, 3) := by decide +kernel
theorem d_Mpr_product_133 : decode b_Mpr_product 133 = .ok (.iload 13, 2) := by decide +kernel
theorem d_Mpr_product_135 : decode b_Mpr_product 135 = .ok (.ireturn, 1) := by decide +kernel
theorem q_Mpr_product : px_y y_Mpr_product 3 := by unfold px_y; decide +kernel
set_option maxHeartbeats 4000000 in
set_option maxRecDepth 100000 in
theorem c_mr_product (l : Launch) (D : va_G) (cs : Nat → ClassId)  (p0 p1 p2 : Int32)   : MetI l y_Mpr_product b_Mpr_product 14 (.int) D cs 1 30 (0) (0) [.int p0, .int p1, .int p2] [] (fun _ => True) (fun v ps => (ps = [])) := by
  refine px_enter (by decide) (Nat.le_of_ble_eq_true rfl) ?_
  intro p e s m below meth c A ls hAe S hr hlk hnm hA hT hX hw hl
  replace hl : lv_has ls 14 [(0, .int p0), (1, .int p1), (2, .int p2)] := hl
  have lp0 := Int32.le_toInt p0
  have up0 := Int32.toInt_lt p0
  have lp1 := Int32.le_toInt p1
  have up1 := Int32.toInt_lt p1
  have lp2 := Int32.le_toInt p2
  have up2 := Int32.toInt_lt p2
  have cst1 : (1 : Int32).toInt = 1 := rfl
  have cst3 : (3 : Int32).toInt = 3 := rfl
  have cst16 : (16 : Int32).toInt = 16 := rfl
  refine lv_iload_n S.x S.b d_Mpr_product_0 rfl (lv_at hl 0 rfl) ?_
  refine lv_if_ne (tgt := 8) S.x S.b d_Mpr_product_1 (by decide) (fun c1 => ?_) (fun c1 => ?_)
  · have nc1 : ¬ p0.toInt = (0 : Int) := mt (i_eq (x := p0) (y := 0)).mpr c1
    refine lv_iload_n S.x S.b d_Mpr_product_8 rfl (lv_at hl 1 rfl) ?_
    refine px_calll (pr := []) (px_runS (As := [.int p1]) (rest := []) S (c_mr_plain l D cs  p1   _) hT (pr := []) (pcs := []) hw px_X.tt m13_188 m13_186 m13_187 m1_22 q_Mpr_plain ⟨Nat.le_of_ble_eq_true rfl, Nat.le_of_ble_eq_true rfl⟩ hl.1 rfl (Nat.le_of_ble_eq_true rfl) d_Mpr_product_9 ⟨Nat.le_of_ble_eq_true rfl, Nat.le_of_ble_eq_true rfl⟩) hw hA (fun v3 p2 H locs hp2 hw => ?_)
    obtain ⟨rfl, e4⟩ := hp2
    replace e4 : v3.toInt = p1.toInt % 4294967296 := e4
    replace hw : pw D A s.heap H locs [] := hw
    refine lv_lstore_n (lv' := [(3, .long v3), (0, .int p0), (1, .int p1), (2, .int p2)]) S.x S.b d_Mpr_product_12 rfl hl (by decide) rfl (fun ls hl => ?_)
    refine lv_iload_n S.x S.b d_Mpr_product_13 rfl (lv_at hl 3 rfl) ?_
    refine px_calll (pr := []) (px_runS (As := [.int p2]) (rest := []) S (c_mr_plain l D cs  p2   _) hT (pr := []) (pcs := []) hw px_X.tt m13_188 m13_186 m13_187 m1_22 q_Mpr_plain ⟨Nat.le_of_ble_eq_true rfl, Nat.le_of_ble_eq_true rfl⟩ hl.1 rfl (Nat.le_of_ble_eq_true rfl) d_Mpr_product_14 ⟨Nat.le_of_ble_eq_true rfl, Nat.le_of_ble_eq_true rfl⟩) hw hA (fun v6 p5 H locs hp5 hw => ?_)
    obtain ⟨rfl, e7⟩ := hp5
    replace e7 : v6.toInt = p2.toInt % 4294967296 := e7
    replace hw : pw D A s.heap H locs [] := hw
    refine lv_lstore (lv' := [(5, .long v6), (3, .long v3), (0, .int p0), (1, .int p1), (2, .int p2)]) S.x S.b d_Mpr_product_17 hl (by decide) rfl (fun ls hl => ?_)
    refine lv_lload_n S.x S.b d_Mpr_product_19 rfl (lv_at hl 1 rfl) ?_
    refine lv_ldc2 (v := 65535) S.x S.b S.own (S.w m14_27) d_Mpr_product_20 ?_
    refine lv_land S.x S.b d_Mpr_product_23 ?_
    refine lv_topl (fun z8 ez8 => ?_)
    refine lv_lload S.x S.b d_Mpr_product_24 (lv_at hl 0 rfl) ?_
    refine lv_ldc2 (v := 65535) S.x S.b S.own (S.w m14_27) d_Mpr_product_26 ?_
    refine lv_land S.x S.b d_Mpr_product_29 ?_
    refine lv_topl (fun z9 ez9 => ?_)
    refine lv_lmul S.x S.b d_Mpr_product_30 ?_
    refine lv_topl (fun z10 ez10 => ?_)
    refine lv_lstore (lv' := [(7, .long z10), (5, .long v6), (3, .long v3), (0, .int p0), (1, .int p1), (2, .int p2)]) S.x S.b d_Mpr_product_31 hl (by decide) rfl (fun ls hl => ?_)
    refine lv_lload_n S.x S.b d_Mpr_product_33 rfl (lv_at hl 2 rfl) ?_
    refine lv_bipush (v := 16) S.x S.b d_Mpr_product_34 (by decide) ?_
    refine lv_lshr S.x S.b d_Mpr_product_36 rfl ?_
    refine lv_topl (fun z11 ez11 => ?_)
    refine lv_lload S.x S.b d_Mpr_product_37 (lv_at hl 1 rfl) ?_
    refine lv_ldc2 (v := 65535) S.x S.b S.own (S.w m14_27) d_Mpr_product_39 ?_
    refine lv_land S.x S.b d_Mpr_product_42 ?_
    refine lv_topl (fun z12 ez12 => ?_)
    refine lv_lmul S.x S.b d_Mpr_product_43 ?_
    refine lv_topl (fun z13 ez13 => ?_)
    refine lv_lload S.x S.b d_Mpr_product_44 (lv_at hl 0 rfl) ?_
    refine lv_bipush (v := 16) S.x S.b d_Mpr_product_46 (by decide) ?_
    refine lv_lshr S.x S.b d_Mpr_product_48 rfl ?_
    refine lv_topl (fun z14 ez14 => ?_)
    refine lv_ladd S.x S.b d_Mpr_product_49 ?_
    refine lv_topl (fun z15 ez15 => ?_)
    refine lv_lstore (lv' := [(9, .long z15), (7, .long z10), (5, .long v6), (3, .long v3), (0, .int p0), (1, .int p1), (2, .int p2)]) S.x S.b d_Mpr_product_50 hl (by decide) rfl (fun ls hl => ?_)
    refine lv_lload_n S.x S.b d_Mpr_product_52 rfl (lv_at hl 3 rfl) ?_
    refine lv_ldc2 (v := 65535) S.x S.b S.own (S.w m14_27) d_Mpr_product_53 ?_
    refine lv_land S.x S.b d_Mpr_product_56 ?_
    refine lv_topl (fun z16 ez16 => ?_)
    refine lv_lload S.x S.b d_Mpr_product_57 (lv_at hl 2 rfl) ?_
    refine lv_bipush (v := 16) S.x S.b d_Mpr_product_59 (by decide) ?_
    refine lv_lshr S.x S.b d_Mpr_product_61 rfl ?_
    refine lv_topl (fun z17 ez17 => ?_)
    refine lv_lmul S.x S.b d_Mpr_product_62 ?_
    refine lv_topl (fun z18 ez18 => ?_)
    refine lv_lload S.x S.b d_Mpr_product_63 (lv_at hl 0 rfl) ?_
    refine lv_ldc2 (v := 65535) S.x S.b S.own (S.w m14_27) d_Mpr_product_65 ?_
    refine lv_land S.x S.b d_Mpr_product_68 ?_
    refine lv_topl (fun z19 ez19 => ?_)
    refine lv_ladd S.x S.b d_Mpr_product_69 ?_
    refine lv_topl (fun z20 ez20 => ?_)
    refine lv_lstore (lv' := [(11, .long z20), (9, .long z15), (7, .long z10), (5, .long v6), (3, .long v3), (0, .int p0), (1, .int p1), (2, .int p2)]) S.x S.b d_Mpr_product_70 hl (by decide) rfl (fun ls hl => ?_)
    refine lv_lload_n S.x S.b d_Mpr_product_72 rfl (lv_at hl 4 rfl) ?_
    refine lv_bipush (v := 16) S.x S.b d_Mpr_product_73 (by decide) ?_
    refine lv_lshr S.x S.b d_Mpr_product_75 rfl ?_
    refine lv_topl (fun z21 ez21 => ?_)
    refine lv_lload S.x S.b d_Mpr_product_76 (lv_at hl 3 rfl) ?_
    refine lv_bipush (v := 16) S.x S.b d_Mpr_product_78 (by decide) ?_
    refine lv_lshr S.x S.b d_Mpr_product_80 rfl ?_
    refine lv_topl (fun z22 ez22 => ?_)
    refine lv_lmul S.x S.b d_Mpr_product_81 ?_
    refine lv_topl (fun z23 ez23 => ?_)
    refine lv_lload S.x S.b d_Mpr_product_82 (lv_at hl 1 rfl) ?_
    refine lv_bipush (v := 16) S.x S.b d_Mpr_product_84 (by decide) ?_
    refine lv_lshr S.x S.b d_Mpr_product_86 rfl ?_
    refine lv_topl (fun z24 ez24 => ?_)
    refine lv_ladd S.x S.b d_Mpr_product_87 ?_
    refine lv_topl (fun z25 ez25 => ?_)
    refine lv_lload S.x S.b d_Mpr_product_88 (lv_at hl 0 rfl) ?_
    refine lv_bipush (v := 16) S.x S.b d_Mpr_product_90 (by decide) ?_
    refine lv_lshr S.x S.b d_Mpr_product_92 rfl ?_
    refine lv_topl (fun z26 ez26 => ?_)
    refine lv_ladd S.x S.b d_Mpr_product_93 ?_
    refine lv_topl (fun z27 ez27 => ?_)
    refine lv_l2i S.x S.b d_Mpr_product_94 rfl ?_
    refine lv_topi (fun z28 ez28 => ?_)
    have lz28 := Int32.le_toInt z28
    have uz28 := Int32.toInt_lt z28
    refine lv_istore (lv' := [(13, .int z28), (11, .long z20), (9, .long z15), (7, .long z10), (5, .long v6), (3, .long v3), (0, .int p0), (1, .int p1), (2, .int p2)]) S.x S.b d_Mpr_product_95 hl (by decide) rfl (fun ls hl => ?_)
    refine lv_iload_n S.x S.b d_Mpr_product_97 rfl (lv_at hl 6 rfl) ?_
    refine lv_iconst (v := 3) S.x S.b d_Mpr_product_98 (by decide) ?_
    refine lv_icmp_ge (tgt := 113) S.x S.b d_Mpr_product_99 (by decide) (fun c29 => ?_) (fun c29 => ?_)
    · have nc29 : (3 : Int) ≤ p0.toInt := (i_le (x := 3) (y := p0)).mp c29
      refine lv_iload S.x S.b d_Mpr_product_113 (lv_at hl 0 rfl) ?_
      refine lv_istore (lv' := [(13, .int z28), (11, .long z20), (9, .long z15), (7, .long z10), (5, .long v6), (3, .long v3), (0, .int p0), (1, .int p1), (2, .int p2)]) S.x S.b d_Mpr_product_115 hl (by decide) rfl (fun ls hl => ?_)
      refine lv_iload_n S.x S.b d_Mpr_product_117 rfl (lv_at hl 6 rfl) ?_
      refine lv_iconst (v := 1) S.x S.b d_Mpr_product_118 (by decide) ?_
      refine lv_icmp_ne (tgt := 133) S.x S.b d_Mpr_product_119 (by decide) (fun c30 => ?_) (fun c30 => ?_)
      · have nc30 : ¬ p0.toInt = (1 : Int) := mt (i_eq (x := p0) (y := 1)).mpr c30
        refine lv_iload S.x S.b d_Mpr_product_133 (lv_at hl 0 rfl) ?_
        exact px_iret (v := z28) S hr rfl hlk hAe hw (Nat.le_of_ble_eq_true rfl) (Nat.le_of_ble_eq_true rfl) (rfl) d_Mpr_product_135
      · have nc30 : p0.toInt = (1 : Int) := (i_eq (x := p0) (y := 1)).mp c30
        refine lv_iload_n S.x S.b d_Mpr_product_122 rfl (lv_at hl 8 rfl) ?_
        refine lv_if_ge (tgt := 133) S.x S.b d_Mpr_product_123 (by decide) (fun c31 => ?_) (fun c31 => ?_)
        · have nc31 : (0 : Int) ≤ p2.toInt := (i_le (x := 0) (y := p2)).mp c31
          refine lv_iload S.x S.b d_Mpr_product_133 (lv_at hl 0 rfl) ?_
          exact px_iret (v := z28) S hr rfl hlk hAe hw (Nat.le_of_ble_eq_true rfl) (Nat.le_of_ble_eq_true rfl) (rfl) d_Mpr_product_135
        · have nc31 : ¬ (0 : Int) ≤ p2.toInt := mt (i_le (x := 0) (y := p2)).mpr c31
          refine lv_iload S.x S.b d_Mpr_product_126 (lv_at hl 0 rfl) ?_
          refine lv_iload_n S.x S.b d_Mpr_product_128 rfl (lv_at hl 7 rfl) ?_
          refine lv_isub S.x S.b d_Mpr_product_129 ?_
          refine lv_topi (fun z32 ez32 => ?_)
          have tz32 : z32.toInt = (z28.toInt - p1.toInt + 2147483648) % 4294967296 - 2147483648 := by rw [ez32]; exact i_sub z28 p1
          have lz32 := Int32.le_toInt z32
          have uz32 := Int32.toInt_lt z32
          try replace tz32 : z32.toInt = z28.toInt - p1.toInt := by omega
          refine lv_goto (tgt := 135) S.x S.b d_Mpr_product_130 (by decide) ?_
          exact px_iret (v := z32) S hr rfl hlk hAe hw (Nat.le_of_ble_eq_true rfl) (Nat.le_of_ble_eq_true rfl) (rfl) d_Mpr_product_135
    · have nc29 : ¬ (3 : Int) ≤ p0.toInt := mt (i_le (x := 3) (y := p0)).mpr c29
      refine lv_iload_n S.x S.b d_Mpr_product_102 rfl (lv_at hl 7 rfl) ?_
      refine lv_if_ge (tgt := 113) S.x S.b d_Mpr_product_103 (by decide) (fun c33 => ?_) (fun c33 => ?_)
      · have nc33 : (0 : Int) ≤ p1.toInt := (i_le (x := 0) (y := p1)).mp c33
        refine lv_iload S.x S.b d_Mpr_product_113 (lv_at hl 0 rfl) ?_
        refine lv_istore (lv' := [(13, .int z28), (11, .long z20), (9, .long z15), (7, .long z10), (5, .long v6), (3, .long v3), (0, .int p0), (1, .int p1), (2, .int p2)]) S.x S.b d_Mpr_product_115 hl (by decide) rfl (fun ls hl => ?_)
        refine lv_iload_n S.x S.b d_Mpr_product_117 rfl (lv_at hl 6 rfl) ?_
        refine lv_iconst (v := 1) S.x S.b d_Mpr_product_118 (by decide) ?_
        refine lv_icmp_ne (tgt := 133) S.x S.b d_Mpr_product_119 (by decide) (fun c34 => ?_) (fun c34 => ?_)
        · have nc34 : ¬ p0.toInt = (1 : Int) := mt (i_eq (x := p0) (y := 1)).mpr c34
          refine lv_iload S.x S.b d_Mpr_product_133 (lv_at hl 0 rfl) ?_
          exact px_iret (v := z28) S hr rfl hlk hAe hw (Nat.le_of_ble_eq_true rfl) (Nat.le_of_ble_eq_true rfl) (rfl) d_Mpr_product_135
        · have nc34 : p0.toInt = (1 : Int) := (i_eq (x := p0) (y := 1)).mp c34
          refine lv_iload_n S.x S.b d_Mpr_product_122 rfl (lv_at hl 8 rfl) ?_
          refine lv_if_ge (tgt := 133) S.x S.b d_Mpr_product_123 (by decide) (fun c35 => ?_) (fun c35 => ?_)
          · have nc35 : (0 : Int) ≤ p2.toInt := (i_le (x := 0) (y := p2)).mp c35
            refine lv_iload S.x S.b d_Mpr_product_133 (lv_at hl 0 rfl) ?_
            exact px_iret (v := z28) S hr rfl hlk hAe hw (Nat.le_of_ble_eq_true rfl) (Nat.le_of_ble_eq_true rfl) (rfl) d_Mpr_product_135
          · have nc35 : ¬ (0 : Int) ≤ p2.toInt := mt (i_le (x := 0) (y := p2)).mpr c35
            refine lv_iload S.x S.b d_Mpr_product_126 (lv_at hl 0 rfl) ?_
            refine lv_iload_n S.x S.b d_Mpr_product_128 rfl (lv_at hl 7 rfl) ?_
            refine lv_isub S.x S.b d_Mpr_product_129 ?_
            refine lv_topi (fun z36 ez36 => ?_)
            have tz36 : z36.toInt = (z28.toInt - p1.toInt + 2147483648) % 4294967296 - 2147483648 := by rw [ez36]; exact i_sub z28 p1
            have lz36 := Int32.le_toInt z36
            have uz36 := Int32.toInt_lt z36
            try replace tz36 : z36.toInt = z28.toInt - p1.toInt := by omega
            refine lv_goto (tgt := 135) S.x S.b d_Mpr_product_130 (by decide) ?_
            exact px_iret (v := z36) S hr rfl hlk hAe hw (Nat.le_of_ble_eq_true rfl) (Nat.le_of_ble_eq_true rfl) (rfl) d_Mpr_product_135
      · have nc33 : ¬ (0 : Int) ≤ p1.toInt := mt (i_le (x := 0) (y := p1)).mpr c33
        refine lv_iload S.x S.b d_Mpr_product_106 (lv_at hl 0 rfl) ?_
        refine lv_iload_n S.x S.b d_Mpr_product_108 rfl (lv_at hl 8 rfl) ?_
        refine lv_isub S.x S.b d_Mpr_product_109 ?_
        refine lv_topi (fun z37 ez37 => ?_)
        have tz37 : z37.toInt = (z28.toInt - p2.toInt + 2147483648) % 4294967296 - 2147483648 := by rw [ez37]; exact i_sub z28 p2
        have lz37 := Int32.le_toInt z37
        have uz37 := Int32.toInt_lt z37
        try replace tz37 : z37.toInt = z28.toInt - p2.toInt := by omega
        refine lv_goto (tgt := 115) S.x S.b d_Mpr_product_110 (by decide) ?_
        refine lv_istore (lv' := [(13, .int z37), (11, .long z20), (9, .long z15), (7, .long z10), (5, .long v6), (3, .long v3), (0, .int p0), (1, .int p1), (2, .int p2)]) S.x S.b d_Mpr_product_115 hl (by decide) rfl (fun ls hl => ?_)
        refine lv_iload_n S.x S.b d_Mpr_product_117 rfl (lv_at hl 6 rfl) ?_
        refine lv_iconst (v := 1) S.x S.b d_Mpr_product_118 (by decide) ?_
        refine lv_icmp_ne (tgt := 133) S.x S.b d_Mpr_product_119 (by decide) (fun c38 => ?_) (fun c38 => ?_)
        · have nc38 : ¬ p0.toInt = (1 : Int) := mt (i_eq (x := p0) (y := 1)).mpr c38
          refine lv_iload S.x S.b d_Mpr_product_133 (lv_at hl 0 rfl) ?_
          exact px_iret (v := z37) S hr rfl hlk hAe hw (Nat.le_of_ble_eq_true rfl) (Nat.le_of_ble_eq_true rfl) (rfl) d_Mpr_product_135
        · have nc38 : p0.toInt = (1 : Int) := (i_eq (x := p0) (y := 1)).mp c38
          refine lv_iload_n S.x S.b d_Mpr_product_122 rfl (lv_at hl 8 rfl) ?_
          refine lv_if_ge (tgt := 133) S.x S.b d_Mpr_product_123 (by decide) (fun c39 => ?_) (fun c39 => ?_)
          · have nc39 : (0 : Int) ≤ p2.toInt := (i_le (x := 0) (y := p2)).mp c39
            refine lv_iload S.x S.b d_Mpr_product_133 (lv_at hl 0 rfl) ?_
            exact px_iret (v := z37) S hr rfl hlk hAe hw (Nat.le_of_ble_eq_true rfl) (Nat.le_of_ble_eq_true rfl) (rfl) d_Mpr_product_135
          · have nc39 : ¬ (0 : Int) ≤ p2.toInt := mt (i_le (x := 0) (y := p2)).mpr c39
            refine lv_iload S.x S.b d_Mpr_product_126 (lv_at hl 0 rfl) ?_
            refine lv_iload_n S.x S.b d_Mpr_product_128 rfl (lv_at hl 7 rfl) ?_
            refine lv_isub S.x S.b d_Mpr_product_129 ?_
            refine lv_topi (fun z40 ez40 => ?_)
            have tz40 : z40.toInt = (z37.toInt - p1.toInt + 2147483648) % 4294967296 - 2147483648 := by rw [ez40]; exact i_sub z37 p1
            have lz40 := Int32.le_toInt z40
            have uz40 := Int32.toInt_lt z40
            try replace tz40 : z40.toInt = z37.toInt - p1.toInt := by omega
            refine lv_goto (tgt := 135) S.x S.b d_Mpr_product_130 (by decide) ?_
            exact px_iret (v := z40) S hr rfl hlk hAe hw (Nat.le_of_ble_eq_true rfl) (Nat.le_of_ble_eq_true rfl) (rfl) d_Mpr_product_135
  · have nc1 : p0.toInt = (0 : Int) := (i_eq (x := p0) (y := 0)).mp c1
    refine lv_iload_n S.x S.b d_Mpr_product_4 rfl (lv_at hl 1 rfl) ?_
    refine lv_iload_n S.x S.b d_Mpr_product_5 rfl (lv_at hl 2 rfl) ?_
    refine lv_imul S.x S.b d_Mpr_product_6 ?_
    refine lv_topi (fun z41 ez41 => ?_)
    have lz41 := Int32.le_toInt z41
    have uz41 := Int32.toInt_lt z41
    exact px_iret (v := z41) S hr rfl hlk hAe hw (Nat.le_of_ble_eq_true rfl) (Nat.le_of_ble_eq_true rfl) (rfl) d_Mpr_product_7
abbrev b_Mpr_quotient : ByteArray := prog_15_method_44_code
def y_Mpr_quotient : MethodName := ⟨"HomeSystemModel$Process", "quotient", "(III)I"⟩
theorem d_Mpr_quotient_0 : decode b_Mpr_quotient 0 = .ok (.iload_n 0, 1) := by decide +kernel
theorem d_Mpr_quotient_1 : decode b_Mpr_quotient 1 = .ok (.iconst 2, 1) := by decide +kernel
theorem d_Mpr_quotient_2 : decode b_Mpr_quotient 2 = .ok (.irem, 1) := by decide +kernel
theorem d_Mpr_quotient_3 : decode b_Mpr_quotient 3 = .ok (.ifCond .ne 7, 3) := by decide +kernel
theorem d_Mpr_quotient_6 : decode b_Mpr_quotient 6 = .ok (.iconst 1, 1) := by decide +kernel
theorem d_Mpr_quotient_7 : decode b_Mpr_quotient 7 = .ok (.goto 4, 3) := by decide +kernel
theorem d_Mpr_quotient_10 : decode b_Mpr_quotient 10 = .ok (.iconst 0, 1) := by decide +kernel
theorem d_Mpr_quotient_11 : decode b_Mpr_quotient 11 = .ok (.istore_n 3, 1) := by decide +kernel
theorem d_Mpr_quotient_12 : decode b_Mpr_quotient 12 = .ok (.iload_n 3, 1) := by decide +kernel
theorem d_Mpr_quotient_13 : decode b_Mpr_quotient 13 = .ok (.ifCond .eq 8, 3) := by decide +kernel
theorem d_Mpr_quotient_16 : decode b_Mpr_quotient 16 = .ok (.iload_n 1, 1) := by decide +kernel
theorem d_Mpr_quotient_17 : decode b_Mpr_quotient 17 = .ok (.i2l, 1) := by decide +kernel
theorem d_Mpr_quotient_18 : decode b_Mpr_quotient 18 = .ok (.goto 7, 3) := by decide +kernel
theorem d_Mpr_quotient_21 : decode b_Mpr_quotient 21 = .ok (.iload_n 1, 1) := by decide +kernel
theorem d_Mpr_quotient_22 : decode b_Mpr_quotient 22 = .ok (.invokestatic 223, 3) := by decide +kernel
theorem d_Mpr_quotient_25 : decode b_Mpr_quotient 25 = .ok (.lstore 4, 2) := by decide +kernel
theorem d_Mpr_quotient_27 : decode b_Mpr_quotient 27 = .ok (.iload_n 3, 1) := by decide +kernel
theorem d_Mpr_quotient_28 : decode b_Mpr_quotient 28 = .ok (.ifCond .eq 8, 3) := by decide +kernel
theorem d_Mpr_quotient_31 : decode b_Mpr_quotient 31 = .ok (.iload_n 2, 1) := by decide +kernel
theorem d_Mpr_quotient_32 : decode b_Mpr_quotient 32 = .ok (.i2l, 1) := by decide +kernel
theorem d_Mpr_quotient_33 : decode b_Mpr_quotient 33 = .ok (.goto 7, 3) := by decide +kernel
theorem d_Mpr_quotient_36 : decode b_Mpr_quotient 36 = .ok (.iload_n 2, 1) := by decide +kernel
theorem d_Mpr_quotient_37 : decode b_Mpr_quotient 37 = .ok (.invokestatic 223, 3) := by decide +kernel
theorem d_Mpr_quotient_40 : decode b_Mpr_quotient 40 = .ok (.lstore 6, 2) := by decide +kernel
theorem d_Mpr_quotient_42 : decode b_Mpr_quotient 42 = .ok (.lload 6, 2) := by decide +kernel
theorem d_Mpr_quotient_44 : decode b_Mpr_quotient 44 = .ok (.lconst 0, 1) := by decide +kernel
theorem d_Mpr_quotient_45 : decode b_Mpr_quotient 45 = .ok (.lcmp, 1) := by decide +kernel
theorem d_Mpr_quotient_46 : decode b_Mpr_quotient 46 = .ok (.ifCond .ne 15, 3) := by decide +kernel
theorem d_Mpr_quotient_49 : decode b_Mpr_quotient 49 = .ok (.iload_n 0, 1) := by decide +kernel
theorem d_Mpr_quotient_50 : decode b_Mpr_quotient 50 = .ok (.bipush 6, 2) := by decide +kernel
theorem d_Mpr_quotient_52 : decode b_Mpr_quotient 52 = .ok (.if_icmp .ge 7, 3) := by decide +kernel
theorem d_Mpr_quotient_55 : decode b_Mpr_quotient 55 = .ok (.iconst (-1), 1) := by decide +kernel
theorem d_Mpr_quotient_56 : decode b_Mpr_quotient 56 = .ok (.goto 4, 3) := by decide +kernel
theorem d_Mpr_quotient_59 : decode b_Mpr_quotient 59 = .ok (.iload_n 1, 1) := by decide +kernel
theorem d_Mpr_quotient_60 : decode b_Mpr_quotient 60 = .ok (.ireturn, 1) := by decide +kernel
theorem d_Mpr_quotient_61 : decode b_Mpr_quotient 61 = .ok (.iload_n 0, 1) := by decide +kernel
theorem d_Mpr_quotient_62 : decode b_Mpr_quotient 62 = .ok (.bipush 6, 2) := by decide +kernel
theorem d_Mpr_quotient_64 : decode b_Mpr_quotient 64 = .ok (.if_icmp .ge 11, 3) := by decide +kernel
theorem d_Mpr_quotient_67 : decode b_Mpr_quotient 67 = .ok (.lload 4, 2) := by decide +kernel
theorem d_Mpr_quotient_69 : decode b_Mpr_quotient 69 = .ok (.lload 6, 2) := by decide +kernel
theorem d_Mpr_quotient_71 : decode b_Mpr_quotient 71 = .ok (.ldiv, 1) := by decide +kernel
theorem d_Mpr_quotient_72 : decode b_Mpr_quotient 72 = .ok (.goto 8, 3) := by decide +kernel
theorem d_Mpr_quotient_75 : decode b_Mpr_quotient 75 = .ok (.lload 4, 2) := by decide +kernel
theorem d_Mpr_quotient_77 : decode b_Mpr_quotient 77 = .ok (.lload 6, 2) := by decide +kernel
theorem d_Mpr_quotient_79 : decode b_Mpr_quotient 79 = .ok (.lrem, 1) := by decide +kernel
theorem d_Mpr_quotient_80 : decode b_Mpr_quotient 80 = .ok (.l2i, 1) := by decide +kernel
theorem d_Mpr_quotient_81 : decode b_Mpr_quotient 81 = .ok (.ireturn, 1) := by decide +kernel
theorem q_Mpr_quotient : px_y y_Mpr_quotient 3 := by unfold px_y; decide +kernel
set_option maxHeartbeats 4000000 in
set_option maxRecDepth 100000 in
theorem c_mr_quotient (l : Launch) (D : va_G) (cs : Nat → ClassId)  (p0 p1 p2 : Int32)   : MetI l y_Mpr_quotient b_Mpr_quotient 8 (.int) D cs 1 30 (0) (0) [.int p0, .int p1, .int p2] [] (fun _ => True) (fun v ps => (ps = [])) := by
  refine px_enter (by decide) (Nat.le_of_ble_eq_true rfl) ?_
  intro p e s m below meth c A ls hAe S hr hlk hnm hA hT hX hw hl
  replace hl : lv_has ls 8 [(0, .int p0), (1, .int p1), (2, .int p2)] := hl
  have lp0 := Int32.le_toInt p0
  have up0 := Int32.toInt_lt p0
  have lp1 := Int32.le_toInt p1
  have up1 := Int32.toInt_lt p1
  have lp2 := Int32.le_toInt p2
  have up2 := Int32.toInt_lt p2
  have cstm1 : ((-1) : Int32).toInt = (-1) := rfl
  have cst0 : (0 : Int32).toInt = 0 := rfl
  have cst1 : (1 : Int32).toInt = 1 := rfl
  have cst2 : (2 : Int32).toInt = 2 := rfl
  have cst6 : (6 : Int32).toInt = 6 := rfl
  refine lv_iload_n S.x S.b d_Mpr_quotient_0 rfl (lv_at hl 0 rfl) ?_
  refine lv_iconst (v := 2) S.x S.b d_Mpr_quotient_1 (by decide) ?_
  refine lv_irem S.x S.b d_Mpr_quotient_2 (fun hz0 => by have hz1 := i_eq.mp hz0; omega) ?_
  refine lv_topi (fun z1 ez1 => ?_)
  have lz1 := Int32.le_toInt z1
  have uz1 := Int32.toInt_lt z1
  refine lv_if_ne (tgt := 10) S.x S.b d_Mpr_quotient_3 (by decide) (fun c2 => ?_) (fun c2 => ?_)
  · have nc2 : ¬ z1.toInt = (0 : Int) := mt (i_eq (x := z1) (y := 0)).mpr c2
    refine lv_iconst (v := 0) S.x S.b d_Mpr_quotient_10 (by decide) ?_
    refine lv_istore_n (lv' := [(3, .int 0), (0, .int p0), (1, .int p1), (2, .int p2)]) S.x S.b d_Mpr_quotient_11 rfl hl (by decide) rfl (fun ls hl => ?_)
    refine lv_iload_n S.x S.b d_Mpr_quotient_12 rfl (lv_at hl 0 rfl) ?_
    refine lv_if_eq (tgt := 21) S.x S.b d_Mpr_quotient_13 (by decide) (fun c3 => ?_) (fun c3 => ?_)
    ·
      refine lv_iload_n S.x S.b d_Mpr_quotient_21 rfl (lv_at hl 2 rfl) ?_
      refine px_calll (pr := []) (px_runS (As := [.int p1]) (rest := []) S (c_mr_plain l D cs  p1   _) hT (pr := []) (pcs := []) hw px_X.tt m13_188 m13_186 m13_187 m1_22 q_Mpr_plain ⟨Nat.le_of_ble_eq_true rfl, Nat.le_of_ble_eq_true rfl⟩ hl.1 rfl (Nat.le_of_ble_eq_true rfl) d_Mpr_quotient_22 ⟨Nat.le_of_ble_eq_true rfl, Nat.le_of_ble_eq_true rfl⟩) hw hA (fun v5 p4 H locs hp4 hw => ?_)
      obtain ⟨rfl, e6⟩ := hp4
      replace e6 : v5.toInt = p1.toInt % 4294967296 := e6
      replace hw : pw D A s.heap H locs [] := hw
      refine lv_lstore (lv' := [(4, .long v5), (3, .int 0), (0, .int p0), (1, .int p1), (2, .int p2)]) S.x S.b d_Mpr_quotient_25 hl (by decide) rfl (fun ls hl => ?_)
      refine lv_iload_n S.x S.b d_Mpr_quotient_27 rfl (lv_at hl 1 rfl) ?_
      refine lv_if_eq (tgt := 36) S.x S.b d_Mpr_quotient_28 (by decide) (fun c7 => ?_) (fun c7 => ?_)
      ·
        refine lv_iload_n S.x S.b d_Mpr_quotient_36 rfl (lv_at hl 4 rfl) ?_
        refine px_calll (pr := []) (px_runS (As := [.int p2]) (rest := []) S (c_mr_plain l D cs  p2   _) hT (pr := []) (pcs := []) hw px_X.tt m13_188 m13_186 m13_187 m1_22 q_Mpr_plain ⟨Nat.le_of_ble_eq_true rfl, Nat.le_of_ble_eq_true rfl⟩ hl.1 rfl (Nat.le_of_ble_eq_true rfl) d_Mpr_quotient_37 ⟨Nat.le_of_ble_eq_true rfl, Nat.le_of_ble_eq_true rfl⟩) hw hA (fun v9 p8 H locs hp8 hw => ?_)
        obtain ⟨rfl, e10⟩ := hp8
        replace e10 : v9.toInt = p2.toInt % 4294967296 := e10
        replace hw : pw D A s.heap H locs [] := hw
        refine lv_lstore (lv' := [(6, .long v9), (4, .long v5), (3, .int 0), (0, .int p0), (1, .int p1), (2, .int p2)]) S.x S.b d_Mpr_quotient_40 hl (by decide) rfl (fun ls hl => ?_)
        refine lv_lload S.x S.b d_Mpr_quotient_42 (lv_at hl 0 rfl) ?_
        refine lv_lconst (v := 0) S.x S.b d_Mpr_quotient_44 (by decide) ?_
        have cl_0 : (0 : Int64).toInt = 0 := rfl
        refine W.lcmp S.x S.b d_Mpr_quotient_45 ?_
        refine lv_topi (fun z11 ez11 => ?_)
        have tz11 := l_cmp (x := v9) (y := 0) (z := z11) (by rw [ez11]; rfl)
        have lz11 := Int32.le_toInt z11
        have uz11 := Int32.toInt_lt z11
        refine lv_if_ne (tgt := 61) S.x S.b d_Mpr_quotient_46 (by decide) (fun c12 => ?_) (fun c12 => ?_)
        · have nc12 : ¬ z11.toInt = (0 : Int) := mt (i_eq (x := z11) (y := 0)).mpr c12
          refine lv_iload_n S.x S.b d_Mpr_quotient_61 rfl (lv_at hl 3 rfl) ?_
          refine lv_bipush (v := 6) S.x S.b d_Mpr_quotient_62 (by decide) ?_
          refine lv_icmp_ge (tgt := 75) S.x S.b d_Mpr_quotient_64 (by decide) (fun c13 => ?_) (fun c13 => ?_)
          · have nc13 : (6 : Int) ≤ p0.toInt := (i_le (x := 6) (y := p0)).mp c13
            refine lv_lload S.x S.b d_Mpr_quotient_75 (lv_at hl 1 rfl) ?_
            refine lv_lload S.x S.b d_Mpr_quotient_77 (lv_at hl 0 rfl) ?_
            refine lv_lrem S.x S.b d_Mpr_quotient_79 (l_ne (by omega)) ?_
            refine lv_topl (fun z14 ez14 => ?_)
            refine lv_l2i S.x S.b d_Mpr_quotient_80 rfl ?_
            refine lv_topi (fun z15 ez15 => ?_)
            have lz15 := Int32.le_toInt z15
            have uz15 := Int32.toInt_lt z15
            exact px_iret (v := z15) S hr rfl hlk hAe hw (Nat.le_of_ble_eq_true rfl) (Nat.le_of_ble_eq_true rfl) (rfl) d_Mpr_quotient_81
          · have nc13 : ¬ (6 : Int) ≤ p0.toInt := mt (i_le (x := 6) (y := p0)).mpr c13
            refine lv_lload S.x S.b d_Mpr_quotient_67 (lv_at hl 1 rfl) ?_
            refine lv_lload S.x S.b d_Mpr_quotient_69 (lv_at hl 0 rfl) ?_
            refine lv_ldiv S.x S.b d_Mpr_quotient_71 (l_ne (by omega)) ?_
            refine lv_topl (fun z16 ez16 => ?_)
            refine lv_goto (tgt := 80) S.x S.b d_Mpr_quotient_72 (by decide) ?_
            refine lv_l2i S.x S.b d_Mpr_quotient_80 rfl ?_
            refine lv_topi (fun z17 ez17 => ?_)
            have lz17 := Int32.le_toInt z17
            have uz17 := Int32.toInt_lt z17
            exact px_iret (v := z17) S hr rfl hlk hAe hw (Nat.le_of_ble_eq_true rfl) (Nat.le_of_ble_eq_true rfl) (rfl) d_Mpr_quotient_81
        · have nc12 : z11.toInt = (0 : Int) := (i_eq (x := z11) (y := 0)).mp c12
          refine lv_iload_n S.x S.b d_Mpr_quotient_49 rfl (lv_at hl 3 rfl) ?_
          refine lv_bipush (v := 6) S.x S.b d_Mpr_quotient_50 (by decide) ?_
          refine lv_icmp_ge (tgt := 59) S.x S.b d_Mpr_quotient_52 (by decide) (fun c18 => ?_) (fun c18 => ?_)
          · have nc18 : (6 : Int) ≤ p0.toInt := (i_le (x := 6) (y := p0)).mp c18
            refine lv_iload_n S.x S.b d_Mpr_quotient_59 rfl (lv_at hl 4 rfl) ?_
            exact px_iret (v := p1) S hr rfl hlk hAe hw (Nat.le_of_ble_eq_true rfl) (Nat.le_of_ble_eq_true rfl) (rfl) d_Mpr_quotient_60
          · have nc18 : ¬ (6 : Int) ≤ p0.toInt := mt (i_le (x := 6) (y := p0)).mpr c18
            refine lv_iconst (v := (-1)) S.x S.b d_Mpr_quotient_55 (by decide) ?_
            refine lv_goto (tgt := 60) S.x S.b d_Mpr_quotient_56 (by decide) ?_
            exact px_iret (v := (-1)) S hr rfl hlk hAe hw (Nat.le_of_ble_eq_true rfl) (Nat.le_of_ble_eq_true rfl) (rfl) d_Mpr_quotient_60
      · exact absurd c7 (by decide)
    · exact absurd c3 (by decide)
  · have nc2 : z1.toInt = (0 : Int) := (i_eq (x := z1) (y := 0)).mp c2
    refine lv_iconst (v := 1) S.x S.b d_Mpr_quotient_6 (by decide) ?_
    refine lv_goto (tgt := 11) S.x S.b d_Mpr_quotient_7 (by decide) ?_
    refine lv_istore_n (lv' := [(3, .int 1), (0, .int p0), (1, .int p1), (2, .int p2)]) S.x S.b d_Mpr_quotient_11 rfl hl (by decide) rfl (fun ls hl => ?_)
    refine lv_iload_n S.x S.b d_Mpr_quotient_12 rfl (lv_at hl 0 rfl) ?_
    refine lv_if_eq (tgt := 21) S.x S.b d_Mpr_quotient_13 (by decide) (fun c19 => ?_) (fun c19 => ?_)
    · exact absurd c19 (by decide)
    ·
      refine lv_iload_n S.x S.b d_Mpr_quotient_16 rfl (lv_at hl 2 rfl) ?_
      refine lv_i2l S.x S.b d_Mpr_quotient_17 rfl ?_
      refine lv_goto (tgt := 25) S.x S.b d_Mpr_quotient_18 (by decide) ?_
      refine lv_lstore (lv' := [(4, .long (p1).toInt64), (3, .int 1), (0, .int p0), (1, .int p1), (2, .int p2)]) S.x S.b d_Mpr_quotient_25 hl (by decide) rfl (fun ls hl => ?_)
      refine lv_iload_n S.x S.b d_Mpr_quotient_27 rfl (lv_at hl 1 rfl) ?_
      refine lv_if_eq (tgt := 36) S.x S.b d_Mpr_quotient_28 (by decide) (fun c20 => ?_) (fun c20 => ?_)
      · exact absurd c20 (by decide)
      ·
        refine lv_iload_n S.x S.b d_Mpr_quotient_31 rfl (lv_at hl 4 rfl) ?_
        refine lv_i2l S.x S.b d_Mpr_quotient_32 rfl ?_
        refine lv_goto (tgt := 40) S.x S.b d_Mpr_quotient_33 (by decide) ?_
        refine lv_lstore (lv' := [(6, .long (p2).toInt64), (4, .long (p1).toInt64), (3, .int 1), (0, .int p0), (1, .int p1), (2, .int p2)]) S.x S.b d_Mpr_quotient_40 hl (by decide) rfl (fun ls hl => ?_)
        refine lv_lload S.x S.b d_Mpr_quotient_42 (lv_at hl 0 rfl) ?_
        refine lv_lconst (v := 0) S.x S.b d_Mpr_quotient_44 (by decide) ?_
        have cl_0 : (0 : Int64).toInt = 0 := rfl
        refine W.lcmp S.x S.b d_Mpr_quotient_45 ?_
        refine lv_topi (fun z21 ez21 => ?_)
        have tz21 := l_cmp (x := (p2).toInt64) (y := 0) (z := z21) (by rw [ez21]; rfl)
        have lz21 := Int32.le_toInt z21
        have uz21 := Int32.toInt_lt z21
        refine lv_if_ne (tgt := 61) S.x S.b d_Mpr_quotient_46 (by decide) (fun c22 => ?_) (fun c22 => ?_)
        · have nc22 : ¬ z21.toInt = (0 : Int) := mt (i_eq (x := z21) (y := 0)).mpr c22
          refine lv_iload_n S.x S.b d_Mpr_quotient_61 rfl (lv_at hl 3 rfl) ?_
          refine lv_bipush (v := 6) S.x S.b d_Mpr_quotient_62 (by decide) ?_
          refine lv_icmp_ge (tgt := 75) S.x S.b d_Mpr_quotient_64 (by decide) (fun c23 => ?_) (fun c23 => ?_)
          · have nc23 : (6 : Int) ≤ p0.toInt := (i_le (x := 6) (y := p0)).mp c23
            refine lv_lload S.x S.b d_Mpr_quotient_75 (lv_at hl 1 rfl) ?_
            refine lv_lload S.x S.b d_Mpr_quotient_77 (lv_at hl 0 rfl) ?_
            refine lv_lrem S.x S.b d_Mpr_quotient_79 (l_ne (by omega)) ?_
            refine lv_topl (fun z24 ez24 => ?_)
            refine lv_l2i S.x S.b d_Mpr_quotient_80 rfl ?_
            refine lv_topi (fun z25 ez25 => ?_)
            have lz25 := Int32.le_toInt z25
            have uz25 := Int32.toInt_lt z25
            exact px_iret (v := z25) S hr rfl hlk hAe hw (Nat.le_of_ble_eq_true rfl) (Nat.le_of_ble_eq_true rfl) (rfl) d_Mpr_quotient_81
          · have nc23 : ¬ (6 : Int) ≤ p0.toInt := mt (i_le (x := 6) (y := p0)).mpr c23
            refine lv_lload S.x S.b d_Mpr_quotient_67 (lv_at hl 1 rfl) ?_
            refine lv_lload S.x S.b d_Mpr_quotient_69 (lv_at hl 0 rfl) ?_
            refine lv_ldiv S.x S.b d_Mpr_quotient_71 (l_ne (by omega)) ?_
            refine lv_topl (fun z26 ez26 => ?_)
            refine lv_goto (tgt := 80) S.x S.b d_Mpr_quotient_72 (by decide) ?_
            refine lv_l2i S.x S.b d_Mpr_quotient_80 rfl ?_
            refine lv_topi (fun z27 ez27 => ?_)
            have lz27 := Int32.le_toInt z27
            have uz27 := Int32.toInt_lt z27
            exact px_iret (v := z27) S hr rfl hlk hAe hw (Nat.le_of_ble_eq_true rfl) (Nat.le_of_ble_eq_true rfl) (rfl) d_Mpr_quotient_81
        · have nc22 : z21.toInt = (0 : Int) := (i_eq (x := z21) (y := 0)).mp c22
          refine lv_iload_n S.x S.b d_Mpr_quotient_49 rfl (lv_at hl 3 rfl) ?_
          refine lv_bipush (v := 6) S.x S.b d_Mpr_quotient_50 (by decide) ?_
          refine lv_icmp_ge (tgt := 59) S.x S.b d_Mpr_quotient_52 (by decide) (fun c28 => ?_) (fun c28 => ?_)
          · have nc28 : (6 : Int) ≤ p0.toInt := (i_le (x := 6) (y := p0)).mp c28
            refine lv_iload_n S.x S.b d_Mpr_quotient_59 rfl (lv_at hl 4 rfl) ?_
            exact px_iret (v := p1) S hr rfl hlk hAe hw (Nat.le_of_ble_eq_true rfl) (Nat.le_of_ble_eq_true rfl) (rfl) d_Mpr_quotient_60
          · have nc28 : ¬ (6 : Int) ≤ p0.toInt := mt (i_le (x := 6) (y := p0)).mpr c28
            refine lv_iconst (v := (-1)) S.x S.b d_Mpr_quotient_55 (by decide) ?_
            refine lv_goto (tgt := 60) S.x S.b d_Mpr_quotient_56 (by decide) ?_
            exact px_iret (v := (-1)) S hr rfl hlk hAe hw (Nat.le_of_ble_eq_true rfl) (Nat.le_of_ble_eq_true rfl) (rfl) d_Mpr_quotient_60
abbrev b_Mpr_isText : ByteArray := prog_15_method_24_code
def y_Mpr_isText : MethodName := ⟨"HomeSystemModel$Process", "isText", "(I)Z"⟩
theorem d_Mpr_isText_0 : decode b_Mpr_isText 0 = .ok (.ldc2_w 227, 3) := by decide +kernel
theorem d_Mpr_isText_3 : decode b_Mpr_isText 3 = .ok (.ldc2_w 229, 3) := by decide +kernel
theorem d_Mpr_isText_6 : decode b_Mpr_isText 6 = .ok (.aload_n 0, 1) := by decide +kernel
theorem d_Mpr_isText_7 : decode b_Mpr_isText 7 = .ok (.getfield 52, 3) := by decide +kernel
theorem d_Mpr_isText_10 : decode b_Mpr_isText 10 = .ok (.getfield 231, 3) := by decide +kernel
theorem d_Mpr_isText_13 : decode b_Mpr_isText 13 = .ok (.i2l, 1) := by decide +kernel
theorem d_Mpr_isText_14 : decode b_Mpr_isText 14 = .ok (.lmul, 1) := by decide +kernel
theorem d_Mpr_isText_15 : decode b_Mpr_isText 15 = .ok (.ldc2_w 234, 3) := by decide +kernel
theorem d_Mpr_isText_18 : decode b_Mpr_isText 18 = .ok (.ladd, 1) := by decide +kernel
theorem d_Mpr_isText_19 : decode b_Mpr_isText 19 = .ok (.ldc2_w 236, 3) := by decide +kernel
theorem d_Mpr_isText_22 : decode b_Mpr_isText 22 = .ok (.ldiv, 1) := by decide +kernel
theorem d_Mpr_isText_23 : decode b_Mpr_isText 23 = .ok (.ldc2_w 236, 3) := by decide +kernel
theorem d_Mpr_isText_26 : decode b_Mpr_isText 26 = .ok (.lmul, 1) := by decide +kernel
theorem d_Mpr_isText_27 : decode b_Mpr_isText 27 = .ok (.ladd, 1) := by decide +kernel
theorem d_Mpr_isText_28 : decode b_Mpr_isText 28 = .ok (.lstore_n 2, 1) := by decide +kernel
theorem d_Mpr_isText_29 : decode b_Mpr_isText 29 = .ok (.iload_n 1, 1) := by decide +kernel
theorem d_Mpr_isText_30 : decode b_Mpr_isText 30 = .ok (.invokestatic 223, 3) := by decide +kernel
theorem d_Mpr_isText_33 : decode b_Mpr_isText 33 = .ok (.ldc2_w 227, 3) := by decide +kernel
theorem d_Mpr_isText_36 : decode b_Mpr_isText 36 = .ok (.lcmp, 1) := by decide +kernel
theorem d_Mpr_isText_37 : decode b_Mpr_isText 37 = .ok (.ifCond .lt 16, 3) := by decide +kernel
theorem d_Mpr_isText_40 : decode b_Mpr_isText 40 = .ok (.iload_n 1, 1) := by decide +kernel
theorem d_Mpr_isText_41 : decode b_Mpr_isText 41 = .ok (.invokestatic 223, 3) := by decide +kernel
theorem d_Mpr_isText_44 : decode b_Mpr_isText 44 = .ok (.lload_n 2, 1) := by decide +kernel
theorem d_Mpr_isText_45 : decode b_Mpr_isText 45 = .ok (.lcmp, 1) := by decide +kernel
theorem d_Mpr_isText_46 : decode b_Mpr_isText 46 = .ok (.ifCond .ge 7, 3) := by decide +kernel
theorem d_Mpr_isText_49 : decode b_Mpr_isText 49 = .ok (.iconst 1, 1) := by decide +kernel
theorem d_Mpr_isText_50 : decode b_Mpr_isText 50 = .ok (.goto 4, 3) := by decide +kernel
theorem d_Mpr_isText_53 : decode b_Mpr_isText 53 = .ok (.iconst 0, 1) := by decide +kernel
theorem d_Mpr_isText_54 : decode b_Mpr_isText 54 = .ok (.ireturn, 1) := by decide +kernel
theorem q_Mpr_isText : px_y y_Mpr_isText 1 := by unfold px_y; decide +kernel
set_option maxHeartbeats 4000000 in
set_option maxRecDepth 100000 in
theorem c_mr_isText (l : Launch) (D : va_G) (cs : Nat → ClassId) (nf : Int) (q : Nat) (qr : Nat → Nat) (qg : Nat → Nat → Option Nat) (qf : Nat → Int32) (qa : Nat → Nat → Int32) (h : Nat) (r : Nat → Nat) (g : Nat → Nat → Option Nat) (tf : Nat → Int32) (ta : Nat → Nat → Int32) (pf : Nat → Int32) (na : Nat → Nat → Int32) (ma : Nat → Nat → Int32) (wa : Nat → Nat → Int32) (cf : Nat → Int32) (ca : Nat → Nat → Int32) (ef : Nat → Int32) (ea : Nat → Nat → Int32) (xf : Nat → Int32) (xa : Nat → Nat → Int32) (p0 : Int32)  (g0 : 0 ≤ (xf 68).toInt) (g1 : (xf 68).toInt ≤ 512) : MetI l y_Mpr_isText b_Mpr_isText 4 (.boolean) D cs 1 30 (0) (0) [.ref q, .int p0] [wd_Mpr cs q qr (fun k => if k = 0 then (some h) else none) qf qa qg, wdP cs h r g tf ta pf na ma wa cf ca ef ea xf xa] (oX (fun A U H => (oP A g U H)) [wd_Mpr cs q qr (fun k => if k = 0 then (some h) else none) qf qa qg, wdP cs h r g tf ta pf na ma wa cf ca ef ea xf xa]) (fun v ps => (ps = [wd_Mpr cs q qr (fun k => if k = 0 then (some h) else none) qf qa qg, wdP cs h r g tf ta pf na ma wa cf ca ef ea xf xa]) ∧ (0 ≤ v.toInt) ∧ (v.toInt ≤ 1) ∧ (v.toInt = 1 → (4194304 ≤ p0.toInt % 4294967296 ∧ p0.toInt % 4294967296 < 4194304 + (4 * (xf 68).toInt + 4095) / 4096 * 4096)) ∧ ((4194304 ≤ p0.toInt % 4294967296 ∧ p0.toInt % 4294967296 < 4194304 + (4 * (xf 68).toInt + 4095) / 4096 * 4096) → v.toInt = 1)) := by
  refine px_enter (by decide) (Nat.le_of_ble_eq_true rfl) ?_
  intro p e s m below meth c A ls hAe S hr hlk hnm hA hT hX hw hl
  replace hl : lv_has ls 4 [(0, .ref q), (1, .int p0)] := hl
  have lp0 := Int32.le_toInt p0
  have up0 := Int32.toInt_lt p0
  have cst0 : (0 : Int32).toInt = 0 := rfl
  have cst1 : (1 : Int32).toInt = 1 := rfl
  have hX : (fun A U H => (oP A g U H)) A s s.heap := by rw [hAe]; exact hX
  have hP := hX
  have hZ := hP.1
  have hF0 := hP.2.1
  refine lv_ldc2 (v := 4194304) S.x S.b S.own (S.w m13_182) d_Mpr_isText_0 ?_
  refine lv_ldc2 (v := 4) S.x S.b S.own (S.w m13_183) d_Mpr_isText_3 ?_
  refine lv_aload_n S.x S.b d_Mpr_isText_6 rfl (lv_at hl 0 rfl) ?_
  refine px_get S k_Mpr hT hw 0 0 0 (v := .ref h) rfl rfl rfl (by decide) m10_221 d_Mpr_isText_7 ?_
  refine px_get S k_Mpg hT hw 1 0 68 (v := .int (xf 68)) rfl rfl rfl (by decide) m10_73 d_Mpr_isText_10 ?_
  refine lv_i2l S.x S.b d_Mpr_isText_13 rfl ?_
  have tw : ((xf 68)).toInt64.toInt = (xf 68).toInt := l_i2l _
  have cl_4 : (4 : Int64).toInt = 4 := rfl
  refine lv_lmul S.x S.b d_Mpr_isText_14 ?_
  refine lv_topl (fun z1 ez1 => ?_)
  have tz1 : z1.toInt = 4 * ((xf 68)).toInt64.toInt := by rw [ez1, l_mul (by rw [cl_4]; omega) (by rw [cl_4]; omega)]; rw [cl_4]; try omega
  refine lv_ldc2 (v := 4095) S.x S.b S.own (S.w m13_184) d_Mpr_isText_15 ?_
  have cl_4095 : (4095 : Int64).toInt = 4095 := rfl
  refine lv_ladd S.x S.b d_Mpr_isText_18 ?_
  refine lv_topl (fun z2 ez2 => ?_)
  have tz2 : z2.toInt = z1.toInt + 4095 := by rw [ez2, l_add (by omega) (by omega)]; omega
  refine lv_ldc2 (v := 4096) S.x S.b S.own (S.w m13_185) d_Mpr_isText_19 ?_
  have cl_4096 : (4096 : Int64).toInt = 4096 := rfl
  refine lv_ldiv S.x S.b d_Mpr_isText_22 (l_ne (by omega)) ?_
  refine lv_topl (fun z3 ez3 => ?_)
  have tz3 : z3.toInt = z2.toInt / 4096 := by rw [ez3, l_div (by omega) (by omega), cl_4096]
  refine lv_ldc2 (v := 4096) S.x S.b S.own (S.w m13_185) d_Mpr_isText_23 ?_
  have cl_4096 : (4096 : Int64).toInt = 4096 := rfl
  refine lv_lmul S.x S.b d_Mpr_isText_26 ?_
  refine lv_topl (fun z4 ez4 => ?_)
  have tz4 : z4.toInt = z3.toInt * 4096 := by rw [ez4, l_mul (by rw [cl_4096]; omega) (by rw [cl_4096]; omega)]; rw [cl_4096]; try omega
  have cl_4194304 : (4194304 : Int64).toInt = 4194304 := rfl
  refine lv_ladd S.x S.b d_Mpr_isText_27 ?_
  refine lv_topl (fun z5 ez5 => ?_)
  have tz5 : z5.toInt = 4194304 + z4.toInt := by rw [ez5, l_add (by omega) (by omega)]; omega
  refine lv_lstore_n (lv' := [(2, .long z5), (0, .ref q), (1, .int p0)]) S.x S.b d_Mpr_isText_28 rfl hl (by decide) rfl (fun ls hl => ?_)
  refine lv_iload_n S.x S.b d_Mpr_isText_29 rfl (lv_at hl 2 rfl) ?_
  refine px_calll (pr := [wd_Mpr cs q qr (fun k => if k = 0 then (some h) else none) qf qa qg, wdP cs h r g tf ta pf na ma wa cf ca ef ea xf xa]) (px_runS (As := [.int p0]) (rest := []) S (c_mr_plain l D cs  p0   _) hT (pr := [wd_Mpr cs q qr (fun k => if k = 0 then (some h) else none) qf qa qg, wdP cs h r g tf ta pf na ma wa cf ca ef ea xf xa]) (pcs := []) hw px_X.tt m13_188 m13_186 m13_187 m1_22 q_Mpr_plain ⟨Nat.le_of_ble_eq_true rfl, Nat.le_of_ble_eq_true rfl⟩ hl.1 rfl (Nat.le_of_ble_eq_true rfl) d_Mpr_isText_30 ⟨Nat.le_of_ble_eq_true rfl, Nat.le_of_ble_eq_true rfl⟩) hw hA (fun v7 p6 H locs hp6 hw => ?_)
  obtain ⟨rfl, e8⟩ := hp6
  replace e8 : v7.toInt = p0.toInt % 4294967296 := e8
  replace hw : pw D A s.heap H locs [wd_Mpr cs q qr (fun k => if k = 0 then (some h) else none) qf qa qg, wdP cs h r g tf ta pf na ma wa cf ca ef ea xf xa] := hw
  refine lv_ldc2 (v := 4194304) S.x S.b S.own (S.w m13_182) d_Mpr_isText_33 ?_
  have cl_4194304 : (4194304 : Int64).toInt = 4194304 := rfl
  refine W.lcmp S.x S.b d_Mpr_isText_36 ?_
  refine lv_topi (fun z9 ez9 => ?_)
  have tz9 := l_cmp (x := v7) (y := 4194304) (z := z9) (by rw [ez9]; rfl)
  have lz9 := Int32.le_toInt z9
  have uz9 := Int32.toInt_lt z9
  refine lv_if_lt (tgt := 53) S.x S.b d_Mpr_isText_37 (by decide) (fun c10 => ?_) (fun c10 => ?_)
  · have nc10 : z9.toInt < (0 : Int) := (i_lt (x := z9) (y := 0)).mp c10
    refine lv_iconst (v := 0) S.x S.b d_Mpr_isText_53 (by decide) ?_
    exact px_iret (v := 0) S hr rfl hlk hAe hw (Nat.le_of_ble_eq_true rfl) (Nat.le_of_ble_eq_true rfl) (⟨rfl, (show 0 ≤ (0 : Int) from by first | decide | omega), (show (0 : Int) ≤ 1 from by first | decide | omega), (show (0 : Int) = 1 → (4194304 ≤ p0.toInt % 4294967296 ∧ p0.toInt % 4294967296 < 4194304 + (4 * (xf 68).toInt + 4095) / 4096 * 4096) from by first | with_reducible rfl | with_reducible assumption | omega), (show (4194304 ≤ p0.toInt % 4294967296 ∧ p0.toInt % 4294967296 < 4194304 + (4 * (xf 68).toInt + 4095) / 4096 * 4096) → (0 : Int) = 1 from by first | with_reducible rfl | with_reducible assumption | omega)⟩) d_Mpr_isText_54
  · have nc10 : ¬ z9.toInt < (0 : Int) := mt (i_lt (x := z9) (y := 0)).mpr c10
    refine lv_iload_n S.x S.b d_Mpr_isText_40 rfl (lv_at hl 2 rfl) ?_
    refine px_calll (pr := [wd_Mpr cs q qr (fun k => if k = 0 then (some h) else none) qf qa qg, wdP cs h r g tf ta pf na ma wa cf ca ef ea xf xa]) (px_runS (As := [.int p0]) (rest := []) S (c_mr_plain l D cs  p0   _) hT (pr := [wd_Mpr cs q qr (fun k => if k = 0 then (some h) else none) qf qa qg, wdP cs h r g tf ta pf na ma wa cf ca ef ea xf xa]) (pcs := []) hw px_X.tt m13_188 m13_186 m13_187 m1_22 q_Mpr_plain ⟨Nat.le_of_ble_eq_true rfl, Nat.le_of_ble_eq_true rfl⟩ hl.1 rfl (Nat.le_of_ble_eq_true rfl) d_Mpr_isText_41 ⟨Nat.le_of_ble_eq_true rfl, Nat.le_of_ble_eq_true rfl⟩) hw hA (fun v12 p11 H locs hp11 hw => ?_)
    obtain ⟨rfl, e13⟩ := hp11
    replace e13 : v12.toInt = p0.toInt % 4294967296 := e13
    replace hw : pw D A s.heap H locs [wd_Mpr cs q qr (fun k => if k = 0 then (some h) else none) qf qa qg, wdP cs h r g tf ta pf na ma wa cf ca ef ea xf xa] := hw
    refine lv_lload_n S.x S.b d_Mpr_isText_44 rfl (lv_at hl 0 rfl) ?_
    refine W.lcmp S.x S.b d_Mpr_isText_45 ?_
    refine lv_topi (fun z14 ez14 => ?_)
    have tz14 := l_cmp (x := v12) (y := z5) (z := z14) (by rw [ez14]; rfl)
    have lz14 := Int32.le_toInt z14
    have uz14 := Int32.toInt_lt z14
    refine lv_if_ge (tgt := 53) S.x S.b d_Mpr_isText_46 (by decide) (fun c15 => ?_) (fun c15 => ?_)
    · have nc15 : (0 : Int) ≤ z14.toInt := (i_le (x := 0) (y := z14)).mp c15
      refine lv_iconst (v := 0) S.x S.b d_Mpr_isText_53 (by decide) ?_
      exact px_iret (v := 0) S hr rfl hlk hAe hw (Nat.le_of_ble_eq_true rfl) (Nat.le_of_ble_eq_true rfl) (⟨rfl, (show 0 ≤ (0 : Int) from by first | decide | omega), (show (0 : Int) ≤ 1 from by first | decide | omega), (show (0 : Int) = 1 → (4194304 ≤ p0.toInt % 4294967296 ∧ p0.toInt % 4294967296 < 4194304 + (4 * (xf 68).toInt + 4095) / 4096 * 4096) from by first | with_reducible rfl | with_reducible assumption | omega), (show (4194304 ≤ p0.toInt % 4294967296 ∧ p0.toInt % 4294967296 < 4194304 + (4 * (xf 68).toInt + 4095) / 4096 * 4096) → (0 : Int) = 1 from by first | with_reducible rfl | with_reducible assumption | omega)⟩) d_Mpr_isText_54
    · have nc15 : ¬ (0 : Int) ≤ z14.toInt := mt (i_le (x := 0) (y := z14)).mpr c15
      refine lv_iconst (v := 1) S.x S.b d_Mpr_isText_49 (by decide) ?_
      refine lv_goto (tgt := 54) S.x S.b d_Mpr_isText_50 (by decide) ?_
      exact px_iret (v := 1) S hr rfl hlk hAe hw (Nat.le_of_ble_eq_true rfl) (Nat.le_of_ble_eq_true rfl) (⟨rfl, (show 0 ≤ (1 : Int) from by first | decide | omega), (show (1 : Int) ≤ 1 from by first | decide | omega), (show (1 : Int) = 1 → (4194304 ≤ p0.toInt % 4294967296 ∧ p0.toInt % 4294967296 < 4194304 + (4 * (xf 68).toInt + 4095) / 4096 * 4096) from by first | with_reducible rfl | with_reducible assumption | omega), (show (4194304 ≤ p0.toInt % 4294967296 ∧ p0.toInt % 4294967296 < 4194304 + (4 * (xf 68).toInt + 4095) / 4096 * 4096) → (1 : Int) = 1 from by first | with_reducible rfl | with_reducible assumption | omega)⟩) d_Mpr_isText_54
abbrev b_Mpr_cellAt : ByteArray := prog_15_method_25_code
def y_Mpr_cellAt : MethodName := ⟨"HomeSystemModel$Process", "cellAt", "(I)I"⟩
theorem d_Mpr_cellAt_0 : decode b_Mpr_cellAt 0 = .ok (.iload_n 1, 1) := by decide +kernel
theorem d_Mpr_cellAt_1 : decode b_Mpr_cellAt 1 = .ok (.invokestatic 223, 3) := by decide +kernel
theorem d_Mpr_cellAt_4 : decode b_Mpr_cellAt 4 = .ok (.lstore_n 2, 1) := by decide +kernel
theorem d_Mpr_cellAt_5 : decode b_Mpr_cellAt 5 = .ok (.lload_n 2, 1) := by decide +kernel
theorem d_Mpr_cellAt_6 : decode b_Mpr_cellAt 6 = .ok (.ldc2_w 238, 3) := by decide +kernel
theorem d_Mpr_cellAt_9 : decode b_Mpr_cellAt 9 = .ok (.lcmp, 1) := by decide +kernel
theorem d_Mpr_cellAt_10 : decode b_Mpr_cellAt 10 = .ok (.ifCond .lt 15, 3) := by decide +kernel
theorem d_Mpr_cellAt_13 : decode b_Mpr_cellAt 13 = .ok (.lload_n 2, 1) := by decide +kernel
theorem d_Mpr_cellAt_14 : decode b_Mpr_cellAt 14 = .ok (.ldc2_w 240, 3) := by decide +kernel
theorem d_Mpr_cellAt_17 : decode b_Mpr_cellAt 17 = .ok (.lcmp, 1) := by decide +kernel
theorem d_Mpr_cellAt_18 : decode b_Mpr_cellAt 18 = .ok (.ifCond .ge 7, 3) := by decide +kernel
theorem d_Mpr_cellAt_21 : decode b_Mpr_cellAt 21 = .ok (.iconst 1, 1) := by decide +kernel
theorem d_Mpr_cellAt_22 : decode b_Mpr_cellAt 22 = .ok (.goto 4, 3) := by decide +kernel
theorem d_Mpr_cellAt_25 : decode b_Mpr_cellAt 25 = .ok (.iconst 0, 1) := by decide +kernel
theorem d_Mpr_cellAt_26 : decode b_Mpr_cellAt 26 = .ok (.istore 4, 2) := by decide +kernel
theorem d_Mpr_cellAt_28 : decode b_Mpr_cellAt 28 = .ok (.lload_n 2, 1) := by decide +kernel
theorem d_Mpr_cellAt_29 : decode b_Mpr_cellAt 29 = .ok (.ldc2_w 242, 3) := by decide +kernel
theorem d_Mpr_cellAt_32 : decode b_Mpr_cellAt 32 = .ok (.lcmp, 1) := by decide +kernel
theorem d_Mpr_cellAt_33 : decode b_Mpr_cellAt 33 = .ok (.ifCond .lt 15, 3) := by decide +kernel
theorem d_Mpr_cellAt_36 : decode b_Mpr_cellAt 36 = .ok (.lload_n 2, 1) := by decide +kernel
theorem d_Mpr_cellAt_37 : decode b_Mpr_cellAt 37 = .ok (.ldc2_w 244, 3) := by decide +kernel
theorem d_Mpr_cellAt_40 : decode b_Mpr_cellAt 40 = .ok (.lcmp, 1) := by decide +kernel
theorem d_Mpr_cellAt_41 : decode b_Mpr_cellAt 41 = .ok (.ifCond .ge 7, 3) := by decide +kernel
theorem d_Mpr_cellAt_44 : decode b_Mpr_cellAt 44 = .ok (.iconst 1, 1) := by decide +kernel
theorem d_Mpr_cellAt_45 : decode b_Mpr_cellAt 45 = .ok (.goto 4, 3) := by decide +kernel
theorem d_Mpr_cellAt_48 : decode b_Mpr_cellAt 48 = .ok (.iconst 0, 1) := by decide +kernel
theorem d_Mpr_cellAt_49 : decode b_Mpr_cellAt 49 = .ok (.istore 5, 2) := by decide +kernel
theorem d_Mpr_cellAt_51 : decode b_Mpr_cellAt 51 = .ok (.iload 4, 2) := by decide +kernel
theorem d_Mpr_cellAt_53 : decode b_Mpr_cellAt 53 = .ok (.ifCond .eq 14, 3) := by decide +kernel
theorem d_Mpr_cellAt_56 : decode b_Mpr_cellAt 56 = .ok (.lload_n 2, 1) := by decide +kernel
theorem d_Mpr_cellAt_57 : decode b_Mpr_cellAt 57 = .ok (.ldc2_w 238, 3) := by decide +kernel
theorem d_Mpr_cellAt_60 : decode b_Mpr_cellAt 60 = .ok (.lsub, 1) := by decide +kernel
theorem d_Mpr_cellAt_61 : decode b_Mpr_cellAt 61 = .ok (.l2i, 1) := by decide +kernel
theorem d_Mpr_cellAt_62 : decode b_Mpr_cellAt 62 = .ok (.iconst 4, 1) := by decide +kernel
theorem d_Mpr_cellAt_63 : decode b_Mpr_cellAt 63 = .ok (.idiv, 1) := by decide +kernel
theorem d_Mpr_cellAt_64 : decode b_Mpr_cellAt 64 = .ok (.goto 24, 3) := by decide +kernel
theorem d_Mpr_cellAt_67 : decode b_Mpr_cellAt 67 = .ok (.iload 5, 2) := by decide +kernel
theorem d_Mpr_cellAt_69 : decode b_Mpr_cellAt 69 = .ok (.ifCond .eq 18, 3) := by decide +kernel
theorem d_Mpr_cellAt_72 : decode b_Mpr_cellAt 72 = .ok (.sipush 4096, 3) := by decide +kernel
theorem d_Mpr_cellAt_75 : decode b_Mpr_cellAt 75 = .ok (.lload_n 2, 1) := by decide +kernel
theorem d_Mpr_cellAt_76 : decode b_Mpr_cellAt 76 = .ok (.ldc2_w 242, 3) := by decide +kernel
theorem d_Mpr_cellAt_79 : decode b_Mpr_cellAt 79 = .ok (.lsub, 1) := by decide +kernel
theorem d_Mpr_cellAt_80 : decode b_Mpr_cellAt 80 = .ok (.l2i, 1) := by decide +kernel
theorem d_Mpr_cellAt_81 : decode b_Mpr_cellAt 81 = .ok (.iconst 4, 1) := by decide +kernel
theorem d_Mpr_cellAt_82 : decode b_Mpr_cellAt 82 = .ok (.idiv, 1) := by decide +kernel
theorem d_Mpr_cellAt_83 : decode b_Mpr_cellAt 83 = .ok (.iadd, 1) := by decide +kernel
theorem d_Mpr_cellAt_84 : decode b_Mpr_cellAt 84 = .ok (.goto 4, 3) := by decide +kernel
theorem d_Mpr_cellAt_87 : decode b_Mpr_cellAt 87 = .ok (.iconst (-1), 1) := by decide +kernel
theorem d_Mpr_cellAt_88 : decode b_Mpr_cellAt 88 = .ok (.ireturn, 1) := by decide +kernel
theorem q_Mpr_cellAt : px_y y_Mpr_cellAt 1 := by unfold px_y; decide +kernel
set_option maxHeartbeats 4000000 in
set_option maxRecDepth 100000 in
theorem c_mr_cellAt (l : Launch) (D : va_G) (cs : Nat → ClassId) (nf : Int) (q : Nat) (qr : Nat → Nat) (qg : Nat → Nat → Option Nat) (qf : Nat → Int32) (qa : Nat → Nat → Int32) (h : Nat) (r : Nat → Nat) (g : Nat → Nat → Option Nat) (tf : Nat → Int32) (ta : Nat → Nat → Int32) (pf : Nat → Int32) (na : Nat → Nat → Int32) (ma : Nat → Nat → Int32) (wa : Nat → Nat → Int32) (cf : Nat → Int32) (ca : Nat → Nat → Int32) (ef : Nat → Int32) (ea : Nat → Nat → Int32) (xf : Nat → Int32) (xa : Nat → Nat → Int32) (p0 : Int32)   : MetI l y_Mpr_cellAt b_Mpr_cellAt 6 (.int) D cs 1 30 (0) (0) [.ref q, .int p0] [wd_Mpr cs q qr (fun k => if k = 0 then (some h) else none) qf qa qg, wdP cs h r g tf ta pf na ma wa cf ca ef ea xf xa] (oX (fun A U H => (oP A g U H)) [wd_Mpr cs q qr (fun k => if k = 0 then (some h) else none) qf qa qg, wdP cs h r g tf ta pf na ma wa cf ca ef ea xf xa]) (fun v ps => (ps = [wd_Mpr cs q qr (fun k => if k = 0 then (some h) else none) qf qa qg, wdP cs h r g tf ta pf na ma wa cf ca ef ea xf xa]) ∧ (-1 ≤ v.toInt) ∧ (v.toInt ≤ 36863) ∧ (0 ≤ v.toInt → (5242880 ≤ p0.toInt % 4294967296 ∧ p0.toInt % 4294967296 < 5259264) ∨ (8257536 ≤ p0.toInt % 4294967296 ∧ p0.toInt % 4294967296 < 8388608)) ∧ (((5242880 ≤ p0.toInt % 4294967296 ∧ p0.toInt % 4294967296 < 5259264) ∨ (8257536 ≤ p0.toInt % 4294967296 ∧ p0.toInt % 4294967296 < 8388608)) → 0 ≤ v.toInt)) := by
  refine px_enter (by decide) (Nat.le_of_ble_eq_true rfl) ?_
  intro p e s m below meth c A ls hAe S hr hlk hnm hA hT hX hw hl
  replace hl : lv_has ls 6 [(0, .ref q), (1, .int p0)] := hl
  have lp0 := Int32.le_toInt p0
  have up0 := Int32.toInt_lt p0
  have cstm1 : ((-1) : Int32).toInt = (-1) := rfl
  have cst0 : (0 : Int32).toInt = 0 := rfl
  have cst1 : (1 : Int32).toInt = 1 := rfl
  have cst4 : (4 : Int32).toInt = 4 := rfl
  have cst4096 : (4096 : Int32).toInt = 4096 := rfl
  have hX : (fun A U H => (oP A g U H)) A s s.heap := by rw [hAe]; exact hX
  have hP := hX
  have hZ := hP.1
  have hF0 := hP.2.1
  refine lv_iload_n S.x S.b d_Mpr_cellAt_0 rfl (lv_at hl 1 rfl) ?_
  refine px_calll (pr := [wd_Mpr cs q qr (fun k => if k = 0 then (some h) else none) qf qa qg, wdP cs h r g tf ta pf na ma wa cf ca ef ea xf xa]) (px_runS (As := [.int p0]) (rest := []) S (c_mr_plain l D cs  p0   _) hT (pr := [wd_Mpr cs q qr (fun k => if k = 0 then (some h) else none) qf qa qg, wdP cs h r g tf ta pf na ma wa cf ca ef ea xf xa]) (pcs := []) hw px_X.tt m13_188 m13_186 m13_187 m1_22 q_Mpr_plain ⟨Nat.le_of_ble_eq_true rfl, Nat.le_of_ble_eq_true rfl⟩ hl.1 rfl (Nat.le_of_ble_eq_true rfl) d_Mpr_cellAt_1 ⟨Nat.le_of_ble_eq_true rfl, Nat.le_of_ble_eq_true rfl⟩) hw hA (fun v2 p1 H locs hp1 hw => ?_)
  obtain ⟨rfl, e3⟩ := hp1
  replace e3 : v2.toInt = p0.toInt % 4294967296 := e3
  replace hw : pw D A s.heap H locs [wd_Mpr cs q qr (fun k => if k = 0 then (some h) else none) qf qa qg, wdP cs h r g tf ta pf na ma wa cf ca ef ea xf xa] := hw
  refine lv_lstore_n (lv' := [(2, .long v2), (0, .ref q), (1, .int p0)]) S.x S.b d_Mpr_cellAt_4 rfl hl (by decide) rfl (fun ls hl => ?_)
  refine lv_lload_n S.x S.b d_Mpr_cellAt_5 rfl (lv_at hl 0 rfl) ?_
  refine lv_ldc2 (v := 5242880) S.x S.b S.own (S.w m13_202) d_Mpr_cellAt_6 ?_
  have cl_5242880 : (5242880 : Int64).toInt = 5242880 := rfl
  refine W.lcmp S.x S.b d_Mpr_cellAt_9 ?_
  refine lv_topi (fun z4 ez4 => ?_)
  have tz4 := l_cmp (x := v2) (y := 5242880) (z := z4) (by rw [ez4]; rfl)
  have lz4 := Int32.le_toInt z4
  have uz4 := Int32.toInt_lt z4
  refine lv_if_lt (tgt := 25) S.x S.b d_Mpr_cellAt_10 (by decide) (fun c5 => ?_) (fun c5 => ?_)
  · have nc5 : z4.toInt < (0 : Int) := (i_lt (x := z4) (y := 0)).mp c5
    refine lv_iconst (v := 0) S.x S.b d_Mpr_cellAt_25 (by decide) ?_
    refine lv_istore (lv' := [(4, .int 0), (2, .long v2), (0, .ref q), (1, .int p0)]) S.x S.b d_Mpr_cellAt_26 hl (by decide) rfl (fun ls hl => ?_)
    refine lv_lload_n S.x S.b d_Mpr_cellAt_28 rfl (lv_at hl 1 rfl) ?_
    refine lv_ldc2 (v := 8257536) S.x S.b S.own (S.w m13_204) d_Mpr_cellAt_29 ?_
    have cl_8257536 : (8257536 : Int64).toInt = 8257536 := rfl
    refine W.lcmp S.x S.b d_Mpr_cellAt_32 ?_
    refine lv_topi (fun z6 ez6 => ?_)
    have tz6 := l_cmp (x := v2) (y := 8257536) (z := z6) (by rw [ez6]; rfl)
    have lz6 := Int32.le_toInt z6
    have uz6 := Int32.toInt_lt z6
    refine lv_if_lt (tgt := 48) S.x S.b d_Mpr_cellAt_33 (by decide) (fun c7 => ?_) (fun c7 => ?_)
    · have nc7 : z6.toInt < (0 : Int) := (i_lt (x := z6) (y := 0)).mp c7
      refine lv_iconst (v := 0) S.x S.b d_Mpr_cellAt_48 (by decide) ?_
      refine lv_istore (lv' := [(5, .int 0), (4, .int 0), (2, .long v2), (0, .ref q), (1, .int p0)]) S.x S.b d_Mpr_cellAt_49 hl (by decide) rfl (fun ls hl => ?_)
      refine lv_iload S.x S.b d_Mpr_cellAt_51 (lv_at hl 1 rfl) ?_
      refine lv_if_eq (tgt := 67) S.x S.b d_Mpr_cellAt_53 (by decide) (fun c8 => ?_) (fun c8 => ?_)
      ·
        refine lv_iload S.x S.b d_Mpr_cellAt_67 (lv_at hl 0 rfl) ?_
        refine lv_if_eq (tgt := 87) S.x S.b d_Mpr_cellAt_69 (by decide) (fun c9 => ?_) (fun c9 => ?_)
        ·
          refine lv_iconst (v := (-1)) S.x S.b d_Mpr_cellAt_87 (by decide) ?_
          exact px_iret (v := (-1)) S hr rfl hlk hAe hw (Nat.le_of_ble_eq_true rfl) (Nat.le_of_ble_eq_true rfl) (⟨rfl, (show -1 ≤ (-1 : Int) from by first | decide | omega), (show (-1 : Int) ≤ 36863 from by first | decide | omega), (show 0 ≤ (-1 : Int) → (5242880 ≤ p0.toInt % 4294967296 ∧ p0.toInt % 4294967296 < 5259264) ∨ (8257536 ≤ p0.toInt % 4294967296 ∧ p0.toInt % 4294967296 < 8388608) from by first | with_reducible rfl | with_reducible assumption | omega), (show ((5242880 ≤ p0.toInt % 4294967296 ∧ p0.toInt % 4294967296 < 5259264) ∨ (8257536 ≤ p0.toInt % 4294967296 ∧ p0.toInt % 4294967296 < 8388608)) → 0 ≤ (-1 : Int) from by first | with_reducible rfl | with_reducible assumption | omega)⟩) d_Mpr_cellAt_88
        · exact absurd c9 (by decide)
      · exact absurd c8 (by decide)
    · have nc7 : ¬ z6.toInt < (0 : Int) := mt (i_lt (x := z6) (y := 0)).mpr c7
      refine lv_lload_n S.x S.b d_Mpr_cellAt_36 rfl (lv_at hl 1 rfl) ?_
      refine lv_ldc2 (v := 8388608) S.x S.b S.own (S.w m13_205) d_Mpr_cellAt_37 ?_
      have cl_8388608 : (8388608 : Int64).toInt = 8388608 := rfl
      refine W.lcmp S.x S.b d_Mpr_cellAt_40 ?_
      refine lv_topi (fun z10 ez10 => ?_)
      have tz10 := l_cmp (x := v2) (y := 8388608) (z := z10) (by rw [ez10]; rfl)
      have lz10 := Int32.le_toInt z10
      have uz10 := Int32.toInt_lt z10
      refine lv_if_ge (tgt := 48) S.x S.b d_Mpr_cellAt_41 (by decide) (fun c11 => ?_) (fun c11 => ?_)
      · have nc11 : (0 : Int) ≤ z10.toInt := (i_le (x := 0) (y := z10)).mp c11
        refine lv_iconst (v := 0) S.x S.b d_Mpr_cellAt_48 (by decide) ?_
        refine lv_istore (lv' := [(5, .int 0), (4, .int 0), (2, .long v2), (0, .ref q), (1, .int p0)]) S.x S.b d_Mpr_cellAt_49 hl (by decide) rfl (fun ls hl => ?_)
        refine lv_iload S.x S.b d_Mpr_cellAt_51 (lv_at hl 1 rfl) ?_
        refine lv_if_eq (tgt := 67) S.x S.b d_Mpr_cellAt_53 (by decide) (fun c12 => ?_) (fun c12 => ?_)
        ·
          refine lv_iload S.x S.b d_Mpr_cellAt_67 (lv_at hl 0 rfl) ?_
          refine lv_if_eq (tgt := 87) S.x S.b d_Mpr_cellAt_69 (by decide) (fun c13 => ?_) (fun c13 => ?_)
          ·
            refine lv_iconst (v := (-1)) S.x S.b d_Mpr_cellAt_87 (by decide) ?_
            exact px_iret (v := (-1)) S hr rfl hlk hAe hw (Nat.le_of_ble_eq_true rfl) (Nat.le_of_ble_eq_true rfl) (⟨rfl, (show -1 ≤ (-1 : Int) from by first | decide | omega), (show (-1 : Int) ≤ 36863 from by first | decide | omega), (show 0 ≤ (-1 : Int) → (5242880 ≤ p0.toInt % 4294967296 ∧ p0.toInt % 4294967296 < 5259264) ∨ (8257536 ≤ p0.toInt % 4294967296 ∧ p0.toInt % 4294967296 < 8388608) from by first | with_reducible rfl | with_reducible assumption | omega), (show ((5242880 ≤ p0.toInt % 4294967296 ∧ p0.toInt % 4294967296 < 5259264) ∨ (8257536 ≤ p0.toInt % 4294967296 ∧ p0.toInt % 4294967296 < 8388608)) → 0 ≤ (-1 : Int) from by first | with_reducible rfl | with_reducible assumption | omega)⟩) d_Mpr_cellAt_88
          · exact absurd c13 (by decide)
        · exact absurd c12 (by decide)
      · have nc11 : ¬ (0 : Int) ≤ z10.toInt := mt (i_le (x := 0) (y := z10)).mpr c11
        refine lv_iconst (v := 1) S.x S.b d_Mpr_cellAt_44 (by decide) ?_
        refine lv_goto (tgt := 49) S.x S.b d_Mpr_cellAt_45 (by decide) ?_
        refine lv_istore (lv' := [(5, .int 1), (4, .int 0), (2, .long v2), (0, .ref q), (1, .int p0)]) S.x S.b d_Mpr_cellAt_49 hl (by decide) rfl (fun ls hl => ?_)
        refine lv_iload S.x S.b d_Mpr_cellAt_51 (lv_at hl 1 rfl) ?_
        refine lv_if_eq (tgt := 67) S.x S.b d_Mpr_cellAt_53 (by decide) (fun c14 => ?_) (fun c14 => ?_)
        ·
          refine lv_iload S.x S.b d_Mpr_cellAt_67 (lv_at hl 0 rfl) ?_
          refine lv_if_eq (tgt := 87) S.x S.b d_Mpr_cellAt_69 (by decide) (fun c15 => ?_) (fun c15 => ?_)
          · exact absurd c15 (by decide)
          ·
            refine lv_sipush (v := 4096) S.x S.b d_Mpr_cellAt_72 (by decide) ?_
            refine lv_lload_n S.x S.b d_Mpr_cellAt_75 rfl (lv_at hl 2 rfl) ?_
            refine lv_ldc2 (v := 8257536) S.x S.b S.own (S.w m13_204) d_Mpr_cellAt_76 ?_
            have cl_8257536 : (8257536 : Int64).toInt = 8257536 := rfl
            refine lv_lsub S.x S.b d_Mpr_cellAt_79 ?_
            refine lv_topl (fun z16 ez16 => ?_)
            have tz16 : z16.toInt = v2.toInt - 8257536 := by rw [ez16, l_sub (by omega) (by omega)]; omega
            refine lv_l2i S.x S.b d_Mpr_cellAt_80 rfl ?_
            refine lv_topi (fun z17 ez17 => ?_)
            have tz17 : z17.toInt = z16.toInt := by rw [ez17]; exact l_l2i (by omega) (by omega)
            have lz17 := Int32.le_toInt z17
            have uz17 := Int32.toInt_lt z17
            refine lv_iconst (v := 4) S.x S.b d_Mpr_cellAt_81 (by decide) ?_
            refine lv_idiv S.x S.b d_Mpr_cellAt_82 (fun hz0 => by have hz1 := i_eq.mp hz0; omega) ?_
            refine lv_topi (fun z18 ez18 => ?_)
            have tz18 : z18.toInt = z17.toInt / 4 := by rw [ez18]; exact i_dv4 (by omega)
            have lz18 := Int32.le_toInt z18
            have uz18 := Int32.toInt_lt z18
            refine lv_iadd S.x S.b d_Mpr_cellAt_83 ?_
            refine lv_topi (fun z19 ez19 => ?_)
            have tz19 : z19.toInt = ((4096 : Int) + z18.toInt + 2147483648) % 4294967296 - 2147483648 := by rw [ez19]; exact i_add 4096 z18
            have lz19 := Int32.le_toInt z19
            have uz19 := Int32.toInt_lt z19
            try replace tz19 : z19.toInt = (4096 : Int) + z18.toInt := by omega
            refine lv_goto (tgt := 88) S.x S.b d_Mpr_cellAt_84 (by decide) ?_
            exact px_iret (v := z19) S hr rfl hlk hAe hw (Nat.le_of_ble_eq_true rfl) (Nat.le_of_ble_eq_true rfl) (⟨rfl, (show -1 ≤ z19.toInt from by first | with_reducible rfl | with_reducible assumption | omega), (show z19.toInt ≤ 36863 from by first | with_reducible rfl | with_reducible assumption | omega), (show 0 ≤ z19.toInt → (5242880 ≤ p0.toInt % 4294967296 ∧ p0.toInt % 4294967296 < 5259264) ∨ (8257536 ≤ p0.toInt % 4294967296 ∧ p0.toInt % 4294967296 < 8388608) from by first | with_reducible rfl | with_reducible assumption | omega), (show ((5242880 ≤ p0.toInt % 4294967296 ∧ p0.toInt % 4294967296 < 5259264) ∨ (8257536 ≤ p0.toInt % 4294967296 ∧ p0.toInt % 4294967296 < 8388608)) → 0 ≤ z19.toInt from by first | with_reducible rfl | with_reducible assumption | omega)⟩) d_Mpr_cellAt_88
        · exact absurd c14 (by decide)
  · have nc5 : ¬ z4.toInt < (0 : Int) := mt (i_lt (x := z4) (y := 0)).mpr c5
    refine lv_lload_n S.x S.b d_Mpr_cellAt_13 rfl (lv_at hl 0 rfl) ?_
    refine lv_ldc2 (v := 5259264) S.x S.b S.own (S.w m13_203) d_Mpr_cellAt_14 ?_
    have cl_5259264 : (5259264 : Int64).toInt = 5259264 := rfl
    refine W.lcmp S.x S.b d_Mpr_cellAt_17 ?_
    refine lv_topi (fun z20 ez20 => ?_)
    have tz20 := l_cmp (x := v2) (y := 5259264) (z := z20) (by rw [ez20]; rfl)
    have lz20 := Int32.le_toInt z20
    have uz20 := Int32.toInt_lt z20
    refine lv_if_ge (tgt := 25) S.x S.b d_Mpr_cellAt_18 (by decide) (fun c21 => ?_) (fun c21 => ?_)
    · have nc21 : (0 : Int) ≤ z20.toInt := (i_le (x := 0) (y := z20)).mp c21
      refine lv_iconst (v := 0) S.x S.b d_Mpr_cellAt_25 (by decide) ?_
      refine lv_istore (lv' := [(4, .int 0), (2, .long v2), (0, .ref q), (1, .int p0)]) S.x S.b d_Mpr_cellAt_26 hl (by decide) rfl (fun ls hl => ?_)
      refine lv_lload_n S.x S.b d_Mpr_cellAt_28 rfl (lv_at hl 1 rfl) ?_
      refine lv_ldc2 (v := 8257536) S.x S.b S.own (S.w m13_204) d_Mpr_cellAt_29 ?_
      have cl_8257536 : (8257536 : Int64).toInt = 8257536 := rfl
      refine W.lcmp S.x S.b d_Mpr_cellAt_32 ?_
      refine lv_topi (fun z22 ez22 => ?_)
      have tz22 := l_cmp (x := v2) (y := 8257536) (z := z22) (by rw [ez22]; rfl)
      have lz22 := Int32.le_toInt z22
      have uz22 := Int32.toInt_lt z22
      refine lv_if_lt (tgt := 48) S.x S.b d_Mpr_cellAt_33 (by decide) (fun c23 => ?_) (fun c23 => ?_)
      · have nc23 : z22.toInt < (0 : Int) := (i_lt (x := z22) (y := 0)).mp c23
        refine lv_iconst (v := 0) S.x S.b d_Mpr_cellAt_48 (by decide) ?_
        refine lv_istore (lv' := [(5, .int 0), (4, .int 0), (2, .long v2), (0, .ref q), (1, .int p0)]) S.x S.b d_Mpr_cellAt_49 hl (by decide) rfl (fun ls hl => ?_)
        refine lv_iload S.x S.b d_Mpr_cellAt_51 (lv_at hl 1 rfl) ?_
        refine lv_if_eq (tgt := 67) S.x S.b d_Mpr_cellAt_53 (by decide) (fun c24 => ?_) (fun c24 => ?_)
        ·
          refine lv_iload S.x S.b d_Mpr_cellAt_67 (lv_at hl 0 rfl) ?_
          refine lv_if_eq (tgt := 87) S.x S.b d_Mpr_cellAt_69 (by decide) (fun c25 => ?_) (fun c25 => ?_)
          ·
            refine lv_iconst (v := (-1)) S.x S.b d_Mpr_cellAt_87 (by decide) ?_
            exact px_iret (v := (-1)) S hr rfl hlk hAe hw (Nat.le_of_ble_eq_true rfl) (Nat.le_of_ble_eq_true rfl) (⟨rfl, (show -1 ≤ (-1 : Int) from by first | decide | omega), (show (-1 : Int) ≤ 36863 from by first | decide | omega), (show 0 ≤ (-1 : Int) → (5242880 ≤ p0.toInt % 4294967296 ∧ p0.toInt % 4294967296 < 5259264) ∨ (8257536 ≤ p0.toInt % 4294967296 ∧ p0.toInt % 4294967296 < 8388608) from by first | with_reducible rfl | with_reducible assumption | omega), (show ((5242880 ≤ p0.toInt % 4294967296 ∧ p0.toInt % 4294967296 < 5259264) ∨ (8257536 ≤ p0.toInt % 4294967296 ∧ p0.toInt % 4294967296 < 8388608)) → 0 ≤ (-1 : Int) from by first | with_reducible rfl | with_reducible assumption | omega)⟩) d_Mpr_cellAt_88
          · exact absurd c25 (by decide)
        · exact absurd c24 (by decide)
      · have nc23 : ¬ z22.toInt < (0 : Int) := mt (i_lt (x := z22) (y := 0)).mpr c23
        refine lv_lload_n S.x S.b d_Mpr_cellAt_36 rfl (lv_at hl 1 rfl) ?_
        refine lv_ldc2 (v := 8388608) S.x S.b S.own (S.w m13_205) d_Mpr_cellAt_37 ?_
        have cl_8388608 : (8388608 : Int64).toInt = 8388608 := rfl
        refine W.lcmp S.x S.b d_Mpr_cellAt_40 ?_
        refine lv_topi (fun z26 ez26 => ?_)
        have tz26 := l_cmp (x := v2) (y := 8388608) (z := z26) (by rw [ez26]; rfl)
        have lz26 := Int32.le_toInt z26
        have uz26 := Int32.toInt_lt z26
        refine lv_if_ge (tgt := 48) S.x S.b d_Mpr_cellAt_41 (by decide) (fun c27 => ?_) (fun c27 => ?_)
        · have nc27 : (0 : Int) ≤ z26.toInt := (i_le (x := 0) (y := z26)).mp c27
          refine lv_iconst (v := 0) S.x S.b d_Mpr_cellAt_48 (by decide) ?_
          refine lv_istore (lv' := [(5, .int 0), (4, .int 0), (2, .long v2), (0, .ref q), (1, .int p0)]) S.x S.b d_Mpr_cellAt_49 hl (by decide) rfl (fun ls hl => ?_)
          refine lv_iload S.x S.b d_Mpr_cellAt_51 (lv_at hl 1 rfl) ?_
          refine lv_if_eq (tgt := 67) S.x S.b d_Mpr_cellAt_53 (by decide) (fun c28 => ?_) (fun c28 => ?_)
          ·
            refine lv_iload S.x S.b d_Mpr_cellAt_67 (lv_at hl 0 rfl) ?_
            refine lv_if_eq (tgt := 87) S.x S.b d_Mpr_cellAt_69 (by decide) (fun c29 => ?_) (fun c29 => ?_)
            ·
              refine lv_iconst (v := (-1)) S.x S.b d_Mpr_cellAt_87 (by decide) ?_
              exact px_iret (v := (-1)) S hr rfl hlk hAe hw (Nat.le_of_ble_eq_true rfl) (Nat.le_of_ble_eq_true rfl) (⟨rfl, (show -1 ≤ (-1 : Int) from by first | decide | omega), (show (-1 : Int) ≤ 36863 from by first | decide | omega), (show 0 ≤ (-1 : Int) → (5242880 ≤ p0.toInt % 4294967296 ∧ p0.toInt % 4294967296 < 5259264) ∨ (8257536 ≤ p0.toInt % 4294967296 ∧ p0.toInt % 4294967296 < 8388608) from by first | with_reducible rfl | with_reducible assumption | omega), (show ((5242880 ≤ p0.toInt % 4294967296 ∧ p0.toInt % 4294967296 < 5259264) ∨ (8257536 ≤ p0.toInt % 4294967296 ∧ p0.toInt % 4294967296 < 8388608)) → 0 ≤ (-1 : Int) from by first | with_reducible rfl | with_reducible assumption | omega)⟩) d_Mpr_cellAt_88
            · exact absurd c29 (by decide)
          · exact absurd c28 (by decide)
        · have nc27 : ¬ (0 : Int) ≤ z26.toInt := mt (i_le (x := 0) (y := z26)).mpr c27
          refine lv_iconst (v := 1) S.x S.b d_Mpr_cellAt_44 (by decide) ?_
          refine lv_goto (tgt := 49) S.x S.b d_Mpr_cellAt_45 (by decide) ?_
          refine lv_istore (lv' := [(5, .int 1), (4, .int 0), (2, .long v2), (0, .ref q), (1, .int p0)]) S.x S.b d_Mpr_cellAt_49 hl (by decide) rfl (fun ls hl => ?_)
          refine lv_iload S.x S.b d_Mpr_cellAt_51 (lv_at hl 1 rfl) ?_
          refine lv_if_eq (tgt := 67) S.x S.b d_Mpr_cellAt_53 (by decide) (fun c30 => ?_) (fun c30 => ?_)
          ·
            refine lv_iload S.x S.b d_Mpr_cellAt_67 (lv_at hl 0 rfl) ?_
            refine lv_if_eq (tgt := 87) S.x S.b d_Mpr_cellAt_69 (by decide) (fun c31 => ?_) (fun c31 => ?_)
            · exact absurd c31 (by decide)
            ·
              refine lv_sipush (v := 4096) S.x S.b d_Mpr_cellAt_72 (by decide) ?_
              refine lv_lload_n S.x S.b d_Mpr_cellAt_75 rfl (lv_at hl 2 rfl) ?_
              refine lv_ldc2 (v := 8257536) S.x S.b S.own (S.w m13_204) d_Mpr_cellAt_76 ?_
              have cl_8257536 : (8257536 : Int64).toInt = 8257536 := rfl
              refine lv_lsub S.x S.b d_Mpr_cellAt_79 ?_
              refine lv_topl (fun z32 ez32 => ?_)
              have tz32 : z32.toInt = v2.toInt - 8257536 := by rw [ez32, l_sub (by omega) (by omega)]; omega
              refine lv_l2i S.x S.b d_Mpr_cellAt_80 rfl ?_
              refine lv_topi (fun z33 ez33 => ?_)
              have tz33 : z33.toInt = z32.toInt := by rw [ez33]; exact l_l2i (by omega) (by omega)
              have lz33 := Int32.le_toInt z33
              have uz33 := Int32.toInt_lt z33
              refine lv_iconst (v := 4) S.x S.b d_Mpr_cellAt_81 (by decide) ?_
              refine lv_idiv S.x S.b d_Mpr_cellAt_82 (fun hz0 => by have hz1 := i_eq.mp hz0; omega) ?_
              refine lv_topi (fun z34 ez34 => ?_)
              have tz34 : z34.toInt = z33.toInt / 4 := by rw [ez34]; exact i_dv4 (by omega)
              have lz34 := Int32.le_toInt z34
              have uz34 := Int32.toInt_lt z34
              refine lv_iadd S.x S.b d_Mpr_cellAt_83 ?_
              refine lv_topi (fun z35 ez35 => ?_)
              have tz35 : z35.toInt = ((4096 : Int) + z34.toInt + 2147483648) % 4294967296 - 2147483648 := by rw [ez35]; exact i_add 4096 z34
              have lz35 := Int32.le_toInt z35
              have uz35 := Int32.toInt_lt z35
              try replace tz35 : z35.toInt = (4096 : Int) + z34.toInt := by omega
              refine lv_goto (tgt := 88) S.x S.b d_Mpr_cellAt_84 (by decide) ?_
              exact px_iret (v := z35) S hr rfl hlk hAe hw (Nat.le_of_ble_eq_true rfl) (Nat.le_of_ble_eq_true rfl) (⟨rfl, (show -1 ≤ z35.toInt from by first | with_reducible rfl | with_reducible assumption | omega), (show z35.toInt ≤ 36863 from by first | with_reducible rfl | with_reducible assumption | omega), (show 0 ≤ z35.toInt → (5242880 ≤ p0.toInt % 4294967296 ∧ p0.toInt % 4294967296 < 5259264) ∨ (8257536 ≤ p0.toInt % 4294967296 ∧ p0.toInt % 4294967296 < 8388608) from by first | with_reducible rfl | with_reducible assumption | omega), (show ((5242880 ≤ p0.toInt % 4294967296 ∧ p0.toInt % 4294967296 < 5259264) ∨ (8257536 ≤ p0.toInt % 4294967296 ∧ p0.toInt % 4294967296 < 8388608)) → 0 ≤ z35.toInt from by first | with_reducible rfl | with_reducible assumption | omega)⟩) d_Mpr_cellAt_88
          · exact absurd c30 (by decide)
    · have nc21 : ¬ (0 : Int) ≤ z20.toInt := mt (i_le (x := 0) (y := z20)).mpr c21
      refine lv_iconst (v := 1) S.x S.b d_Mpr_cellAt_21 (by decide) ?_
      refine lv_goto (tgt := 26) S.x S.b d_Mpr_cellAt_22 (by decide) ?_
      refine lv_istore (lv' := [(4, .int 1), (2, .long v2), (0, .ref q), (1, .int p0)]) S.x S.b d_Mpr_cellAt_26 hl (by decide) rfl (fun ls hl => ?_)
      refine lv_lload_n S.x S.b d_Mpr_cellAt_28 rfl (lv_at hl 1 rfl) ?_
      refine lv_ldc2 (v := 8257536) S.x S.b S.own (S.w m13_204) d_Mpr_cellAt_29 ?_
      have cl_8257536 : (8257536 : Int64).toInt = 8257536 := rfl
      refine W.lcmp S.x S.b d_Mpr_cellAt_32 ?_
      refine lv_topi (fun z36 ez36 => ?_)
      have tz36 := l_cmp (x := v2) (y := 8257536) (z := z36) (by rw [ez36]; rfl)
      have lz36 := Int32.le_toInt z36
      have uz36 := Int32.toInt_lt z36
      refine lv_if_lt (tgt := 48) S.x S.b d_Mpr_cellAt_33 (by decide) (fun c37 => ?_) (fun c37 => ?_)
      · have nc37 : z36.toInt < (0 : Int) := (i_lt (x := z36) (y := 0)).mp c37
        refine lv_iconst (v := 0) S.x S.b d_Mpr_cellAt_48 (by decide) ?_
        refine lv_istore (lv' := [(5, .int 0), (4, .int 1), (2, .long v2), (0, .ref q), (1, .int p0)]) S.x S.b d_Mpr_cellAt_49 hl (by decide) rfl (fun ls hl => ?_)
        refine lv_iload S.x S.b d_Mpr_cellAt_51 (lv_at hl 1 rfl) ?_
        refine lv_if_eq (tgt := 67) S.x S.b d_Mpr_cellAt_53 (by decide) (fun c38 => ?_) (fun c38 => ?_)
        · exact absurd c38 (by decide)
        ·
          refine lv_lload_n S.x S.b d_Mpr_cellAt_56 rfl (lv_at hl 2 rfl) ?_
          refine lv_ldc2 (v := 5242880) S.x S.b S.own (S.w m13_202) d_Mpr_cellAt_57 ?_
          have cl_5242880 : (5242880 : Int64).toInt = 5242880 := rfl
          refine lv_lsub S.x S.b d_Mpr_cellAt_60 ?_
          refine lv_topl (fun z39 ez39 => ?_)
          have tz39 : z39.toInt = v2.toInt - 5242880 := by rw [ez39, l_sub (by omega) (by omega)]; omega
          refine lv_l2i S.x S.b d_Mpr_cellAt_61 rfl ?_
          refine lv_topi (fun z40 ez40 => ?_)
          have tz40 : z40.toInt = z39.toInt := by rw [ez40]; exact l_l2i (by omega) (by omega)
          have lz40 := Int32.le_toInt z40
          have uz40 := Int32.toInt_lt z40
          refine lv_iconst (v := 4) S.x S.b d_Mpr_cellAt_62 (by decide) ?_
          refine lv_idiv S.x S.b d_Mpr_cellAt_63 (fun hz0 => by have hz1 := i_eq.mp hz0; omega) ?_
          refine lv_topi (fun z41 ez41 => ?_)
          have tz41 : z41.toInt = z40.toInt / 4 := by rw [ez41]; exact i_dv4 (by omega)
          have lz41 := Int32.le_toInt z41
          have uz41 := Int32.toInt_lt z41
          refine lv_goto (tgt := 88) S.x S.b d_Mpr_cellAt_64 (by decide) ?_
          exact px_iret (v := z41) S hr rfl hlk hAe hw (Nat.le_of_ble_eq_true rfl) (Nat.le_of_ble_eq_true rfl) (⟨rfl, (show -1 ≤ z41.toInt from by first | with_reducible rfl | with_reducible assumption | omega), (show z41.toInt ≤ 36863 from by first | with_reducible rfl | with_reducible assumption | omega), (show 0 ≤ z41.toInt → (5242880 ≤ p0.toInt % 4294967296 ∧ p0.toInt % 4294967296 < 5259264) ∨ (8257536 ≤ p0.toInt % 4294967296 ∧ p0.toInt % 4294967296 < 8388608) from by first | with_reducible rfl | with_reducible assumption | omega), (show ((5242880 ≤ p0.toInt % 4294967296 ∧ p0.toInt % 4294967296 < 5259264) ∨ (8257536 ≤ p0.toInt % 4294967296 ∧ p0.toInt % 4294967296 < 8388608)) → 0 ≤ z41.toInt from by first | with_reducible rfl | with_reducible assumption | omega)⟩) d_Mpr_cellAt_88
      · have nc37 : ¬ z36.toInt < (0 : Int) := mt (i_lt (x := z36) (y := 0)).mpr c37
        refine lv_lload_n S.x S.b d_Mpr_cellAt_36 rfl (lv_at hl 1 rfl) ?_
        refine lv_ldc2 (v := 8388608) S.x S.b S.own (S.w m13_205) d_Mpr_cellAt_37 ?_
        have cl_8388608 : (8388608 : Int64).toInt = 8388608 := rfl
        refine W.lcmp S.x S.b d_Mpr_cellAt_40 ?_
        refine lv_topi (fun z42 ez42 => ?_)
        have tz42 := l_cmp (x := v2) (y := 8388608) (z := z42) (by rw [ez42]; rfl)
        have lz42 := Int32.le_toInt z42
        have uz42 := Int32.toInt_lt z42
        refine lv_if_ge (tgt := 48) S.x S.b d_Mpr_cellAt_41 (by decide) (fun c43 => ?_) (fun c43 => ?_)
        · have nc43 : (0 : Int) ≤ z42.toInt := (i_le (x := 0) (y := z42)).mp c43
          refine lv_iconst (v := 0) S.x S.b d_Mpr_cellAt_48 (by decide) ?_
          refine lv_istore (lv' := [(5, .int 0), (4, .int 1), (2, .long v2), (0, .ref q), (1, .int p0)]) S.x S.b d_Mpr_cellAt_49 hl (by decide) rfl (fun ls hl => ?_)
          refine lv_iload S.x S.b d_Mpr_cellAt_51 (lv_at hl 1 rfl) ?_
          refine lv_if_eq (tgt := 67) S.x S.b d_Mpr_cellAt_53 (by decide) (fun c44 => ?_) (fun c44 => ?_)
          · exact absurd c44 (by decide)
          ·
            refine lv_lload_n S.x S.b d_Mpr_cellAt_56 rfl (lv_at hl 2 rfl) ?_
            refine lv_ldc2 (v := 5242880) S.x S.b S.own (S.w m13_202) d_Mpr_cellAt_57 ?_
            have cl_5242880 : (5242880 : Int64).toInt = 5242880 := rfl
            refine lv_lsub S.x S.b d_Mpr_cellAt_60 ?_
            refine lv_topl (fun z45 ez45 => ?_)
            have tz45 : z45.toInt = v2.toInt - 5242880 := by rw [ez45, l_sub (by omega) (by omega)]; omega
            refine lv_l2i S.x S.b d_Mpr_cellAt_61 rfl ?_
            refine lv_topi (fun z46 ez46 => ?_)
            have tz46 : z46.toInt = z45.toInt := by rw [ez46]; exact l_l2i (by omega) (by omega)
            have lz46 := Int32.le_toInt z46
            have uz46 := Int32.toInt_lt z46
            refine lv_iconst (v := 4) S.x S.b d_Mpr_cellAt_62 (by decide) ?_
            refine lv_idiv S.x S.b d_Mpr_cellAt_63 (fun hz0 => by have hz1 := i_eq.mp hz0; omega) ?_
            refine lv_topi (fun z47 ez47 => ?_)
            have tz47 : z47.toInt = z46.toInt / 4 := by rw [ez47]; exact i_dv4 (by omega)
            have lz47 := Int32.le_toInt z47
            have uz47 := Int32.toInt_lt z47
            refine lv_goto (tgt := 88) S.x S.b d_Mpr_cellAt_64 (by decide) ?_
            exact px_iret (v := z47) S hr rfl hlk hAe hw (Nat.le_of_ble_eq_true rfl) (Nat.le_of_ble_eq_true rfl) (⟨rfl, (show -1 ≤ z47.toInt from by first | with_reducible rfl | with_reducible assumption | omega), (show z47.toInt ≤ 36863 from by first | with_reducible rfl | with_reducible assumption | omega), (show 0 ≤ z47.toInt → (5242880 ≤ p0.toInt % 4294967296 ∧ p0.toInt % 4294967296 < 5259264) ∨ (8257536 ≤ p0.toInt % 4294967296 ∧ p0.toInt % 4294967296 < 8388608) from by first | with_reducible rfl | with_reducible assumption | omega), (show ((5242880 ≤ p0.toInt % 4294967296 ∧ p0.toInt % 4294967296 < 5259264) ∨ (8257536 ≤ p0.toInt % 4294967296 ∧ p0.toInt % 4294967296 < 8388608)) → 0 ≤ z47.toInt from by first | with_reducible rfl | with_reducible assumption | omega)⟩) d_Mpr_cellAt_88
        · have nc43 : ¬ (0 : Int) ≤ z42.toInt := mt (i_le (x := 0) (y := z42)).mpr c43
          refine lv_iconst (v := 1) S.x S.b d_Mpr_cellAt_44 (by decide) ?_
          refine lv_goto (tgt := 49) S.x S.b d_Mpr_cellAt_45 (by decide) ?_
          refine lv_istore (lv' := [(5, .int 1), (4, .int 1), (2, .long v2), (0, .ref q), (1, .int p0)]) S.x S.b d_Mpr_cellAt_49 hl (by decide) rfl (fun ls hl => ?_)
          refine lv_iload S.x S.b d_Mpr_cellAt_51 (lv_at hl 1 rfl) ?_
          refine lv_if_eq (tgt := 67) S.x S.b d_Mpr_cellAt_53 (by decide) (fun c48 => ?_) (fun c48 => ?_)
          · exact absurd c48 (by decide)
          ·
            refine lv_lload_n S.x S.b d_Mpr_cellAt_56 rfl (lv_at hl 2 rfl) ?_
            refine lv_ldc2 (v := 5242880) S.x S.b S.own (S.w m13_202) d_Mpr_cellAt_57 ?_
            have cl_5242880 : (5242880 : Int64).toInt = 5242880 := rfl
            refine lv_lsub S.x S.b d_Mpr_cellAt_60 ?_
            refine lv_topl (fun z49 ez49 => ?_)
            have tz49 : z49.toInt = v2.toInt - 5242880 := by rw [ez49, l_sub (by omega) (by omega)]; omega
            refine lv_l2i S.x S.b d_Mpr_cellAt_61 rfl ?_
            refine lv_topi (fun z50 ez50 => ?_)
            have tz50 : z50.toInt = z49.toInt := by rw [ez50]; exact l_l2i (by omega) (by omega)
            have lz50 := Int32.le_toInt z50
            have uz50 := Int32.toInt_lt z50
            refine lv_iconst (v := 4) S.x S.b d_Mpr_cellAt_62 (by decide) ?_
            refine lv_idiv S.x S.b d_Mpr_cellAt_63 (fun hz0 => by have hz1 := i_eq.mp hz0; omega) ?_
            refine lv_topi (fun z51 ez51 => ?_)
            have tz51 : z51.toInt = z50.toInt / 4 := by rw [ez51]; exact i_dv4 (by omega)
            have lz51 := Int32.le_toInt z51
            have uz51 := Int32.toInt_lt z51
            refine lv_goto (tgt := 88) S.x S.b d_Mpr_cellAt_64 (by decide) ?_
            exact px_iret (v := z51) S hr rfl hlk hAe hw (Nat.le_of_ble_eq_true rfl) (Nat.le_of_ble_eq_true rfl) (⟨rfl, (show -1 ≤ z51.toInt from by first | with_reducible rfl | with_reducible assumption | omega), (show z51.toInt ≤ 36863 from by first | with_reducible rfl | with_reducible assumption | omega), (show 0 ≤ z51.toInt → (5242880 ≤ p0.toInt % 4294967296 ∧ p0.toInt % 4294967296 < 5259264) ∨ (8257536 ≤ p0.toInt % 4294967296 ∧ p0.toInt % 4294967296 < 8388608) from by first | with_reducible rfl | with_reducible assumption | omega), (show ((5242880 ≤ p0.toInt % 4294967296 ∧ p0.toInt % 4294967296 < 5259264) ∨ (8257536 ≤ p0.toInt % 4294967296 ∧ p0.toInt % 4294967296 < 8388608)) → 0 ≤ z51.toInt from by first | with_reducible rfl | with_reducible assumption | omega)⟩) d_Mpr_cellAt_88
abbrev b_Mpr_canRead : ByteArray := prog_15_method_26_code
def y_Mpr_canRead : MethodName := ⟨"HomeSystemModel$Process", "canRead", "(I)Z"⟩
theorem d_Mpr_canRead_0 : decode b_Mpr_canRead 0 = .ok (.aload_n 0, 1) := by decide +kernel
theorem d_Mpr_canRead_1 : decode b_Mpr_canRead 1 = .ok (.iload_n 1, 1) := by decide +kernel
theorem d_Mpr_canRead_2 : decode b_Mpr_canRead 2 = .ok (.invokevirtual 246, 3) := by decide +kernel
theorem d_Mpr_canRead_5 : decode b_Mpr_canRead 5 = .ok (.ifCond .ne 11, 3) := by decide +kernel
theorem d_Mpr_canRead_8 : decode b_Mpr_canRead 8 = .ok (.aload_n 0, 1) := by decide +kernel
theorem d_Mpr_canRead_9 : decode b_Mpr_canRead 9 = .ok (.iload_n 1, 1) := by decide +kernel
theorem d_Mpr_canRead_10 : decode b_Mpr_canRead 10 = .ok (.invokevirtual 249, 3) := by decide +kernel
theorem d_Mpr_canRead_13 : decode b_Mpr_canRead 13 = .ok (.ifCond .lt 7, 3) := by decide +kernel
theorem d_Mpr_canRead_16 : decode b_Mpr_canRead 16 = .ok (.iconst 1, 1) := by decide +kernel
theorem d_Mpr_canRead_17 : decode b_Mpr_canRead 17 = .ok (.goto 4, 3) := by decide +kernel
theorem d_Mpr_canRead_20 : decode b_Mpr_canRead 20 = .ok (.iconst 0, 1) := by decide +kernel
theorem d_Mpr_canRead_21 : decode b_Mpr_canRead 21 = .ok (.ireturn, 1) := by decide +kernel
theorem q_Mpr_canRead : px_y y_Mpr_canRead 1 := by unfold px_y; decide +kernel
set_option maxHeartbeats 4000000 in
set_option maxRecDepth 100000 in
theorem c_mr_canRead (l : Launch) (D : va_G) (cs : Nat → ClassId) (nf : Int) (q : Nat) (qr : Nat → Nat) (qg : Nat → Nat → Option Nat) (qf : Nat → Int32) (qa : Nat → Nat → Int32) (h : Nat) (r : Nat → Nat) (g : Nat → Nat → Option Nat) (tf : Nat → Int32) (ta : Nat → Nat → Int32) (pf : Nat → Int32) (na : Nat → Nat → Int32) (ma : Nat → Nat → Int32) (wa : Nat → Nat → Int32) (cf : Nat → Int32) (ca : Nat → Nat → Int32) (ef : Nat → Int32) (ea : Nat → Nat → Int32) (xf : Nat → Int32) (xa : Nat → Nat → Int32) (p0 : Int32)  (g0 : 0 ≤ (xf 68).toInt) (g1 : (xf 68).toInt ≤ 512) : MetI l y_Mpr_canRead b_Mpr_canRead 2 (.boolean) D cs 2 60 (0) (0) [.ref q, .int p0] [wd_Mpr cs q qr (fun k => if k = 0 then (some h) else none) qf qa qg, wdP cs h r g tf ta pf na ma wa cf ca ef ea xf xa] (oX (fun A U H => (oP A g U H)) [wd_Mpr cs q qr (fun k => if k = 0 then (some h) else none) qf qa qg, wdP cs h r g tf ta pf na ma wa cf ca ef ea xf xa]) (fun v ps => (ps = [wd_Mpr cs q qr (fun k => if k = 0 then (some h) else none) qf qa qg, wdP cs h r g tf ta pf na ma wa cf ca ef ea xf xa]) ∧ (0 ≤ v.toInt) ∧ (v.toInt ≤ 1) ∧ (v.toInt = 1 → (4194304 ≤ p0.toInt % 4294967296 ∧ p0.toInt % 4294967296 < 4194304 + (4 * (xf 68).toInt + 4095) / 4096 * 4096) ∨ (5242880 ≤ p0.toInt % 4294967296 ∧ p0.toInt % 4294967296 < 5259264) ∨ (8257536 ≤ p0.toInt % 4294967296 ∧ p0.toInt % 4294967296 < 8388608))) := by
  refine px_enter (by decide) (Nat.le_of_ble_eq_true rfl) ?_
  intro p e s m below meth c A ls hAe S hr hlk hnm hA hT hX hw hl
  replace hl : lv_has ls 2 [(0, .ref q), (1, .int p0)] := hl
  have lp0 := Int32.le_toInt p0
  have up0 := Int32.toInt_lt p0
  have cst0 : (0 : Int32).toInt = 0 := rfl
  have cst1 : (1 : Int32).toInt = 1 := rfl
  have hX : (fun A U H => (oP A g U H)) A s s.heap := by rw [hAe]; exact hX
  have hP := hX
  have hZ := hP.1
  have hF0 := hP.2.1
  refine lv_aload_n S.x S.b d_Mpr_canRead_0 rfl (lv_at hl 0 rfl) ?_
  refine lv_iload_n S.x S.b d_Mpr_canRead_1 rfl (lv_at hl 1 rfl) ?_
  refine px_calli (pr := []) (px_runV (As := [.int p0]) (rest := []) S (c_mr_isText l D cs (0 : Int) q qr qg qf qa h r g tf ta pf na ma wa cf ca ef ea xf xa p0  (show 0 ≤ (xf 68).toInt from by first | exact g0 | omega) (show (xf 68).toInt ≤ 512 from by first | exact g1 | omega) _) hT (pr := []) (pcs := [wd_Mpr cs q qr (fun k => if k = 0 then (some h) else none) qf qa qg, wdP cs h r g tf ta pf na ma wa cf ca ef ea xf xa]) hw (oX_call (P := (fun A U H => (oP A g U H))) (pr := []) oG_P hw hA hP) (px_recv hT hw 0 0 rfl rfl rfl) m13_181 m13_178 m13_180 ms_15_0 m1_22 q_Mpr_isText ⟨Nat.le_of_ble_eq_true rfl, Nat.le_of_ble_eq_true rfl⟩ hl.1 rfl (Nat.le_of_ble_eq_true rfl) d_Mpr_canRead_2 ⟨Nat.le_of_ble_eq_true rfl, Nat.le_of_ble_eq_true rfl⟩) hw hA (fun v2 p1 H locs hp1 hw => ?_)
  obtain ⟨rfl, e3, e4, e5, e6⟩ := hp1
  replace e3 : 0 ≤ v2.toInt := e3
  replace e4 : v2.toInt ≤ 1 := e4
  replace e5 : v2.toInt = 1 → (4194304 ≤ p0.toInt % 4294967296 ∧ p0.toInt % 4294967296 < 4194304 + (4 * (xf 68).toInt + 4095) / 4096 * 4096) := e5
  replace e6 : (4194304 ≤ p0.toInt % 4294967296 ∧ p0.toInt % 4294967296 < 4194304 + (4 * (xf 68).toInt + 4095) / 4096 * 4096) → v2.toInt = 1 := e6
  replace hw : pw D A s.heap H locs [wd_Mpr cs q qr (fun k => if k = 0 then (some h) else none) qf qa qg, wdP cs h r g tf ta pf na ma wa cf ca ef ea xf xa] := hw
  have lv2 := Int32.le_toInt v2
  have uv2 := Int32.toInt_lt v2
  refine lv_if_ne (tgt := 16) S.x S.b d_Mpr_canRead_5 (by decide) (fun c7 => ?_) (fun c7 => ?_)
  · have nc7 : ¬ v2.toInt = (0 : Int) := mt (i_eq (x := v2) (y := 0)).mpr c7
    refine lv_iconst (v := 1) S.x S.b d_Mpr_canRead_16 (by decide) ?_
    refine lv_goto (tgt := 21) S.x S.b d_Mpr_canRead_17 (by decide) ?_
    exact px_iret (v := 1) S hr rfl hlk hAe hw (Nat.le_of_ble_eq_true rfl) (Nat.le_of_ble_eq_true rfl) (⟨rfl, (show 0 ≤ (1 : Int) from by first | decide | omega), (show (1 : Int) ≤ 1 from by first | decide | omega), (show (1 : Int) = 1 → (4194304 ≤ p0.toInt % 4294967296 ∧ p0.toInt % 4294967296 < 4194304 + (4 * (xf 68).toInt + 4095) / 4096 * 4096) ∨ (5242880 ≤ p0.toInt % 4294967296 ∧ p0.toInt % 4294967296 < 5259264) ∨ (8257536 ≤ p0.toInt % 4294967296 ∧ p0.toInt % 4294967296 < 8388608) from by first | with_reducible rfl | with_reducible assumption | omega)⟩) d_Mpr_canRead_21
  · have nc7 : v2.toInt = (0 : Int) := (i_eq (x := v2) (y := 0)).mp c7
    refine lv_aload_n S.x S.b d_Mpr_canRead_8 rfl (lv_at hl 0 rfl) ?_
    refine lv_iload_n S.x S.b d_Mpr_canRead_9 rfl (lv_at hl 1 rfl) ?_
    refine px_calli (pr := []) (px_runV (As := [.int p0]) (rest := []) S (c_mr_cellAt l D cs (0 : Int) q qr qg qf qa h r g tf ta pf na ma wa cf ca ef ea xf xa p0   _) hT (pr := []) (pcs := [wd_Mpr cs q qr (fun k => if k = 0 then (some h) else none) qf qa qg, wdP cs h r g tf ta pf na ma wa cf ca ef ea xf xa]) hw (oX_call (P := (fun A U H => (oP A g U H))) (pr := []) oG_P hw hA hP) (px_recv hT hw 0 0 rfl rfl rfl) m13_201 m13_198 m13_200 ms_15_2 m1_22 q_Mpr_cellAt ⟨Nat.le_of_ble_eq_true rfl, Nat.le_of_ble_eq_true rfl⟩ hl.1 rfl (Nat.le_of_ble_eq_true rfl) d_Mpr_canRead_10 ⟨Nat.le_of_ble_eq_true rfl, Nat.le_of_ble_eq_true rfl⟩) hw hA (fun v9 p8 H locs hp8 hw => ?_)
    obtain ⟨rfl, e10, e11, e12, e13⟩ := hp8
    replace e10 : -1 ≤ v9.toInt := e10
    replace e11 : v9.toInt ≤ 36863 := e11
    replace e12 : 0 ≤ v9.toInt → (5242880 ≤ p0.toInt % 4294967296 ∧ p0.toInt % 4294967296 < 5259264) ∨ (8257536 ≤ p0.toInt % 4294967296 ∧ p0.toInt % 4294967296 < 8388608) := e12
    replace e13 : ((5242880 ≤ p0.toInt % 4294967296 ∧ p0.toInt % 4294967296 < 5259264) ∨ (8257536 ≤ p0.toInt % 4294967296 ∧ p0.toInt % 4294967296 < 8388608)) → 0 ≤ v9.toInt := e13
    replace hw : pw D A s.heap H locs [wd_Mpr cs q qr (fun k => if k = 0 then (some h) else none) qf qa qg, wdP cs h r g tf ta pf na ma wa cf ca ef ea xf xa] := hw
    have lv9 := Int32.le_toInt v9
    have uv9 := Int32.toInt_lt v9
    refine lv_if_lt (tgt := 20) S.x S.b d_Mpr_canRead_13 (by decide) (fun c14 => ?_) (fun c14 => ?_)
    · have nc14 : v9.toInt < (0 : Int) := (i_lt (x := v9) (y := 0)).mp c14
      refine lv_iconst (v := 0) S.x S.b d_Mpr_canRead_20 (by decide) ?_
      exact px_iret (v := 0) S hr rfl hlk hAe hw (Nat.le_of_ble_eq_true rfl) (Nat.le_of_ble_eq_true rfl) (⟨rfl, (show 0 ≤ (0 : Int) from by first | decide | omega), (show (0 : Int) ≤ 1 from by first | decide | omega), (show (0 : Int) = 1 → (4194304 ≤ p0.toInt % 4294967296 ∧ p0.toInt % 4294967296 < 4194304 + (4 * (xf 68).toInt + 4095) / 4096 * 4096) ∨ (5242880 ≤ p0.toInt % 4294967296 ∧ p0.toInt % 4294967296 < 5259264) ∨ (8257536 ≤ p0.toInt % 4294967296 ∧ p0.toInt % 4294967296 < 8388608) from by first | with_reducible rfl | with_reducible assumption | omega)⟩) d_Mpr_canRead_21
    · have nc14 : ¬ v9.toInt < (0 : Int) := mt (i_lt (x := v9) (y := 0)).mpr c14
      refine lv_iconst (v := 1) S.x S.b d_Mpr_canRead_16 (by decide) ?_
      refine lv_goto (tgt := 21) S.x S.b d_Mpr_canRead_17 (by decide) ?_
      exact px_iret (v := 1) S hr rfl hlk hAe hw (Nat.le_of_ble_eq_true rfl) (Nat.le_of_ble_eq_true rfl) (⟨rfl, (show 0 ≤ (1 : Int) from by first | decide | omega), (show (1 : Int) ≤ 1 from by first | decide | omega), (show (1 : Int) = 1 → (4194304 ≤ p0.toInt % 4294967296 ∧ p0.toInt % 4294967296 < 4194304 + (4 * (xf 68).toInt + 4095) / 4096 * 4096) ∨ (5242880 ≤ p0.toInt % 4294967296 ∧ p0.toInt % 4294967296 < 5259264) ∨ (8257536 ≤ p0.toInt % 4294967296 ∧ p0.toInt % 4294967296 < 8388608) from by first | with_reducible rfl | with_reducible assumption | omega)⟩) d_Mpr_canRead_21
abbrev b_Mpr_canWrite : ByteArray := prog_15_method_27_code
def y_Mpr_canWrite : MethodName := ⟨"HomeSystemModel$Process", "canWrite", "(I)Z"⟩
theorem d_Mpr_canWrite_0 : decode b_Mpr_canWrite 0 = .ok (.aload_n 0, 1) := by decide +kernel
theorem d_Mpr_canWrite_1 : decode b_Mpr_canWrite 1 = .ok (.iload_n 1, 1) := by decide +kernel
theorem d_Mpr_canWrite_2 : decode b_Mpr_canWrite 2 = .ok (.invokevirtual 249, 3) := by decide +kernel
theorem d_Mpr_canWrite_5 : decode b_Mpr_canWrite 5 = .ok (.ifCond .lt 7, 3) := by decide +kernel
theorem d_Mpr_canWrite_8 : decode b_Mpr_canWrite 8 = .ok (.iconst 1, 1) := by decide +kernel
theorem d_Mpr_canWrite_9 : decode b_Mpr_canWrite 9 = .ok (.goto 4, 3) := by decide +kernel
theorem d_Mpr_canWrite_12 : decode b_Mpr_canWrite 12 = .ok (.iconst 0, 1) := by decide +kernel
theorem d_Mpr_canWrite_13 : decode b_Mpr_canWrite 13 = .ok (.ireturn, 1) := by decide +kernel
theorem q_Mpr_canWrite : px_y y_Mpr_canWrite 1 := by unfold px_y; decide +kernel
set_option maxHeartbeats 4000000 in
set_option maxRecDepth 100000 in
theorem c_mr_canWrite (l : Launch) (D : va_G) (cs : Nat → ClassId) (nf : Int) (q : Nat) (qr : Nat → Nat) (qg : Nat → Nat → Option Nat) (qf : Nat → Int32) (qa : Nat → Nat → Int32) (h : Nat) (r : Nat → Nat) (g : Nat → Nat → Option Nat) (tf : Nat → Int32) (ta : Nat → Nat → Int32) (pf : Nat → Int32) (na : Nat → Nat → Int32) (ma : Nat → Nat → Int32) (wa : Nat → Nat → Int32) (cf : Nat → Int32) (ca : Nat → Nat → Int32) (ef : Nat → Int32) (ea : Nat → Nat → Int32) (xf : Nat → Int32) (xa : Nat → Nat → Int32) (p0 : Int32)   : MetI l y_Mpr_canWrite b_Mpr_canWrite 2 (.boolean) D cs 2 60 (0) (0) [.ref q, .int p0] [wd_Mpr cs q qr (fun k => if k = 0 then (some h) else none) qf qa qg, wdP cs h r g tf ta pf na ma wa cf ca ef ea xf xa] (oX (fun A U H => (oP A g U H)) [wd_Mpr cs q qr (fun k => if k = 0 then (some h) else none) qf qa qg, wdP cs h r g tf ta pf na ma wa cf ca ef ea xf xa]) (fun v ps => (ps = [wd_Mpr cs q qr (fun k => if k = 0 then (some h) else none) qf qa qg, wdP cs h r g tf ta pf na ma wa cf ca ef ea xf xa]) ∧ (0 ≤ v.toInt) ∧ (v.toInt ≤ 1) ∧ (v.toInt = 1 → (5242880 ≤ p0.toInt % 4294967296 ∧ p0.toInt % 4294967296 < 5259264) ∨ (8257536 ≤ p0.toInt % 4294967296 ∧ p0.toInt % 4294967296 < 8388608))) := by
  refine px_enter (by decide) (Nat.le_of_ble_eq_true rfl) ?_
  intro p e s m below meth c A ls hAe S hr hlk hnm hA hT hX hw hl
  replace hl : lv_has ls 2 [(0, .ref q), (1, .int p0)] := hl
  have lp0 := Int32.le_toInt p0
  have up0 := Int32.toInt_lt p0
  have cst0 : (0 : Int32).toInt = 0 := rfl
  have cst1 : (1 : Int32).toInt = 1 := rfl
  have hX : (fun A U H => (oP A g U H)) A s s.heap := by rw [hAe]; exact hX
  have hP := hX
  have hZ := hP.1
  have hF0 := hP.2.1
  refine lv_aload_n S.x S.b d_Mpr_canWrite_0 rfl (lv_at hl 0 rfl) ?_
  refine lv_iload_n S.x S.b d_Mpr_canWrite_1 rfl (lv_at hl 1 rfl) ?_
  refine px_calli (pr := []) (px_runV (As := [.int p0]) (rest := []) S (c_mr_cellAt l D cs (0 : Int) q qr qg qf qa h r g tf ta pf na ma wa cf ca ef ea xf xa p0   _) hT (pr := []) (pcs := [wd_Mpr cs q qr (fun k => if k = 0 then (some h) else none) qf qa qg, wdP cs h r g tf ta pf na ma wa cf ca ef ea xf xa]) hw (oX_call (P := (fun A U H => (oP A g U H))) (pr := []) oG_P hw hA hP) (px_recv hT hw 0 0 rfl rfl rfl) m13_201 m13_198 m13_200 ms_15_2 m1_22 q_Mpr_cellAt ⟨Nat.le_of_ble_eq_true rfl, Nat.le_of_ble_eq_true rfl⟩ hl.1 rfl (Nat.le_of_ble_eq_true rfl) d_Mpr_canWrite_2 ⟨Nat.le_of_ble_eq_true rfl, Nat.le_of_ble_eq_true rfl⟩) hw hA (fun v2 p1 H locs hp1 hw => ?_)
  obtain ⟨rfl, e3, e4, e5, e6⟩ := hp1
  replace e3 : -1 ≤ v2.toInt := e3
  replace e4 : v2.toInt ≤ 36863 := e4
  replace e5 : 0 ≤ v2.toInt → (5242880 ≤ p0.toInt % 4294967296 ∧ p0.toInt % 4294967296 < 5259264) ∨ (8257536 ≤ p0.toInt % 4294967296 ∧ p0.toInt % 4294967296 < 8388608) := e5
  replace e6 : ((5242880 ≤ p0.toInt % 4294967296 ∧ p0.toInt % 4294967296 < 5259264) ∨ (8257536 ≤ p0.toInt % 4294967296 ∧ p0.toInt % 4294967296 < 8388608)) → 0 ≤ v2.toInt := e6
  replace hw : pw D A s.heap H locs [wd_Mpr cs q qr (fun k => if k = 0 then (some h) else none) qf qa qg, wdP cs h r g tf ta pf na ma wa cf ca ef ea xf xa] := hw
  have lv2 := Int32.le_toInt v2
  have uv2 := Int32.toInt_lt v2
  refine lv_if_lt (tgt := 12) S.x S.b d_Mpr_canWrite_5 (by decide) (fun c7 => ?_) (fun c7 => ?_)
  · have nc7 : v2.toInt < (0 : Int) := (i_lt (x := v2) (y := 0)).mp c7
    refine lv_iconst (v := 0) S.x S.b d_Mpr_canWrite_12 (by decide) ?_
    exact px_iret (v := 0) S hr rfl hlk hAe hw (Nat.le_of_ble_eq_true rfl) (Nat.le_of_ble_eq_true rfl) (⟨rfl, (show 0 ≤ (0 : Int) from by first | decide | omega), (show (0 : Int) ≤ 1 from by first | decide | omega), (show (0 : Int) = 1 → (5242880 ≤ p0.toInt % 4294967296 ∧ p0.toInt % 4294967296 < 5259264) ∨ (8257536 ≤ p0.toInt % 4294967296 ∧ p0.toInt % 4294967296 < 8388608) from by first | with_reducible rfl | with_reducible assumption | omega)⟩) d_Mpr_canWrite_13
  · have nc7 : ¬ v2.toInt < (0 : Int) := mt (i_lt (x := v2) (y := 0)).mpr c7
    refine lv_iconst (v := 1) S.x S.b d_Mpr_canWrite_8 (by decide) ?_
    refine lv_goto (tgt := 13) S.x S.b d_Mpr_canWrite_9 (by decide) ?_
    exact px_iret (v := 1) S hr rfl hlk hAe hw (Nat.le_of_ble_eq_true rfl) (Nat.le_of_ble_eq_true rfl) (⟨rfl, (show 0 ≤ (1 : Int) from by first | decide | omega), (show (1 : Int) ≤ 1 from by first | decide | omega), (show (1 : Int) = 1 → (5242880 ≤ p0.toInt % 4294967296 ∧ p0.toInt % 4294967296 < 5259264) ∨ (8257536 ≤ p0.toInt % 4294967296 ∧ p0.toInt % 4294967296 < 8388608) from by first | with_reducible rfl | with_reducible assumption | omega)⟩) d_Mpr_canWrite_13
abbrev b_Mpr_wordAt : ByteArray := prog_15_method_28_code
def y_Mpr_wordAt : MethodName := ⟨"HomeSystemModel$Process", "wordAt", "(I)I"⟩
theorem d_Mpr_wordAt_0 : decode b_Mpr_wordAt 0 = .ok (.aload_n 0, 1) := by decide +kernel
theorem d_Mpr_wordAt_1 : decode b_Mpr_wordAt 1 = .ok (.iload_n 1, 1) := by decide +kernel
theorem d_Mpr_wordAt_2 : decode b_Mpr_wordAt 2 = .ok (.invokevirtual 246, 3) := by decide +kernel
theorem d_Mpr_wordAt_5 : decode b_Mpr_wordAt 5 = .ok (.ifCond .eq 40, 3) := by decide +kernel
theorem d_Mpr_wordAt_8 : decode b_Mpr_wordAt 8 = .ok (.iload_n 1, 1) := by decide +kernel
theorem d_Mpr_wordAt_9 : decode b_Mpr_wordAt 9 = .ok (.invokestatic 223, 3) := by decide +kernel
theorem d_Mpr_wordAt_12 : decode b_Mpr_wordAt 12 = .ok (.ldc2_w 227, 3) := by decide +kernel
theorem d_Mpr_wordAt_15 : decode b_Mpr_wordAt 15 = .ok (.lsub, 1) := by decide +kernel
theorem d_Mpr_wordAt_16 : decode b_Mpr_wordAt 16 = .ok (.l2i, 1) := by decide +kernel
theorem d_Mpr_wordAt_17 : decode b_Mpr_wordAt 17 = .ok (.iconst 4, 1) := by decide +kernel
theorem d_Mpr_wordAt_18 : decode b_Mpr_wordAt 18 = .ok (.idiv, 1) := by decide +kernel
theorem d_Mpr_wordAt_19 : decode b_Mpr_wordAt 19 = .ok (.istore_n 2, 1) := by decide +kernel
theorem d_Mpr_wordAt_20 : decode b_Mpr_wordAt 20 = .ok (.iload_n 2, 1) := by decide +kernel
theorem d_Mpr_wordAt_21 : decode b_Mpr_wordAt 21 = .ok (.aload_n 0, 1) := by decide +kernel
theorem d_Mpr_wordAt_22 : decode b_Mpr_wordAt 22 = .ok (.getfield 52, 3) := by decide +kernel
theorem d_Mpr_wordAt_25 : decode b_Mpr_wordAt 25 = .ok (.getfield 231, 3) := by decide +kernel
theorem d_Mpr_wordAt_28 : decode b_Mpr_wordAt 28 = .ok (.if_icmp .ge 15, 3) := by decide +kernel
theorem d_Mpr_wordAt_31 : decode b_Mpr_wordAt 31 = .ok (.aload_n 0, 1) := by decide +kernel
theorem d_Mpr_wordAt_32 : decode b_Mpr_wordAt 32 = .ok (.getfield 52, 3) := by decide +kernel
theorem d_Mpr_wordAt_35 : decode b_Mpr_wordAt 35 = .ok (.getfield 252, 3) := by decide +kernel
theorem d_Mpr_wordAt_38 : decode b_Mpr_wordAt 38 = .ok (.iload_n 2, 1) := by decide +kernel
theorem d_Mpr_wordAt_39 : decode b_Mpr_wordAt 39 = .ok (.iaload, 1) := by decide +kernel
theorem d_Mpr_wordAt_40 : decode b_Mpr_wordAt 40 = .ok (.goto 4, 3) := by decide +kernel
theorem d_Mpr_wordAt_43 : decode b_Mpr_wordAt 43 = .ok (.iconst 0, 1) := by decide +kernel
theorem d_Mpr_wordAt_44 : decode b_Mpr_wordAt 44 = .ok (.ireturn, 1) := by decide +kernel
theorem d_Mpr_wordAt_45 : decode b_Mpr_wordAt 45 = .ok (.aload_n 0, 1) := by decide +kernel
theorem d_Mpr_wordAt_46 : decode b_Mpr_wordAt 46 = .ok (.getfield 10, 3) := by decide +kernel
theorem d_Mpr_wordAt_49 : decode b_Mpr_wordAt 49 = .ok (.aload_n 0, 1) := by decide +kernel
theorem d_Mpr_wordAt_50 : decode b_Mpr_wordAt 50 = .ok (.iload_n 1, 1) := by decide +kernel
theorem d_Mpr_wordAt_51 : decode b_Mpr_wordAt 51 = .ok (.invokevirtual 249, 3) := by decide +kernel
theorem d_Mpr_wordAt_54 : decode b_Mpr_wordAt 54 = .ok (.iaload, 1) := by decide +kernel
theorem d_Mpr_wordAt_55 : decode b_Mpr_wordAt 55 = .ok (.ireturn, 1) := by decide +kernel
theorem q_Mpr_wordAt : px_y y_Mpr_wordAt 1 := by unfold px_y; decide +kernel
set_option maxHeartbeats 4000000 in
set_option maxRecDepth 100000 in
theorem c_mr_wordAt (l : Launch) (D : va_G) (cs : Nat → ClassId) (nf : Int) (q : Nat) (qr : Nat → Nat) (qg : Nat → Nat → Option Nat) (qf : Nat → Int32) (qa : Nat → Nat → Int32) (h : Nat) (r : Nat → Nat) (g : Nat → Nat → Option Nat) (tf : Nat → Int32) (ta : Nat → Nat → Int32) (pf : Nat → Int32) (na : Nat → Nat → Int32) (ma : Nat → Nat → Int32) (wa : Nat → Nat → Int32) (cf : Nat → Int32) (ca : Nat → Nat → Int32) (ef : Nat → Int32) (ea : Nat → Nat → Int32) (xf : Nat → Int32) (xa : Nat → Nat → Int32) (p0 : Int32)  (g0 : 0 ≤ (xf 68).toInt) (g1 : (xf 68).toInt ≤ 512) (g2 : (4194304 ≤ p0.toInt % 4294967296 ∧ p0.toInt % 4294967296 < 4194304 + (4 * (xf 68).toInt + 4095) / 4096 * 4096) ∨ (5242880 ≤ p0.toInt % 4294967296 ∧ p0.toInt % 4294967296 < 5259264) ∨ (8257536 ≤ p0.toInt % 4294967296 ∧ p0.toInt % 4294967296 < 8388608)) : MetI l y_Mpr_wordAt b_Mpr_wordAt 3 (.int) D cs 2 60 (0) (0) [.ref q, .int p0] [wd_Mpr cs q qr (fun k => if k = 0 then (some h) else none) qf qa qg, wdP cs h r g tf ta pf na ma wa cf ca ef ea xf xa] (oX (fun A U H => (oP A g U H)) [wd_Mpr cs q qr (fun k => if k = 0 then (some h) else none) qf qa qg, wdP cs h r g tf ta pf na ma wa cf ca ef ea xf xa]) (fun v ps => (ps = [wd_Mpr cs q qr (fun k => if k = 0 then (some h) else none) qf qa qg, wdP cs h r g tf ta pf na ma wa cf ca ef ea xf xa])) := by
  refine px_enter (by decide) (Nat.le_of_ble_eq_true rfl) ?_
  intro p e s m below meth c A ls hAe S hr hlk hnm hA hT hX hw hl
  replace hl : lv_has ls 3 [(0, .ref q), (1, .int p0)] := hl
  have lp0 := Int32.le_toInt p0
  have up0 := Int32.toInt_lt p0
  have cst0 : (0 : Int32).toInt = 0 := rfl
  have cst4 : (4 : Int32).toInt = 4 := rfl
  have hX : (fun A U H => (oP A g U H)) A s s.heap := by rw [hAe]; exact hX
  have hP := hX
  have hZ := hP.1
  have hF0 := hP.2.1
  refine lv_aload_n S.x S.b d_Mpr_wordAt_0 rfl (lv_at hl 0 rfl) ?_
  refine lv_iload_n S.x S.b d_Mpr_wordAt_1 rfl (lv_at hl 1 rfl) ?_
  refine px_calli (pr := []) (px_runV (As := [.int p0]) (rest := []) S (c_mr_isText l D cs (0 : Int) q qr qg qf qa h r g tf ta pf na ma wa cf ca ef ea xf xa p0  (show 0 ≤ (xf 68).toInt from by first | exact g0 | omega) (show (xf 68).toInt ≤ 512 from by first | exact g1 | omega) _) hT (pr := []) (pcs := [wd_Mpr cs q qr (fun k => if k = 0 then (some h) else none) qf qa qg, wdP cs h r g tf ta pf na ma wa cf ca ef ea xf xa]) hw (oX_call (P := (fun A U H => (oP A g U H))) (pr := []) oG_P hw hA hP) (px_recv hT hw 0 0 rfl rfl rfl) m13_181 m13_178 m13_180 ms_15_0 m1_22 q_Mpr_isText ⟨Nat.le_of_ble_eq_true rfl, Nat.le_of_ble_eq_true rfl⟩ hl.1 rfl (Nat.le_of_ble_eq_true rfl) d_Mpr_wordAt_2 ⟨Nat.le_of_ble_eq_true rfl, Nat.le_of_ble_eq_true rfl⟩) hw hA (fun v2 p1 H locs hp1 hw => ?_)
  obtain ⟨rfl, e3, e4, e5, e6⟩ := hp1
  replace e3 : 0 ≤ v2.toInt := e3
  replace e4 : v2.toInt ≤ 1 := e4
  replace e5 : v2.toInt = 1 → (4194304 ≤ p0.toInt % 4294967296 ∧ p0.toInt % 4294967296 < 4194304 + (4 * (xf 68).toInt + 4095) / 4096 * 4096) := e5
  replace e6 : (4194304 ≤ p0.toInt % 4294967296 ∧ p0.toInt % 4294967296 < 4194304 + (4 * (xf 68).toInt + 4095) / 4096 * 4096) → v2.toInt = 1 := e6
  replace hw : pw D A s.heap H locs [wd_Mpr cs q qr (fun k => if k = 0 then (some h) else none) qf qa qg, wdP cs h r g tf ta pf na ma wa cf ca ef ea xf xa] := hw
  have lv2 := Int32.le_toInt v2
  have uv2 := Int32.toInt_lt v2
  refine lv_if_eq (tgt := 45) S.x S.b d_Mpr_wordAt_5 (by decide) (fun c7 => ?_) (fun c7 => ?_)
  · have nc7 : v2.toInt = (0 : Int) := (i_eq (x := v2) (y := 0)).mp c7
    refine lv_aload_n S.x S.b d_Mpr_wordAt_45 rfl (lv_at hl 0 rfl) ?_
    refine px_get S k_Mpr hT hw 0 0 8 (v := .ref (qr 8)) rfl rfl rfl (by decide) m10_236 d_Mpr_wordAt_46 ?_
    refine lv_aload_n S.x S.b d_Mpr_wordAt_49 rfl (lv_at hl 0 rfl) ?_
    refine lv_iload_n S.x S.b d_Mpr_wordAt_50 rfl (lv_at hl 1 rfl) ?_
    refine px_calli (pr := []) (px_runV (As := [.int p0]) (rest := [.ref (qr 8)]) S (c_mr_cellAt l D cs (0 : Int) q qr qg qf qa h r g tf ta pf na ma wa cf ca ef ea xf xa p0   _) hT (pr := []) (pcs := [wd_Mpr cs q qr (fun k => if k = 0 then (some h) else none) qf qa qg, wdP cs h r g tf ta pf na ma wa cf ca ef ea xf xa]) hw (oX_call (P := (fun A U H => (oP A g U H))) (pr := []) oG_P hw hA hP) (px_recv hT hw 0 0 rfl rfl rfl) m13_201 m13_198 m13_200 ms_15_2 m1_22 q_Mpr_cellAt ⟨Nat.le_of_ble_eq_true rfl, Nat.le_of_ble_eq_true rfl⟩ hl.1 rfl (Nat.le_of_ble_eq_true rfl) d_Mpr_wordAt_51 ⟨Nat.le_of_ble_eq_true rfl, Nat.le_of_ble_eq_true rfl⟩) hw hA (fun v9 p8 H locs hp8 hw => ?_)
    obtain ⟨rfl, e10, e11, e12, e13⟩ := hp8
    replace e10 : -1 ≤ v9.toInt := e10
    replace e11 : v9.toInt ≤ 36863 := e11
    replace e12 : 0 ≤ v9.toInt → (5242880 ≤ p0.toInt % 4294967296 ∧ p0.toInt % 4294967296 < 5259264) ∨ (8257536 ≤ p0.toInt % 4294967296 ∧ p0.toInt % 4294967296 < 8388608) := e12
    replace e13 : ((5242880 ≤ p0.toInt % 4294967296 ∧ p0.toInt % 4294967296 < 5259264) ∨ (8257536 ≤ p0.toInt % 4294967296 ∧ p0.toInt % 4294967296 < 8388608)) → 0 ≤ v9.toInt := e13
    replace hw : pw D A s.heap H locs [wd_Mpr cs q qr (fun k => if k = 0 then (some h) else none) qf qa qg, wdP cs h r g tf ta pf na ma wa cf ca ef ea xf xa] := hw
    have lv9 := Int32.le_toInt v9
    have uv9 := Int32.toInt_lt v9
    refine px_iald S hT hw 0 1 (n := 37000) (f := (qa 8)) rfl (ga_Mpr_8 _ _ _ _ _ _ _) (x := v9) (vp_in_iff.mpr (by constructor <;> omega)) d_Mpr_wordAt_54 ?_
    refine lv_topi (fun z14 ez14 => ?_)
    have lz14 := Int32.le_toInt z14
    have uz14 := Int32.toInt_lt z14
    exact px_iret (v := z14) S hr rfl hlk hAe hw (Nat.le_of_ble_eq_true rfl) (Nat.le_of_ble_eq_true rfl) (rfl) d_Mpr_wordAt_55
  · have nc7 : ¬ v2.toInt = (0 : Int) := mt (i_eq (x := v2) (y := 0)).mpr c7
    refine lv_iload_n S.x S.b d_Mpr_wordAt_8 rfl (lv_at hl 1 rfl) ?_
    refine px_calll (pr := [wd_Mpr cs q qr (fun k => if k = 0 then (some h) else none) qf qa qg, wdP cs h r g tf ta pf na ma wa cf ca ef ea xf xa]) (px_runS (As := [.int p0]) (rest := []) S (c_mr_plain l D cs  p0   _) hT (pr := [wd_Mpr cs q qr (fun k => if k = 0 then (some h) else none) qf qa qg, wdP cs h r g tf ta pf na ma wa cf ca ef ea xf xa]) (pcs := []) hw px_X.tt m13_188 m13_186 m13_187 m1_22 q_Mpr_plain ⟨Nat.le_of_ble_eq_true rfl, Nat.le_of_ble_eq_true rfl⟩ hl.1 rfl (Nat.le_of_ble_eq_true rfl) d_Mpr_wordAt_9 ⟨Nat.le_of_ble_eq_true rfl, Nat.le_of_ble_eq_true rfl⟩) hw hA (fun v16 p15 H locs hp15 hw => ?_)
    obtain ⟨rfl, e17⟩ := hp15
    replace e17 : v16.toInt = p0.toInt % 4294967296 := e17
    replace hw : pw D A s.heap H locs [wd_Mpr cs q qr (fun k => if k = 0 then (some h) else none) qf qa qg, wdP cs h r g tf ta pf na ma wa cf ca ef ea xf xa] := hw
    refine lv_ldc2 (v := 4194304) S.x S.b S.own (S.w m13_182) d_Mpr_wordAt_12 ?_
    have cl_4194304 : (4194304 : Int64).toInt = 4194304 := rfl
    refine lv_lsub S.x S.b d_Mpr_wordAt_15 ?_
    refine lv_topl (fun z18 ez18 => ?_)
    have tz18 : z18.toInt = v16.toInt - 4194304 := by rw [ez18, l_sub (by omega) (by omega)]; omega
    refine lv_l2i S.x S.b d_Mpr_wordAt_16 rfl ?_
    refine lv_topi (fun z19 ez19 => ?_)
    have tz19 : z19.toInt = z18.toInt := by rw [ez19]; exact l_l2i (by omega) (by omega)
    have lz19 := Int32.le_toInt z19
    have uz19 := Int32.toInt_lt z19
    refine lv_iconst (v := 4) S.x S.b d_Mpr_wordAt_17 (by decide) ?_
    refine lv_idiv S.x S.b d_Mpr_wordAt_18 (fun hz0 => by have hz1 := i_eq.mp hz0; omega) ?_
    refine lv_topi (fun z20 ez20 => ?_)
    have tz20 : z20.toInt = z19.toInt / 4 := by rw [ez20]; exact i_dv4 (by omega)
    have lz20 := Int32.le_toInt z20
    have uz20 := Int32.toInt_lt z20
    refine lv_istore_n (lv' := [(2, .int z20), (0, .ref q), (1, .int p0)]) S.x S.b d_Mpr_wordAt_19 rfl hl (by decide) rfl (fun ls hl => ?_)
    refine lv_iload_n S.x S.b d_Mpr_wordAt_20 rfl (lv_at hl 0 rfl) ?_
    refine lv_aload_n S.x S.b d_Mpr_wordAt_21 rfl (lv_at hl 1 rfl) ?_
    refine px_get S k_Mpr hT hw 0 0 0 (v := .ref h) rfl rfl rfl (by decide) m10_221 d_Mpr_wordAt_22 ?_
    refine px_get S k_Mpg hT hw 1 0 68 (v := .int (xf 68)) rfl rfl rfl (by decide) m10_73 d_Mpr_wordAt_25 ?_
    refine lv_icmp_ge (tgt := 43) S.x S.b d_Mpr_wordAt_28 (by decide) (fun c21 => ?_) (fun c21 => ?_)
    · have nc21 : (xf 68).toInt ≤ z20.toInt := (i_le (x := (xf 68)) (y := z20)).mp c21
      refine lv_iconst (v := 0) S.x S.b d_Mpr_wordAt_43 (by decide) ?_
      exact px_iret (v := 0) S hr rfl hlk hAe hw (Nat.le_of_ble_eq_true rfl) (Nat.le_of_ble_eq_true rfl) (rfl) d_Mpr_wordAt_44
    · have nc21 : ¬ (xf 68).toInt ≤ z20.toInt := mt (i_le (x := (xf 68)) (y := z20)).mpr c21
      refine lv_aload_n S.x S.b d_Mpr_wordAt_31 rfl (lv_at hl 1 rfl) ?_
      refine px_get S k_Mpr hT hw 0 0 0 (v := .ref h) rfl rfl rfl (by decide) m10_221 d_Mpr_wordAt_32 ?_
      refine px_get S k_Mpg hT hw 1 0 67 (v := .ref (r 67)) rfl rfl rfl (by decide) m10_71 d_Mpr_wordAt_35 ?_
      refine lv_iload_n S.x S.b d_Mpr_wordAt_38 rfl (lv_at hl 0 rfl) ?_
      refine px_iald S hT hw 1 37 (n := 512) (f := (xa 67)) rfl gp_67 (x := z20) (vp_in_iff.mpr (by constructor <;> omega)) d_Mpr_wordAt_39 ?_
      refine lv_topi (fun z22 ez22 => ?_)
      have lz22 := Int32.le_toInt z22
      have uz22 := Int32.toInt_lt z22
      refine lv_goto (tgt := 44) S.x S.b d_Mpr_wordAt_40 (by decide) ?_
      exact px_iret (v := z22) S hr rfl hlk hAe hw (Nat.le_of_ble_eq_true rfl) (Nat.le_of_ble_eq_true rfl) (rfl) d_Mpr_wordAt_44
abbrev b_Mpr_setWord : ByteArray := prog_15_method_29_code
def y_Mpr_setWord : MethodName := ⟨"HomeSystemModel$Process", "setWord", "(II)V"⟩
theorem d_Mpr_setWord_0 : decode b_Mpr_setWord 0 = .ok (.aload_n 0, 1) := by decide +kernel
theorem d_Mpr_setWord_1 : decode b_Mpr_setWord 1 = .ok (.getfield 10, 3) := by decide +kernel
theorem d_Mpr_setWord_4 : decode b_Mpr_setWord 4 = .ok (.aload_n 0, 1) := by decide +kernel
theorem d_Mpr_setWord_5 : decode b_Mpr_setWord 5 = .ok (.iload_n 1, 1) := by decide +kernel
theorem d_Mpr_setWord_6 : decode b_Mpr_setWord 6 = .ok (.invokevirtual 249, 3) := by decide +kernel
theorem d_Mpr_setWord_9 : decode b_Mpr_setWord 9 = .ok (.iload_n 2, 1) := by decide +kernel
theorem d_Mpr_setWord_10 : decode b_Mpr_setWord 10 = .ok (.iastore, 1) := by decide +kernel
theorem d_Mpr_setWord_11 : decode b_Mpr_setWord 11 = .ok (.return_, 1) := by decide +kernel
theorem q_Mpr_setWord : px_y y_Mpr_setWord 2 := by unfold px_y; decide +kernel
set_option maxHeartbeats 4000000 in
set_option maxRecDepth 100000 in
theorem c_mr_setWord (l : Launch) (D : va_G) (cs : Nat → ClassId) (nf : Int) (q : Nat) (qr : Nat → Nat) (qg : Nat → Nat → Option Nat) (qf : Nat → Int32) (qa : Nat → Nat → Int32) (h : Nat) (r : Nat → Nat) (g : Nat → Nat → Option Nat) (tf : Nat → Int32) (ta : Nat → Nat → Int32) (pf : Nat → Int32) (na : Nat → Nat → Int32) (ma : Nat → Nat → Int32) (wa : Nat → Nat → Int32) (cf : Nat → Int32) (ca : Nat → Nat → Int32) (ef : Nat → Int32) (ea : Nat → Nat → Int32) (xf : Nat → Int32) (xa : Nat → Nat → Int32) (p0 p1 : Int32)  (g0 : (5242880 ≤ p0.toInt % 4294967296 ∧ p0.toInt % 4294967296 < 5259264) ∨ (8257536 ≤ p0.toInt % 4294967296 ∧ p0.toInt % 4294967296 < 8388608)) : MetV l y_Mpr_setWord b_Mpr_setWord 3 D cs 2 60 (0) (0) [.ref q, .int p0, .int p1] [wd_Mpr cs q qr (fun k => if k = 0 then (some h) else none) qf qa qg, wdP cs h r g tf ta pf na ma wa cf ca ef ea xf xa] (oX (fun A U H => (oP A g U H)) [wd_Mpr cs q qr (fun k => if k = 0 then (some h) else none) qf qa qg, wdP cs h r g tf ta pf na ma wa cf ca ef ea xf xa]) (fun ps => ∃ (qa' : Nat → Nat → Int32), (ps = [wd_Mpr cs q qr (fun k => if k = 0 then (some h) else none) qf qa' qg, wdP cs h r g tf ta pf na ma wa cf ca ef ea xf xa])) := by
  refine px_enter (by decide) (Nat.le_of_ble_eq_true rfl) ?_
  intro p e s m below meth c A ls hAe S hr hlk hnm hA hT hX hw hl
  replace hl : lv_has ls 3 [(0, .ref q), (1, .int p0), (2, .int p1)] := hl
  have lp0 := Int32.le_toInt p0
  have up0 := Int32.toInt_lt p0
  have lp1 := Int32.le_toInt p1
  have up1 := Int32.toInt_lt p1
  have hX : (fun A U H => (oP A g U H)) A s s.heap := by rw [hAe]; exact hX
  have hP := hX
  have hZ := hP.1
  have hF0 := hP.2.1
  refine lv_aload_n S.x S.b d_Mpr_setWord_0 rfl (lv_at hl 0 rfl) ?_
  refine px_get S k_Mpr hT hw 0 0 8 (v := .ref (qr 8)) rfl rfl rfl (by decide) m10_236 d_Mpr_setWord_1 ?_
  refine lv_aload_n S.x S.b d_Mpr_setWord_4 rfl (lv_at hl 0 rfl) ?_
  refine lv_iload_n S.x S.b d_Mpr_setWord_5 rfl (lv_at hl 1 rfl) ?_
  refine px_calli (pr := []) (px_runV (As := [.int p0]) (rest := [.ref (qr 8)]) S (c_mr_cellAt l D cs (0 : Int) q qr qg qf qa h r g tf ta pf na ma wa cf ca ef ea xf xa p0   _) hT (pr := []) (pcs := [wd_Mpr cs q qr (fun k => if k = 0 then (some h) else none) qf qa qg, wdP cs h r g tf ta pf na ma wa cf ca ef ea xf xa]) hw (oX_call (P := (fun A U H => (oP A g U H))) (pr := []) oG_P hw hA hP) (px_recv hT hw 0 0 rfl rfl rfl) m13_201 m13_198 m13_200 ms_15_2 m1_22 q_Mpr_cellAt ⟨Nat.le_of_ble_eq_true rfl, Nat.le_of_ble_eq_true rfl⟩ hl.1 rfl (Nat.le_of_ble_eq_true rfl) d_Mpr_setWord_6 ⟨Nat.le_of_ble_eq_true rfl, Nat.le_of_ble_eq_true rfl⟩) hw hA (fun v2 p1 H locs hp1 hw => ?_)
  obtain ⟨rfl, e3, e4, e5, e6⟩ := hp1
  replace e3 : -1 ≤ v2.toInt := e3
  replace e4 : v2.toInt ≤ 36863 := e4
  replace e5 : 0 ≤ v2.toInt → (5242880 ≤ p0.toInt % 4294967296 ∧ p0.toInt % 4294967296 < 5259264) ∨ (8257536 ≤ p0.toInt % 4294967296 ∧ p0.toInt % 4294967296 < 8388608) := e5
  replace e6 : ((5242880 ≤ p0.toInt % 4294967296 ∧ p0.toInt % 4294967296 < 5259264) ∨ (8257536 ≤ p0.toInt % 4294967296 ∧ p0.toInt % 4294967296 < 8388608)) → 0 ≤ v2.toInt := e6
  replace hw : pw D A s.heap H locs [wd_Mpr cs q qr (fun k => if k = 0 then (some h) else none) qf qa qg, wdP cs h r g tf ta pf na ma wa cf ca ef ea xf xa] := hw
  have lv2 := Int32.le_toInt v2
  have uv2 := Int32.toInt_lt v2
  refine lv_iload_n S.x S.b d_Mpr_setWord_9 rfl (lv_at hl 2 rfl) ?_
  refine px_iast S hT hw 0 1 (n := 37000) (f := (qa 8)) (x := v2) (y := p1) rfl (ga_Mpr_8 _ _ _ _ _ _ _) (vp_in_iff.mpr (by constructor <;> omega)) d_Mpr_setWord_10 (w' := wd_Mpr cs q qr (fun k => if k = 0 then (some h) else none) qf (va_up qa 8 (upd (qa 8) v2.toNatClampNeg p1)) qg) (ps' := [wd_Mpr cs q qr (fun k => if k = 0 then (some h) else none) qf (va_up qa 8 (upd (qa 8) v2.toNatClampNeg p1)) qg, wdP cs h r g tf ta pf na ma wa cf ca ef ea xf xa]) (sa_Mpr_8 _ _ _ _ _ _ _ _) rfl (fun H locs hw => ?_)
  exact px_vret S hr hlk hAe hw (Nat.le_of_ble_eq_true rfl) (Nat.le_of_ble_eq_true rfl) (⟨(va_up qa 8 (upd (qa 8) v2.toNatClampNeg p1)), rfl⟩) d_Mpr_setWord_11
abbrev b_Mpr_set : ByteArray := prog_15_method_30_code
def y_Mpr_set : MethodName := ⟨"HomeSystemModel$Process", "set", "(II)V"⟩
theorem d_Mpr_set_0 : decode b_Mpr_set 0 = .ok (.aload_n 0, 1) := by decide +kernel
theorem d_Mpr_set_1 : decode b_Mpr_set 1 = .ok (.getfield 32, 3) := by decide +kernel
theorem d_Mpr_set_4 : decode b_Mpr_set 4 = .ok (.iload_n 1, 1) := by decide +kernel
theorem d_Mpr_set_5 : decode b_Mpr_set 5 = .ok (.iload_n 1, 1) := by decide +kernel
theorem d_Mpr_set_6 : decode b_Mpr_set 6 = .ok (.ifCond .ne 7, 3) := by decide +kernel
theorem d_Mpr_set_9 : decode b_Mpr_set 9 = .ok (.iconst 0, 1) := by decide +kernel
theorem d_Mpr_set_10 : decode b_Mpr_set 10 = .ok (.goto 4, 3) := by decide +kernel
theorem d_Mpr_set_13 : decode b_Mpr_set 13 = .ok (.iload_n 2, 1) := by decide +kernel
theorem d_Mpr_set_14 : decode b_Mpr_set 14 = .ok (.iastore, 1) := by decide +kernel
theorem d_Mpr_set_15 : decode b_Mpr_set 15 = .ok (.return_, 1) := by decide +kernel
theorem q_Mpr_set : px_y y_Mpr_set 2 := by unfold px_y; decide +kernel
set_option maxHeartbeats 4000000 in
set_option maxRecDepth 100000 in
theorem c_mr_set (l : Launch) (D : va_G) (cs : Nat → ClassId) (nf : Int) (q : Nat) (qr : Nat → Nat) (qg : Nat → Nat → Option Nat) (qf : Nat → Int32) (qa : Nat → Nat → Int32) (h : Nat) (r : Nat → Nat) (g : Nat → Nat → Option Nat) (tf : Nat → Int32) (ta : Nat → Nat → Int32) (pf : Nat → Int32) (na : Nat → Nat → Int32) (ma : Nat → Nat → Int32) (wa : Nat → Nat → Int32) (cf : Nat → Int32) (ca : Nat → Nat → Int32) (ef : Nat → Int32) (ea : Nat → Nat → Int32) (xf : Nat → Int32) (xa : Nat → Nat → Int32) (p0 p1 : Int32)  (g0 : 0 ≤ p0.toInt) (g1 : p0.toInt < 32) : MetV l y_Mpr_set b_Mpr_set 3 D cs 0 0 (0) (0) [.ref q, .int p0, .int p1] [wd_Mpr cs q qr (fun k => if k = 0 then (some h) else none) qf qa qg, wdP cs h r g tf ta pf na ma wa cf ca ef ea xf xa] (oX (fun A U H => (oP A g U H)) [wd_Mpr cs q qr (fun k => if k = 0 then (some h) else none) qf qa qg, wdP cs h r g tf ta pf na ma wa cf ca ef ea xf xa]) (fun ps => ∃ (qa' : Nat → Nat → Int32), (ps = [wd_Mpr cs q qr (fun k => if k = 0 then (some h) else none) qf qa' qg, wdP cs h r g tf ta pf na ma wa cf ca ef ea xf xa])) := by
  refine px_enter (by decide) (Nat.le_of_ble_eq_true rfl) ?_
  intro p e s m below meth c A ls hAe S hr hlk hnm hA hT hX hw hl
  replace hl : lv_has ls 3 [(0, .ref q), (1, .int p0), (2, .int p1)] := hl
  have lp0 := Int32.le_toInt p0
  have up0 := Int32.toInt_lt p0
  have lp1 := Int32.le_toInt p1
  have up1 := Int32.toInt_lt p1
  have cst0 : (0 : Int32).toInt = 0 := rfl
  have hX : (fun A U H => (oP A g U H)) A s s.heap := by rw [hAe]; exact hX
  have hP := hX
  have hZ := hP.1
  have hF0 := hP.2.1
  refine lv_aload_n S.x S.b d_Mpr_set_0 rfl (lv_at hl 0 rfl) ?_
  refine px_get S k_Mpr hT hw 0 0 19 (v := .ref (qr 19)) rfl rfl rfl (by decide) m11_11 d_Mpr_set_1 ?_
  refine lv_iload_n S.x S.b d_Mpr_set_4 rfl (lv_at hl 1 rfl) ?_
  refine lv_iload_n S.x S.b d_Mpr_set_5 rfl (lv_at hl 1 rfl) ?_
  refine lv_if_ne (tgt := 13) S.x S.b d_Mpr_set_6 (by decide) (fun c1 => ?_) (fun c1 => ?_)
  · have nc1 : ¬ p0.toInt = (0 : Int) := mt (i_eq (x := p0) (y := 0)).mpr c1
    refine lv_iload_n S.x S.b d_Mpr_set_13 rfl (lv_at hl 2 rfl) ?_
    refine px_iast S hT hw 0 7 (n := 32) (f := (qa 19)) (x := p0) (y := p1) rfl (ga_Mpr_19 _ _ _ _ _ _ _) (vp_in_iff.mpr (by constructor <;> omega)) d_Mpr_set_14 (w' := wd_Mpr cs q qr (fun k => if k = 0 then (some h) else none) qf (va_up qa 19 (upd (qa 19) p0.toNatClampNeg p1)) qg) (ps' := [wd_Mpr cs q qr (fun k => if k = 0 then (some h) else none) qf (va_up qa 19 (upd (qa 19) p0.toNatClampNeg p1)) qg, wdP cs h r g tf ta pf na ma wa cf ca ef ea xf xa]) (sa_Mpr_19 _ _ _ _ _ _ _ _) rfl (fun H locs hw => ?_)
    exact px_vret S hr hlk hAe hw (Nat.le_of_ble_eq_true rfl) (Nat.le_of_ble_eq_true rfl) (⟨(va_up qa 19 (upd (qa 19) p0.toNatClampNeg p1)), rfl⟩) d_Mpr_set_15
  · have nc1 : p0.toInt = (0 : Int) := (i_eq (x := p0) (y := 0)).mp c1
    refine lv_iconst (v := 0) S.x S.b d_Mpr_set_9 (by decide) ?_
    refine lv_goto (tgt := 14) S.x S.b d_Mpr_set_10 (by decide) ?_
    refine px_iast S hT hw 0 7 (n := 32) (f := (qa 19)) (x := p0) (y := 0) rfl (ga_Mpr_19 _ _ _ _ _ _ _) (vp_in_iff.mpr (by constructor <;> omega)) d_Mpr_set_14 (w' := wd_Mpr cs q qr (fun k => if k = 0 then (some h) else none) qf (va_up qa 19 (upd (qa 19) p0.toNatClampNeg 0)) qg) (ps' := [wd_Mpr cs q qr (fun k => if k = 0 then (some h) else none) qf (va_up qa 19 (upd (qa 19) p0.toNatClampNeg 0)) qg, wdP cs h r g tf ta pf na ma wa cf ca ef ea xf xa]) (sa_Mpr_19 _ _ _ _ _ _ _ _) rfl (fun H locs hw => ?_)
    exact px_vret S hr hlk hAe hw (Nat.le_of_ble_eq_true rfl) (Nat.le_of_ble_eq_true rfl) (⟨(va_up qa 19 (upd (qa 19) p0.toNatClampNeg 0)), rfl⟩) d_Mpr_set_15
abbrev b_Mpr_fault : ByteArray := prog_15_method_31_code
def y_Mpr_fault : MethodName := ⟨"HomeSystemModel$Process", "fault", "()V"⟩
theorem d_Mpr_fault_0 : decode b_Mpr_fault 0 = .ok (.aload_n 0, 1) := by decide +kernel
theorem d_Mpr_fault_1 : decode b_Mpr_fault 1 = .ok (.bipush 7, 2) := by decide +kernel
theorem d_Mpr_fault_3 : decode b_Mpr_fault 3 = .ok (.iconst 0, 1) := by decide +kernel
theorem d_Mpr_fault_4 : decode b_Mpr_fault 4 = .ok (.invokevirtual 134, 3) := by decide +kernel
theorem d_Mpr_fault_7 : decode b_Mpr_fault 7 = .ok (.return_, 1) := by decide +kernel
theorem q_Mpr_fault : px_y y_Mpr_fault 0 := by unfold px_y; decide +kernel
set_option maxHeartbeats 4000000 in
set_option maxRecDepth 100000 in
theorem c_mr_fault (l : Launch) (D : va_G) (cs : Nat → ClassId) (nf : Int) (q : Nat) (qr : Nat → Nat) (qg : Nat → Nat → Option Nat) (qa : Nat → Nat → Int32) (qf : Nat → Int32) (h : Nat) (r : Nat → Nat) (g : Nat → Nat → Option Nat) (tf : Nat → Int32) (ta : Nat → Nat → Int32) (pf : Nat → Int32) (na : Nat → Nat → Int32) (ma : Nat → Nat → Int32) (wa : Nat → Nat → Int32) (cf : Nat → Int32) (ca : Nat → Nat → Int32) (ef : Nat → Int32) (ea : Nat → Nat → Int32) (xf : Nat → Int32) (xa : Nat → Nat → Int32)   : MetV l y_Mpr_fault b_Mpr_fault 1 D cs 1 30 (0) (0) [.ref q] [wd_Mpr cs q qr (fun k => if k = 0 then (some h) else none) qf qa qg, wdP cs h r g tf ta pf na ma wa cf ca ef ea xf xa] (oX (fun A U H => (oP A g U H)) [wd_Mpr cs q qr (fun k => if k = 0 then (some h) else none) qf qa qg, wdP cs h r g tf ta pf na ma wa cf ca ef ea xf xa]) (fun ps => ∃ (qf' : Nat → Int32), (ps = [wd_Mpr cs q qr (fun k => if k = 0 then (some h) else none) qf' qa qg, wdP cs h r g tf ta pf na ma wa cf ca ef ea xf xa]) ∧ ((qf' 2).toInt = 7) ∧ ((qf' 1).toInt = (qf 1).toInt) ∧ ((qf' 4).toInt = (qf 4).toInt) ∧ ((qf' 5).toInt = (qf 5).toInt) ∧ ((qf' 6).toInt = (qf 6).toInt) ∧ ((qf' 7).toInt = (qf 7).toInt) ∧ ((qf' 10).toInt = (qf 10).toInt) ∧ ((qf' 11).toInt = (qf 11).toInt) ∧ ((qf' 12).toInt = (qf 12).toInt) ∧ ((qf' 13).toInt = (qf 13).toInt) ∧ ((qf' 14).toInt = (qf 14).toInt) ∧ ((qf' 21).toInt = (qf 21).toInt) ∧ ((qf' 23).toInt = (qf 23).toInt) ∧ ((qf' 24).toInt = (qf 24).toInt)) := by
  refine px_enter (by decide) (Nat.le_of_ble_eq_true rfl) ?_
  intro p e s m below meth c A ls hAe S hr hlk hnm hA hT hX hw hl
  replace hl : lv_has ls 1 [(0, .ref q)] := hl
  have cst0 : (0 : Int32).toInt = 0 := rfl
  have cst7 : (7 : Int32).toInt = 7 := rfl
  have hX : (fun A U H => (oP A g U H)) A s s.heap := by rw [hAe]; exact hX
  have hP := hX
  have hZ := hP.1
  have hF0 := hP.2.1
  refine lv_aload_n S.x S.b d_Mpr_fault_0 rfl (lv_at hl 0 rfl) ?_
  refine lv_bipush (v := 7) S.x S.b d_Mpr_fault_1 (by decide) ?_
  refine lv_iconst (v := 0) S.x S.b d_Mpr_fault_3 (by decide) ?_
  refine px_callv (pr := []) (px_runV (As := [.int 7, .int 0]) (rest := []) S (c_mr_end l D cs (0 : Int) q qr qg qa qf h r g tf ta pf na ma wa cf ca ef ea xf xa 7 0   _) hT (pr := []) (pcs := [wd_Mpr cs q qr (fun k => if k = 0 then (some h) else none) qf qa qg, wdP cs h r g tf ta pf na ma wa cf ca ef ea xf xa]) hw (oX_call (P := (fun A U H => (oP A g U H))) (pr := []) oG_P hw hA hP) (px_recv hT hw 0 0 rfl rfl rfl) m13_177 m13_174 m13_175 m13_176 m1_22 q_Mpr_end ⟨Nat.le_of_ble_eq_true rfl, Nat.le_of_ble_eq_true rfl⟩ hl.1 rfl (Nat.le_of_ble_eq_true rfl) d_Mpr_fault_4 ⟨Nat.le_of_ble_eq_true rfl, Nat.le_of_ble_eq_true rfl⟩) hw hA (fun p3 H locs hp3 hw => ?_)
  obtain ⟨qf2, rfl, e5, e6, e7, e8, e9, e10, e11, e12, e13, e14, e15, e16, e17, e18, e19⟩ := hp3
  replace e5 : (qf2 2).toInt = (7 : Int) := e5
  replace e6 : (qf2 3).toInt = (0 : Int) := e6
  replace e7 : (qf2 1).toInt = (qf 1).toInt := e7
  replace e8 : (qf2 4).toInt = (qf 4).toInt := e8
  replace e9 : (qf2 5).toInt = (qf 5).toInt := e9
  replace e10 : (qf2 6).toInt = (qf 6).toInt := e10
  replace e11 : (qf2 7).toInt = (qf 7).toInt := e11
  replace e12 : (qf2 10).toInt = (qf 10).toInt := e12
  replace e13 : (qf2 11).toInt = (qf 11).toInt := e13
  replace e14 : (qf2 12).toInt = (qf 12).toInt := e14
  replace e15 : (qf2 13).toInt = (qf 13).toInt := e15
  replace e16 : (qf2 14).toInt = (qf 14).toInt := e16
  replace e17 : (qf2 21).toInt = (qf 21).toInt := e17
  replace e18 : (qf2 23).toInt = (qf 23).toInt := e18
  replace e19 : (qf2 24).toInt = (qf 24).toInt := e19
  replace hw : pw D A s.heap H locs [wd_Mpr cs q qr (fun k => if k = 0 then (some h) else none) qf2 qa qg, wdP cs h r g tf ta pf na ma wa cf ca ef ea xf xa] := hw
  exact px_vret S hr hlk hAe hw (Nat.le_of_ble_eq_true rfl) (Nat.le_of_ble_eq_true rfl) (⟨qf2, rfl, (show (qf2 2).toInt = 7 from by first | exact oz_1c7450c331 e5 | omega), (show (qf2 1).toInt = (qf 1).toInt from by first | exact e7 | omega), (show (qf2 4).toInt = (qf 4).toInt from by first | exact e8 | omega), (show (qf2 5).toInt = (qf 5).toInt from by first | exact e9 | omega), (show (qf2 6).toInt = (qf 6).toInt from by first | exact e10 | omega), (show (qf2 7).toInt = (qf 7).toInt from by first | exact e11 | omega), (show (qf2 10).toInt = (qf 10).toInt from by first | exact e12 | omega), (show (qf2 11).toInt = (qf 11).toInt from by first | exact e13 | omega), (show (qf2 12).toInt = (qf 12).toInt from by first | exact e14 | omega), (show (qf2 13).toInt = (qf 13).toInt from by first | exact e15 | omega), (show (qf2 14).toInt = (qf 14).toInt from by first | exact e16 | omega), (show (qf2 21).toInt = (qf 21).toInt from by first | exact e17 | omega), (show (qf2 23).toInt = (qf 23).toInt from by first | exact e18 | omega), (show (qf2 24).toInt = (qf 24).toInt from by first | exact e19 | omega)⟩) d_Mpr_fault_7
abbrev b_Mpr_bad : ByteArray := prog_15_method_34_code
def y_Mpr_bad : MethodName := ⟨"HomeSystemModel$Process", "bad", "()I"⟩
theorem d_Mpr_bad_0 : decode b_Mpr_bad 0 = .ok (.aload_n 0, 1) := by decide +kernel
theorem d_Mpr_bad_1 : decode b_Mpr_bad 1 = .ok (.invokevirtual 255, 3) := by decide +kernel
theorem d_Mpr_bad_4 : decode b_Mpr_bad 4 = .ok (.iconst 0, 1) := by decide +kernel
theorem d_Mpr_bad_5 : decode b_Mpr_bad 5 = .ok (.ireturn, 1) := by decide +kernel
theorem q_Mpr_bad : px_y y_Mpr_bad 0 := by unfold px_y; decide +kernel
set_option maxHeartbeats 4000000 in
set_option maxRecDepth 100000 in
theorem c_mr_bad (l : Launch) (D : va_G) (cs : Nat → ClassId) (nf : Int) (q : Nat) (qr : Nat → Nat) (qg : Nat → Nat → Option Nat) (qa : Nat → Nat → Int32) (qf : Nat → Int32) (h : Nat) (r : Nat → Nat) (g : Nat → Nat → Option Nat) (tf : Nat → Int32) (ta : Nat → Nat → Int32) (pf : Nat → Int32) (na : Nat → Nat → Int32) (ma : Nat → Nat → Int32) (wa : Nat → Nat → Int32) (cf : Nat → Int32) (ca : Nat → Nat → Int32) (ef : Nat → Int32) (ea : Nat → Nat → Int32) (xf : Nat → Int32) (xa : Nat → Nat → Int32)   : MetI l y_Mpr_bad b_Mpr_bad 1 (.int) D cs 2 60 (0) (0) [.ref q] [wd_Mpr cs q qr (fun k => if k = 0 then (some h) else none) qf qa qg, wdP cs h r g tf ta pf na ma wa cf ca ef ea xf xa] (oX (fun A U H => (oP A g U H)) [wd_Mpr cs q qr (fun k => if k = 0 then (some h) else none) qf qa qg, wdP cs h r g tf ta pf na ma wa cf ca ef ea xf xa]) (fun v ps => ∃ (qf' : Nat → Int32), (ps = [wd_Mpr cs q qr (fun k => if k = 0 then (some h) else none) qf' qa qg, wdP cs h r g tf ta pf na ma wa cf ca ef ea xf xa]) ∧ ((qf' 2).toInt = 7) ∧ ((qf' 1).toInt = (qf 1).toInt) ∧ ((qf' 4).toInt = (qf 4).toInt) ∧ ((qf' 5).toInt = (qf 5).toInt) ∧ ((qf' 6).toInt = (qf 6).toInt) ∧ ((qf' 7).toInt = (qf 7).toInt) ∧ ((qf' 10).toInt = (qf 10).toInt) ∧ ((qf' 11).toInt = (qf 11).toInt) ∧ ((qf' 12).toInt = (qf 12).toInt) ∧ ((qf' 13).toInt = (qf 13).toInt) ∧ ((qf' 14).toInt = (qf 14).toInt) ∧ ((qf' 21).toInt = (qf 21).toInt) ∧ ((qf' 23).toInt = (qf 23).toInt) ∧ ((qf' 24).toInt = (qf 24).toInt)) := by
  refine px_enter (by decide) (Nat.le_of_ble_eq_true rfl) ?_
  intro p e s m below meth c A ls hAe S hr hlk hnm hA hT hX hw hl
  replace hl : lv_has ls 1 [(0, .ref q)] := hl
  have cst0 : (0 : Int32).toInt = 0 := rfl
  have hX : (fun A U H => (oP A g U H)) A s s.heap := by rw [hAe]; exact hX
  have hP := hX
  have hZ := hP.1
  have hF0 := hP.2.1
  refine lv_aload_n S.x S.b d_Mpr_bad_0 rfl (lv_at hl 0 rfl) ?_
  refine px_callv (pr := []) (px_runV (As := []) (rest := []) S (c_mr_fault l D cs (0 : Int) q qr qg qa qf h r g tf ta pf na ma wa cf ca ef ea xf xa    _) hT (pr := []) (pcs := [wd_Mpr cs q qr (fun k => if k = 0 then (some h) else none) qf qa qg, wdP cs h r g tf ta pf na ma wa cf ca ef ea xf xa]) hw (oX_call (P := (fun A U H => (oP A g U H))) (pr := []) oG_P hw hA hP) (px_recv hT hw 0 0 rfl rfl rfl) m13_193 m13_190 m13_192 ms_15_1 m1_22 q_Mpr_fault ⟨Nat.le_of_ble_eq_true rfl, Nat.le_of_ble_eq_true rfl⟩ hl.1 rfl (Nat.le_of_ble_eq_true rfl) d_Mpr_bad_1 ⟨Nat.le_of_ble_eq_true rfl, Nat.le_of_ble_eq_true rfl⟩) hw hA (fun p3 H locs hp3 hw => ?_)
  obtain ⟨qf2, rfl, e5, e6, e7, e8, e9, e10, e11, e12, e13, e14, e15, e16, e17, e18⟩ := hp3
  replace e5 : (qf2 2).toInt = 7 := e5
  replace e6 : (qf2 1).toInt = (qf 1).toInt := e6
  replace e7 : (qf2 4).toInt = (qf 4).toInt := e7
  replace e8 : (qf2 5).toInt = (qf 5).toInt := e8
  replace e9 : (qf2 6).toInt = (qf 6).toInt := e9
  replace e10 : (qf2 7).toInt = (qf 7).toInt := e10
  replace e11 : (qf2 10).toInt = (qf 10).toInt := e11
  replace e12 : (qf2 11).toInt = (qf 11).toInt := e12
  replace e13 : (qf2 12).toInt = (qf 12).toInt := e13
  replace e14 : (qf2 13).toInt = (qf 13).toInt := e14
  replace e15 : (qf2 14).toInt = (qf 14).toInt := e15
  replace e16 : (qf2 21).toInt = (qf 21).toInt := e16
  replace e17 : (qf2 23).toInt = (qf 23).toInt := e17
  replace e18 : (qf2 24).toInt = (qf 24).toInt := e18
  replace hw : pw D A s.heap H locs [wd_Mpr cs q qr (fun k => if k = 0 then (some h) else none) qf2 qa qg, wdP cs h r g tf ta pf na ma wa cf ca ef ea xf xa] := hw
  refine lv_iconst (v := 0) S.x S.b d_Mpr_bad_4 (by decide) ?_
  exact px_iret (v := 0) S hr rfl hlk hAe hw (Nat.le_of_ble_eq_true rfl) (Nat.le_of_ble_eq_true rfl) (⟨qf2, rfl, (show (qf2 2).toInt = 7 from by first | exact e5 | omega), (show (qf2 1).toInt = (qf 1).toInt from by first | exact e6 | omega), (show (qf2 4).toInt = (qf 4).toInt from by first | exact e7 | omega), (show (qf2 5).toInt = (qf 5).toInt from by first | exact e8 | omega), (show (qf2 6).toInt = (qf 6).toInt from by first | exact e9 | omega), (show (qf2 7).toInt = (qf 7).toInt from by first | exact e10 | omega), (show (qf2 10).toInt = (qf 10).toInt from by first | exact e11 | omega), (show (qf2 11).toInt = (qf 11).toInt from by first | exact e12 | omega), (show (qf2 12).toInt = (qf 12).toInt from by first | exact e13 | omega), (show (qf2 13).toInt = (qf 13).toInt from by first | exact e14 | omega), (show (qf2 14).toInt = (qf 14).toInt from by first | exact e15 | omega), (show (qf2 21).toInt = (qf 21).toInt from by first | exact e16 | omega), (show (qf2 23).toInt = (qf 23).toInt from by first | exact e17 | omega), (show (qf2 24).toInt = (qf 24).toInt from by first | exact e18 | omega)⟩) d_Mpr_bad_5
abbrev b_Mpr_jump : ByteArray := prog_15_method_35_code
def y_Mpr_jump : MethodName := ⟨"HomeSystemModel$Process", "jump", "(II)I"⟩
theorem d_Mpr_jump_0 : decode b_Mpr_jump 0 = .ok (.iload_n 1, 1) := by decide +kernel
theorem d_Mpr_jump_1 : decode b_Mpr_jump 1 = .ok (.iconst 0, 1) := by decide +kernel
theorem d_Mpr_jump_2 : decode b_Mpr_jump 2 = .ok (.iconst 1, 1) := by decide +kernel
theorem d_Mpr_jump_3 : decode b_Mpr_jump 3 = .ok (.invokestatic 264, 3) := by decide +kernel
theorem d_Mpr_jump_6 : decode b_Mpr_jump 6 = .ok (.ifCond .eq 8, 3) := by decide +kernel
theorem d_Mpr_jump_9 : decode b_Mpr_jump 9 = .ok (.aload_n 0, 1) := by decide +kernel
theorem d_Mpr_jump_10 : decode b_Mpr_jump 10 = .ok (.invokevirtual 275, 3) := by decide +kernel
theorem d_Mpr_jump_13 : decode b_Mpr_jump 13 = .ok (.ireturn, 1) := by decide +kernel
theorem d_Mpr_jump_14 : decode b_Mpr_jump 14 = .ok (.aload_n 0, 1) := by decide +kernel
theorem d_Mpr_jump_15 : decode b_Mpr_jump 15 = .ok (.iload_n 2, 1) := by decide +kernel
theorem d_Mpr_jump_16 : decode b_Mpr_jump 16 = .ok (.aload_n 0, 1) := by decide +kernel
theorem d_Mpr_jump_17 : decode b_Mpr_jump 17 = .ok (.getfield 95, 3) := by decide +kernel
theorem d_Mpr_jump_20 : decode b_Mpr_jump 20 = .ok (.iconst 4, 1) := by decide +kernel
theorem d_Mpr_jump_21 : decode b_Mpr_jump 21 = .ok (.iadd, 1) := by decide +kernel
theorem d_Mpr_jump_22 : decode b_Mpr_jump 22 = .ok (.invokevirtual 268, 3) := by decide +kernel
theorem d_Mpr_jump_25 : decode b_Mpr_jump 25 = .ok (.iload_n 1, 1) := by decide +kernel
theorem d_Mpr_jump_26 : decode b_Mpr_jump 26 = .ok (.ireturn, 1) := by decide +kernel
theorem q_Mpr_jump : px_y y_Mpr_jump 2 := by unfold px_y; decide +kernel
set_option maxHeartbeats 4000000 in
set_option maxRecDepth 100000 in
theorem c_mr_jump (l : Launch) (D : va_G) (cs : Nat → ClassId) (nf : Int) (q : Nat) (qr : Nat → Nat) (qg : Nat → Nat → Option Nat) (qf : Nat → Int32) (qa : Nat → Nat → Int32) (h : Nat) (r : Nat → Nat) (g : Nat → Nat → Option Nat) (tf : Nat → Int32) (ta : Nat → Nat → Int32) (pf : Nat → Int32) (na : Nat → Nat → Int32) (ma : Nat → Nat → Int32) (wa : Nat → Nat → Int32) (cf : Nat → Int32) (ca : Nat → Nat → Int32) (ef : Nat → Int32) (ea : Nat → Nat → Int32) (xf : Nat → Int32) (xa : Nat → Nat → Int32) (p0 p1 : Int32)  (g0 : 0 ≤ p1.toInt) (g1 : p1.toInt < 32) : MetI l y_Mpr_jump b_Mpr_jump 3 (.int) D cs 3 90 (0) (0) [.ref q, .int p0, .int p1] [wd_Mpr cs q qr (fun k => if k = 0 then (some h) else none) qf qa qg, wdP cs h r g tf ta pf na ma wa cf ca ef ea xf xa] (oX (fun A U H => (oP A g U H)) [wd_Mpr cs q qr (fun k => if k = 0 then (some h) else none) qf qa qg, wdP cs h r g tf ta pf na ma wa cf ca ef ea xf xa]) (fun v ps => ∃ (qf' : Nat → Int32) (qa' : Nat → Nat → Int32), (ps = [wd_Mpr cs q qr (fun k => if k = 0 then (some h) else none) qf' qa' qg, wdP cs h r g tf ta pf na ma wa cf ca ef ea xf xa]) ∧ ((qf' 2).toInt = (qf 2).toInt ∨ (qf' 2).toInt = 7) ∧ ((qf' 1).toInt = (qf 1).toInt) ∧ ((qf' 4).toInt = (qf 4).toInt) ∧ ((qf' 5).toInt = (qf 5).toInt) ∧ ((qf' 6).toInt = (qf 6).toInt) ∧ ((qf' 7).toInt = (qf 7).toInt) ∧ ((qf' 10).toInt = (qf 10).toInt) ∧ ((qf' 11).toInt = (qf 11).toInt) ∧ ((qf' 12).toInt = (qf 12).toInt) ∧ ((qf' 13).toInt = (qf 13).toInt) ∧ ((qf' 14).toInt = (qf 14).toInt) ∧ ((qf' 21).toInt = (qf 21).toInt) ∧ ((qf' 23).toInt = (qf 23).toInt) ∧ ((qf' 24).toInt = (qf 24).toInt)) := by
  refine px_enter (by decide) (Nat.le_of_ble_eq_true rfl) ?_
  intro p e s m below meth c A ls hAe S hr hlk hnm hA hT hX hw hl
  replace hl : lv_has ls 3 [(0, .ref q), (1, .int p0), (2, .int p1)] := hl
  have lp0 := Int32.le_toInt p0
  have up0 := Int32.toInt_lt p0
  have lp1 := Int32.le_toInt p1
  have up1 := Int32.toInt_lt p1
  have cst0 : (0 : Int32).toInt = 0 := rfl
  have cst1 : (1 : Int32).toInt = 1 := rfl
  have cst4 : (4 : Int32).toInt = 4 := rfl
  have hX : (fun A U H => (oP A g U H)) A s s.heap := by rw [hAe]; exact hX
  have hP := hX
  have hZ := hP.1
  have hF0 := hP.2.1
  refine lv_iload_n S.x S.b d_Mpr_jump_0 rfl (lv_at hl 1 rfl) ?_
  refine lv_iconst (v := 0) S.x S.b d_Mpr_jump_1 (by decide) ?_
  refine lv_iconst (v := 1) S.x S.b d_Mpr_jump_2 (by decide) ?_
  refine px_calli (pr := [wd_Mpr cs q qr (fun k => if k = 0 then (some h) else none) qf qa qg, wdP cs h r g tf ta pf na ma wa cf ca ef ea xf xa]) (px_runS (As := [.int p0, .int 0, .int 1]) (rest := []) S (c_mr_bits l D cs  p0 0 1   _) hT (pr := [wd_Mpr cs q qr (fun k => if k = 0 then (some h) else none) qf qa qg, wdP cs h r g tf ta pf na ma wa cf ca ef ea xf xa]) (pcs := []) hw px_X.tt m13_212 m13_210 m13_211 m1_22 q_Mpr_bits ⟨Nat.le_of_ble_eq_true rfl, Nat.le_of_ble_eq_true rfl⟩ hl.1 rfl (Nat.le_of_ble_eq_true rfl) d_Mpr_jump_3 ⟨Nat.le_of_ble_eq_true rfl, Nat.le_of_ble_eq_true rfl⟩) hw hA (fun v2 p1 H locs hp1 hw => ?_)
  obtain ⟨rfl, e3⟩ := hp1
  replace e3 : (1 : Int) = (0 : Int) + 4 → 0 ≤ v2.toInt ∧ v2.toInt < 32 := e3
  replace hw : pw D A s.heap H locs [wd_Mpr cs q qr (fun k => if k = 0 then (some h) else none) qf qa qg, wdP cs h r g tf ta pf na ma wa cf ca ef ea xf xa] := hw
  have lv2 := Int32.le_toInt v2
  have uv2 := Int32.toInt_lt v2
  refine lv_if_eq (tgt := 14) S.x S.b d_Mpr_jump_6 (by decide) (fun c4 => ?_) (fun c4 => ?_)
  · have nc4 : v2.toInt = (0 : Int) := (i_eq (x := v2) (y := 0)).mp c4
    refine lv_aload_n S.x S.b d_Mpr_jump_14 rfl (lv_at hl 0 rfl) ?_
    refine lv_iload_n S.x S.b d_Mpr_jump_15 rfl (lv_at hl 2 rfl) ?_
    refine lv_aload_n S.x S.b d_Mpr_jump_16 rfl (lv_at hl 0 rfl) ?_
    refine px_get S k_Mpr hT hw 0 0 11 (v := .int (qf 11)) rfl rfl rfl (by decide) m11_2 d_Mpr_jump_17 ?_
    refine lv_iconst (v := 4) S.x S.b d_Mpr_jump_20 (by decide) ?_
    refine lv_iadd S.x S.b d_Mpr_jump_21 ?_
    have lr5 := Int32.le_toInt (qf 11)
    have ur5 := Int32.toInt_lt (qf 11)
    refine lv_topi (fun z6 ez6 => ?_)
    have tz6 : z6.toInt = ((qf 11).toInt + (4 : Int) + 2147483648) % 4294967296 - 2147483648 := by rw [ez6]; exact i_add (qf 11) 4
    have lz6 := Int32.le_toInt z6
    have uz6 := Int32.toInt_lt z6
    try replace tz6 : z6.toInt = (qf 11).toInt + (4 : Int) := by omega
    refine px_callv (pr := []) (px_runV (As := [.int p1, .int z6]) (rest := []) S (c_mr_set l D cs (0 : Int) q qr qg qf qa h r g tf ta pf na ma wa cf ca ef ea xf xa p1 z6  (show 0 ≤ p1.toInt from by first | exact g0 | omega) (show p1.toInt < 32 from by first | exact g1 | omega) _) hT (pr := []) (pcs := [wd_Mpr cs q qr (fun k => if k = 0 then (some h) else none) qf qa qg, wdP cs h r g tf ta pf na ma wa cf ca ef ea xf xa]) hw (oX_call (P := (fun A U H => (oP A g U H))) (pr := []) oG_P hw hA hP) (px_recv hT hw 0 0 rfl rfl rfl) m13_216 m13_213 m13_215 ms_15_4 m1_22 q_Mpr_set ⟨Nat.le_of_ble_eq_true rfl, Nat.le_of_ble_eq_true rfl⟩ hl.1 rfl (Nat.le_of_ble_eq_true rfl) d_Mpr_jump_22 ⟨Nat.le_of_ble_eq_true rfl, Nat.le_of_ble_eq_true rfl⟩) hw hA (fun p9 H locs hp9 hw => ?_)
    obtain ⟨qa8, rfl⟩ := hp9
    replace hw : pw D A s.heap H locs [wd_Mpr cs q qr (fun k => if k = 0 then (some h) else none) qf qa8 qg, wdP cs h r g tf ta pf na ma wa cf ca ef ea xf xa] := hw
    refine lv_iload_n S.x S.b d_Mpr_jump_25 rfl (lv_at hl 1 rfl) ?_
    exact px_iret (v := p0) S hr rfl hlk hAe hw (Nat.le_of_ble_eq_true rfl) (Nat.le_of_ble_eq_true rfl) (⟨qf, qa8, rfl, (show (qf 2).toInt = (qf 2).toInt ∨ (qf 2).toInt = 7 from by first | with_reducible rfl | with_reducible assumption | omega), (show (qf 1).toInt = (qf 1).toInt from rfl), (show (qf 4).toInt = (qf 4).toInt from rfl), (show (qf 5).toInt = (qf 5).toInt from rfl), (show (qf 6).toInt = (qf 6).toInt from rfl), (show (qf 7).toInt = (qf 7).toInt from rfl), (show (qf 10).toInt = (qf 10).toInt from rfl), (show (qf 11).toInt = (qf 11).toInt from rfl), (show (qf 12).toInt = (qf 12).toInt from rfl), (show (qf 13).toInt = (qf 13).toInt from rfl), (show (qf 14).toInt = (qf 14).toInt from rfl), (show (qf 21).toInt = (qf 21).toInt from rfl), (show (qf 23).toInt = (qf 23).toInt from rfl), (show (qf 24).toInt = (qf 24).toInt from rfl)⟩) d_Mpr_jump_26
  · have nc4 : ¬ v2.toInt = (0 : Int) := mt (i_eq (x := v2) (y := 0)).mpr c4
    refine lv_aload_n S.x S.b d_Mpr_jump_9 rfl (lv_at hl 0 rfl) ?_
    refine px_calli (pr := []) (px_runV (As := []) (rest := []) S (c_mr_bad l D cs (0 : Int) q qr qg qa qf h r g tf ta pf na ma wa cf ca ef ea xf xa    _) hT (pr := []) (pcs := [wd_Mpr cs q qr (fun k => if k = 0 then (some h) else none) qf qa qg, wdP cs h r g tf ta pf na ma wa cf ca ef ea xf xa]) hw (oX_call (P := (fun A U H => (oP A g U H))) (pr := []) oG_P hw hA hP) (px_recv hT hw 0 0 rfl rfl rfl) m13_225 m13_222 m13_224 ms_15_6 m1_22 q_Mpr_bad ⟨Nat.le_of_ble_eq_true rfl, Nat.le_of_ble_eq_true rfl⟩ hl.1 rfl (Nat.le_of_ble_eq_true rfl) d_Mpr_jump_10 ⟨Nat.le_of_ble_eq_true rfl, Nat.le_of_ble_eq_true rfl⟩) hw hA (fun v14 p13 H locs hp13 hw => ?_)
    obtain ⟨qf12, rfl, e15, e16, e17, e18, e19, e20, e21, e22, e23, e24, e25, e26, e27, e28⟩ := hp13
    replace e15 : (qf12 2).toInt = 7 := e15
    replace e16 : (qf12 1).toInt = (qf 1).toInt := e16
    replace e17 : (qf12 4).toInt = (qf 4).toInt := e17
    replace e18 : (qf12 5).toInt = (qf 5).toInt := e18
    replace e19 : (qf12 6).toInt = (qf 6).toInt := e19
    replace e20 : (qf12 7).toInt = (qf 7).toInt := e20
    replace e21 : (qf12 10).toInt = (qf 10).toInt := e21
    replace e22 : (qf12 11).toInt = (qf 11).toInt := e22
    replace e23 : (qf12 12).toInt = (qf 12).toInt := e23
    replace e24 : (qf12 13).toInt = (qf 13).toInt := e24
    replace e25 : (qf12 14).toInt = (qf 14).toInt := e25
    replace e26 : (qf12 21).toInt = (qf 21).toInt := e26
    replace e27 : (qf12 23).toInt = (qf 23).toInt := e27
    replace e28 : (qf12 24).toInt = (qf 24).toInt := e28
    replace hw : pw D A s.heap H locs [wd_Mpr cs q qr (fun k => if k = 0 then (some h) else none) qf12 qa qg, wdP cs h r g tf ta pf na ma wa cf ca ef ea xf xa] := hw
    have lv14 := Int32.le_toInt v14
    have uv14 := Int32.toInt_lt v14
    exact px_iret (v := v14) S hr rfl hlk hAe hw (Nat.le_of_ble_eq_true rfl) (Nat.le_of_ble_eq_true rfl) (⟨qf12, qa, rfl, (show (qf12 2).toInt = (qf 2).toInt ∨ (qf12 2).toInt = 7 from by first | with_reducible rfl | with_reducible assumption | omega), (show (qf12 1).toInt = (qf 1).toInt from by first | exact e16 | omega), (show (qf12 4).toInt = (qf 4).toInt from by first | exact e17 | omega), (show (qf12 5).toInt = (qf 5).toInt from by first | exact e18 | omega), (show (qf12 6).toInt = (qf 6).toInt from by first | exact e19 | omega), (show (qf12 7).toInt = (qf 7).toInt from by first | exact e20 | omega), (show (qf12 10).toInt = (qf 10).toInt from by first | exact e21 | omega), (show (qf12 11).toInt = (qf 11).toInt from by first | exact e22 | omega), (show (qf12 12).toInt = (qf 12).toInt from by first | exact e23 | omega), (show (qf12 13).toInt = (qf 13).toInt from by first | exact e24 | omega), (show (qf12 14).toInt = (qf 14).toInt from by first | exact e25 | omega), (show (qf12 21).toInt = (qf 21).toInt from by first | exact e26 | omega), (show (qf12 23).toInt = (qf 23).toInt from by first | exact e27 | omega), (show (qf12 24).toInt = (qf 24).toInt from by first | exact e28 | omega)⟩) d_Mpr_jump_13
