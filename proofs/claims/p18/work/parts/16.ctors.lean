theorem m10_218 : Cond.methodLink "HomeSystemModel$Process" 3 ⟨"java/lang/Object", "<init>", "()V"⟩ ∈ AL := AL_10 (List.mem_of_getElem? (i := 218) rfl) rfl
theorem m1_46 : Cond.instanceMethod ⟨"java/lang/Object", "<init>", "()V"⟩ ∈ AL := AL_1 (List.mem_of_getElem? (i := 46) rfl) rfl
theorem m1_47 : Cond.code ⟨"java/lang/Object", "<init>", "()V"⟩ object_method_1_code 1 (Option.none : Option Jvm.ClassFile.FieldType) ∈ AL := AL_1 (List.mem_of_getElem? (i := 47) rfl) rfl
theorem m10_219 : Cond.constant "HomeSystemModel$Process" 9 (37000) ∈ AL := AL_10 (List.mem_of_getElem? (i := 219) rfl) rfl
theorem m1_166 : Cond.arrayClass FieldType.int ∈ AL := AL_1 (List.mem_of_getElem? (i := 166) rfl) rfl
theorem m10_236 : Cond.fieldLink "HomeSystemModel$Process" 10 "HomeSystemModel$Process" "cells" "[I" ∈ AL := AL_10 (List.mem_of_getElem? (i := 236) rfl) rfl
theorem m10_220 : Cond.constant "HomeSystemModel$Process" 16 (62500) ∈ AL := AL_10 (List.mem_of_getElem? (i := 220) rfl) rfl
theorem m10_238 : Cond.fieldLink "HomeSystemModel$Process" 17 "HomeSystemModel$Process" "numbers" "[I" ∈ AL := AL_10 (List.mem_of_getElem? (i := 238) rfl) rfl
theorem m11_7 : Cond.fieldLink "HomeSystemModel$Process" 20 "HomeSystemModel$Process" "callAt" "[I" ∈ AL := AL_11 (List.mem_of_getElem? (i := 7) rfl) rfl
theorem m11_8 : Cond.fieldLink "HomeSystemModel$Process" 23 "HomeSystemModel$Process" "callBase" "[I" ∈ AL := AL_11 (List.mem_of_getElem? (i := 8) rfl) rfl
theorem m11_9 : Cond.fieldLink "HomeSystemModel$Process" 26 "HomeSystemModel$Process" "callTop" "[I" ∈ AL := AL_11 (List.mem_of_getElem? (i := 9) rfl) rfl
theorem m11_10 : Cond.fieldLink "HomeSystemModel$Process" 29 "HomeSystemModel$Process" "callOf" "[I" ∈ AL := AL_11 (List.mem_of_getElem? (i := 10) rfl) rfl
theorem m11_11 : Cond.fieldLink "HomeSystemModel$Process" 32 "HomeSystemModel$Process" "registers" "[I" ∈ AL := AL_11 (List.mem_of_getElem? (i := 11) rfl) rfl
theorem m11_13 : Cond.fieldLink "HomeSystemModel$Process" 35 "HomeSystemModel$Process" "up" "[I" ∈ AL := AL_11 (List.mem_of_getElem? (i := 13) rfl) rfl
theorem m11_17 : Cond.fieldLink "HomeSystemModel$Process" 38 "HomeSystemModel$Process" "down" "[I" ∈ AL := AL_11 (List.mem_of_getElem? (i := 17) rfl) rfl
theorem m11_23 : Cond.fieldLink "HomeSystemModel$Process" 41 "HomeSystemModel$Process" "papers" "[I" ∈ AL := AL_11 (List.mem_of_getElem? (i := 23) rfl) rfl
theorem m2_209 : Cond.methodLink "HomeSystem$Kernel" 3 ⟨"java/lang/Object", "<init>", "()V"⟩ ∈ AL := AL_2 (List.mem_of_getElem? (i := 209) rfl) rfl
theorem m2_210 : Cond.classLink "HomeSystem$Kernel" 9 "HomeSystem$Program" ∈ AL := AL_2 (List.mem_of_getElem? (i := 210) rfl) rfl
theorem m2_218 : Cond.fieldLink "HomeSystem$Kernel" 11 "HomeSystem$Kernel" "programs" "[LHomeSystem$Program;" ∈ AL := AL_2 (List.mem_of_getElem? (i := 218) rfl) rfl
theorem m2_220 : Cond.fieldLink "HomeSystem$Kernel" 17 "HomeSystem$Kernel" "blocks" "[I" ∈ AL := AL_2 (List.mem_of_getElem? (i := 220) rfl) rfl
theorem m2_212 : Cond.classLink "HomeSystem$Kernel" 21 "HomeSystem$AnyProcess" ∈ AL := AL_2 (List.mem_of_getElem? (i := 212) rfl) rfl
theorem m2_222 : Cond.fieldLink "HomeSystem$Kernel" 23 "HomeSystem$Kernel" "processes" "[LHomeSystem$AnyProcess;" ∈ AL := AL_2 (List.mem_of_getElem? (i := 222) rfl) rfl
theorem m2_214 : Cond.classLink "HomeSystem$Kernel" 27 "HomeSystem$TextProcess" ∈ AL := AL_2 (List.mem_of_getElem? (i := 214) rfl) rfl
theorem m2_224 : Cond.fieldLink "HomeSystem$Kernel" 29 "HomeSystem$Kernel" "texts" "[LHomeSystem$TextProcess;" ∈ AL := AL_2 (List.mem_of_getElem? (i := 224) rfl) rfl
theorem m2_216 : Cond.classLink "HomeSystem$Kernel" 33 "HomeSystem$RawProcess" ∈ AL := AL_2 (List.mem_of_getElem? (i := 216) rfl) rfl
theorem m2_225 : Cond.fieldLink "HomeSystem$Kernel" 35 "HomeSystem$Kernel" "raws" "[LHomeSystem$RawProcess;" ∈ AL := AL_2 (List.mem_of_getElem? (i := 225) rfl) rfl
theorem m2_226 : Cond.fieldLink "HomeSystem$Kernel" 39 "HomeSystem$Kernel" "rowNumbers" "[I" ∈ AL := AL_2 (List.mem_of_getElem? (i := 226) rfl) rfl
theorem m2_227 : Cond.fieldLink "HomeSystem$Kernel" 42 "HomeSystem$Kernel" "rowHeads" "[I" ∈ AL := AL_2 (List.mem_of_getElem? (i := 227) rfl) rfl
theorem m2_228 : Cond.fieldLink "HomeSystem$Kernel" 45 "HomeSystem$Kernel" "rowCounts" "[I" ∈ AL := AL_2 (List.mem_of_getElem? (i := 228) rfl) rfl
theorem m2_130 : Cond.methodLink "HomeSystem$Expressions" 3 ⟨"java/lang/Object", "<init>", "()V"⟩ ∈ AL := AL_2 (List.mem_of_getElem? (i := 130) rfl) rfl
theorem m2_131 : Cond.fieldLink "HomeSystem$Expressions" 9 "HomeSystem$Expressions" "tokens" "LHomeSystem$Tokens;" ∈ AL := AL_2 (List.mem_of_getElem? (i := 131) rfl) rfl
theorem m2_132 : Cond.fieldLink "HomeSystem$Expressions" 15 "HomeSystem$Expressions" "names" "LHomeSystem$Names;" ∈ AL := AL_2 (List.mem_of_getElem? (i := 132) rfl) rfl
theorem m2_133 : Cond.fieldLink "HomeSystem$Expressions" 19 "HomeSystem$Expressions" "program" "LHomeSystem$Program;" ∈ AL := AL_2 (List.mem_of_getElem? (i := 133) rfl) rfl
abbrev b_Mpr_init : ByteArray := prog_15_method_1_code
def y_Mpr_init : MethodName := ⟨"HomeSystemModel$Process", "<init>", "()V"⟩
theorem d_Mpr_init_0 : decode b_Mpr_init 0 = .ok (.aload_n 0, 1) := by decide +kernel
theorem d_Mpr_init_1 : decode b_Mpr_init 1 = .ok (.invokespecial 3, 3) := by decide +kernel
theorem d_Mpr_init_4 : decode b_Mpr_init 4 = .ok (.aload_n 0, 1) := by decide +kernel
theorem d_Mpr_init_5 : decode b_Mpr_init 5 = .ok (.ldc 9, 2) := by decide +kernel
theorem d_Mpr_init_7 : decode b_Mpr_init 7 = .ok (.newarray .int, 2) := by decide +kernel
theorem d_Mpr_init_9 : decode b_Mpr_init 9 = .ok (.putfield 10, 3) := by decide +kernel
theorem d_Mpr_init_12 : decode b_Mpr_init 12 = .ok (.aload_n 0, 1) := by decide +kernel
theorem d_Mpr_init_13 : decode b_Mpr_init 13 = .ok (.ldc 16, 2) := by decide +kernel
theorem d_Mpr_init_15 : decode b_Mpr_init 15 = .ok (.newarray .int, 2) := by decide +kernel
theorem d_Mpr_init_17 : decode b_Mpr_init 17 = .ok (.putfield 17, 3) := by decide +kernel
theorem d_Mpr_init_20 : decode b_Mpr_init 20 = .ok (.aload_n 0, 1) := by decide +kernel
theorem d_Mpr_init_21 : decode b_Mpr_init 21 = .ok (.sipush 132, 3) := by decide +kernel
theorem d_Mpr_init_24 : decode b_Mpr_init 24 = .ok (.newarray .int, 2) := by decide +kernel
theorem d_Mpr_init_26 : decode b_Mpr_init 26 = .ok (.putfield 20, 3) := by decide +kernel
theorem d_Mpr_init_29 : decode b_Mpr_init 29 = .ok (.aload_n 0, 1) := by decide +kernel
theorem d_Mpr_init_30 : decode b_Mpr_init 30 = .ok (.sipush 132, 3) := by decide +kernel
theorem d_Mpr_init_33 : decode b_Mpr_init 33 = .ok (.newarray .int, 2) := by decide +kernel
theorem d_Mpr_init_35 : decode b_Mpr_init 35 = .ok (.putfield 23, 3) := by decide +kernel
theorem d_Mpr_init_38 : decode b_Mpr_init 38 = .ok (.aload_n 0, 1) := by decide +kernel
theorem d_Mpr_init_39 : decode b_Mpr_init 39 = .ok (.sipush 132, 3) := by decide +kernel
theorem d_Mpr_init_42 : decode b_Mpr_init 42 = .ok (.newarray .int, 2) := by decide +kernel
theorem d_Mpr_init_44 : decode b_Mpr_init 44 = .ok (.putfield 26, 3) := by decide +kernel
theorem d_Mpr_init_47 : decode b_Mpr_init 47 = .ok (.aload_n 0, 1) := by decide +kernel
theorem d_Mpr_init_48 : decode b_Mpr_init 48 = .ok (.sipush 132, 3) := by decide +kernel
theorem d_Mpr_init_51 : decode b_Mpr_init 51 = .ok (.newarray .int, 2) := by decide +kernel
theorem d_Mpr_init_53 : decode b_Mpr_init 53 = .ok (.putfield 29, 3) := by decide +kernel
theorem d_Mpr_init_56 : decode b_Mpr_init 56 = .ok (.aload_n 0, 1) := by decide +kernel
theorem d_Mpr_init_57 : decode b_Mpr_init 57 = .ok (.bipush 32, 2) := by decide +kernel
theorem d_Mpr_init_59 : decode b_Mpr_init 59 = .ok (.newarray .int, 2) := by decide +kernel
theorem d_Mpr_init_61 : decode b_Mpr_init 61 = .ok (.putfield 32, 3) := by decide +kernel
theorem d_Mpr_init_64 : decode b_Mpr_init 64 = .ok (.aload_n 0, 1) := by decide +kernel
theorem d_Mpr_init_65 : decode b_Mpr_init 65 = .ok (.iconst 4, 1) := by decide +kernel
theorem d_Mpr_init_66 : decode b_Mpr_init 66 = .ok (.newarray .int, 2) := by decide +kernel
theorem d_Mpr_init_68 : decode b_Mpr_init 68 = .ok (.putfield 35, 3) := by decide +kernel
theorem d_Mpr_init_71 : decode b_Mpr_init 71 = .ok (.aload_n 0, 1) := by decide +kernel
theorem d_Mpr_init_72 : decode b_Mpr_init 72 = .ok (.iconst 4, 1) := by decide +kernel
theorem d_Mpr_init_73 : decode b_Mpr_init 73 = .ok (.newarray .int, 2) := by decide +kernel
theorem d_Mpr_init_75 : decode b_Mpr_init 75 = .ok (.putfield 38, 3) := by decide +kernel
theorem d_Mpr_init_78 : decode b_Mpr_init 78 = .ok (.aload_n 0, 1) := by decide +kernel
theorem d_Mpr_init_79 : decode b_Mpr_init 79 = .ok (.sipush 256, 3) := by decide +kernel
theorem d_Mpr_init_82 : decode b_Mpr_init 82 = .ok (.newarray .int, 2) := by decide +kernel
theorem d_Mpr_init_84 : decode b_Mpr_init 84 = .ok (.putfield 41, 3) := by decide +kernel
theorem d_Mpr_init_87 : decode b_Mpr_init 87 = .ok (.return_, 1) := by decide +kernel
theorem q_Mpr_init : px_y y_Mpr_init 0 := by unfold px_y; decide +kernel
set_option maxHeartbeats 4000000 in
set_option maxRecDepth 100000 in
theorem c_Mpr_init (l : Launch) (D : va_G) (cs : Nat → ClassId) (h : Nat)  : MetV l y_Mpr_init b_Mpr_init 1 D cs 1 12 10 100324 [.ref h] [[(h, .inr (13, [.null, .int 0, .int 0, .int 0, .int 0, .int 0, .int 0, .int 0, .null, .null, .int 0, .int 0, .int 0, .int 0, .int 0, .null, .null, .null, .null, .null, .null, .int 0, .null, .int 0, .int 0, .null]))]] (fun _ => True) (fun ps => ∃ r : Nat → Nat, ps.flatten = [wd_Mpr cs h r (fun _ => none) (fun _ => 0) (fun _ _ => 0) (fun _ _ => none)].flatten) := by
  refine px_enter (by decide) (Nat.le_of_ble_eq_true rfl) ?_
  intro p e s m below meth c A ls hAe S hr hlk hnm hA hT hX hw hl
  have hin : meth.name = "<init>" := hnm
  replace hl : lv_has ls 1 [(0, .ref h)] := hl
  refine lv_aload_n S.x S.b d_Mpr_init_0 rfl (lv_at hl 0 rfl) ?_
  refine px_oinit S m10_218 m1_46 m1_47 hl.1 d_Mpr_init_1 (Nat.le_of_ble_eq_true rfl) (Nat.le_of_ble_eq_true rfl) ?_
  refine lv_aload_n S.x S.b d_Mpr_init_4 rfl (lv_at hl 0 rfl) ?_
  refine lv_ldc (v := 37000) S.x S.b S.own (S.w m10_219) d_Mpr_init_5 ?_
  refine px_newa S hT hw hA (atype := .int) m1_166 0 rfl rfl (a0 := (37000, .inl (fun _ => 0))) (fun _ => rfl) (by decide) (by decide +kernel) (Nat.le_of_ble_eq_true rfl) (Nat.le_of_ble_eq_true rfl) (Nat.le_of_ble_eq_true rfl) d_Mpr_init_7 (fun q1 H hw => ?_)
  replace hw : pw D A s.heap H _ [[(h, .inr (13, [.null, .int 0, .int 0, .int 0, .int 0, .int 0, .int 0, .int 0, .null, .null, .int 0, .int 0, .int 0, .int 0, .int 0, .null, .null, .null, .null, .null, .null, .int 0, .null, .int 0, .int 0, .null]))], [(q1, .inl (cs 0, 37000, .inl (fun _ => 0)))]] := hw
  refine px_putF S k_Mpr hin hT hw 0 0 8 rfl rfl (by decide) m10_236 rfl rfl rfl rfl (Nat.le_of_ble_eq_true rfl) d_Mpr_init_9 (w' := [(h, .inr (13, [.null, .int 0, .int 0, .int 0, .int 0, .int 0, .int 0, .int 0, .ref q1, .null, .int 0, .int 0, .int 0, .int 0, .int 0, .null, .null, .null, .null, .null, .null, .int 0, .null, .int 0, .int 0, .null]))]) (ps' := [[(h, .inr (13, [.null, .int 0, .int 0, .int 0, .int 0, .int 0, .int 0, .int 0, .ref q1, .null, .int 0, .int 0, .int 0, .int 0, .int 0, .null, .null, .null, .null, .null, .null, .int 0, .null, .int 0, .int 0, .null]))], [(q1, .inl (cs 0, 37000, .inl (fun _ => 0)))]]) rfl rfl (fun H locs hw => ?_)
  refine lv_aload_n S.x S.b d_Mpr_init_12 rfl (lv_at hl 0 rfl) ?_
  refine lv_ldc (v := 62500) S.x S.b S.own (S.w m10_220) d_Mpr_init_13 ?_
  refine px_newa S hT hw hA (atype := .int) m1_166 0 rfl rfl (a0 := (62500, .inl (fun _ => 0))) (fun _ => rfl) (by decide) (by decide +kernel) (Nat.le_of_ble_eq_true rfl) (Nat.le_of_ble_eq_true rfl) (Nat.le_of_ble_eq_true rfl) d_Mpr_init_15 (fun q2 H hw => ?_)
  replace hw : pw D A s.heap H _ [[(h, .inr (13, [.null, .int 0, .int 0, .int 0, .int 0, .int 0, .int 0, .int 0, .ref q1, .null, .int 0, .int 0, .int 0, .int 0, .int 0, .null, .null, .null, .null, .null, .null, .int 0, .null, .int 0, .int 0, .null]))], [(q1, .inl (cs 0, 37000, .inl (fun _ => 0)))], [(q2, .inl (cs 0, 62500, .inl (fun _ => 0)))]] := hw
  refine px_putF S k_Mpr hin hT hw 0 0 9 rfl rfl (by decide) m10_238 rfl rfl rfl rfl (Nat.le_of_ble_eq_true rfl) d_Mpr_init_17 (w' := [(h, .inr (13, [.null, .int 0, .int 0, .int 0, .int 0, .int 0, .int 0, .int 0, .ref q1, .ref q2, .int 0, .int 0, .int 0, .int 0, .int 0, .null, .null, .null, .null, .null, .null, .int 0, .null, .int 0, .int 0, .null]))]) (ps' := [[(h, .inr (13, [.null, .int 0, .int 0, .int 0, .int 0, .int 0, .int 0, .int 0, .ref q1, .ref q2, .int 0, .int 0, .int 0, .int 0, .int 0, .null, .null, .null, .null, .null, .null, .int 0, .null, .int 0, .int 0, .null]))], [(q1, .inl (cs 0, 37000, .inl (fun _ => 0)))], [(q2, .inl (cs 0, 62500, .inl (fun _ => 0)))]]) rfl rfl (fun H locs hw => ?_)
  refine lv_aload_n S.x S.b d_Mpr_init_20 rfl (lv_at hl 0 rfl) ?_
  refine lv_sipush (v := 132) S.x S.b d_Mpr_init_21 (by decide) ?_
  refine px_newa S hT hw hA (atype := .int) m1_166 0 rfl rfl (a0 := (132, .inl (fun _ => 0))) (fun _ => rfl) (by decide) (by decide +kernel) (Nat.le_of_ble_eq_true rfl) (Nat.le_of_ble_eq_true rfl) (Nat.le_of_ble_eq_true rfl) d_Mpr_init_24 (fun q3 H hw => ?_)
  replace hw : pw D A s.heap H _ [[(h, .inr (13, [.null, .int 0, .int 0, .int 0, .int 0, .int 0, .int 0, .int 0, .ref q1, .ref q2, .int 0, .int 0, .int 0, .int 0, .int 0, .null, .null, .null, .null, .null, .null, .int 0, .null, .int 0, .int 0, .null]))], [(q1, .inl (cs 0, 37000, .inl (fun _ => 0)))], [(q2, .inl (cs 0, 62500, .inl (fun _ => 0)))], [(q3, .inl (cs 0, 132, .inl (fun _ => 0)))]] := hw
  refine px_putF S k_Mpr hin hT hw 0 0 15 rfl rfl (by decide) m11_7 rfl rfl rfl rfl (Nat.le_of_ble_eq_true rfl) d_Mpr_init_26 (w' := [(h, .inr (13, [.null, .int 0, .int 0, .int 0, .int 0, .int 0, .int 0, .int 0, .ref q1, .ref q2, .int 0, .int 0, .int 0, .int 0, .int 0, .ref q3, .null, .null, .null, .null, .null, .int 0, .null, .int 0, .int 0, .null]))]) (ps' := [[(h, .inr (13, [.null, .int 0, .int 0, .int 0, .int 0, .int 0, .int 0, .int 0, .ref q1, .ref q2, .int 0, .int 0, .int 0, .int 0, .int 0, .ref q3, .null, .null, .null, .null, .null, .int 0, .null, .int 0, .int 0, .null]))], [(q1, .inl (cs 0, 37000, .inl (fun _ => 0)))], [(q2, .inl (cs 0, 62500, .inl (fun _ => 0)))], [(q3, .inl (cs 0, 132, .inl (fun _ => 0)))]]) rfl rfl (fun H locs hw => ?_)
  refine lv_aload_n S.x S.b d_Mpr_init_29 rfl (lv_at hl 0 rfl) ?_
  refine lv_sipush (v := 132) S.x S.b d_Mpr_init_30 (by decide) ?_
  refine px_newa S hT hw hA (atype := .int) m1_166 0 rfl rfl (a0 := (132, .inl (fun _ => 0))) (fun _ => rfl) (by decide) (by decide +kernel) (Nat.le_of_ble_eq_true rfl) (Nat.le_of_ble_eq_true rfl) (Nat.le_of_ble_eq_true rfl) d_Mpr_init_33 (fun q4 H hw => ?_)
  replace hw : pw D A s.heap H _ [[(h, .inr (13, [.null, .int 0, .int 0, .int 0, .int 0, .int 0, .int 0, .int 0, .ref q1, .ref q2, .int 0, .int 0, .int 0, .int 0, .int 0, .ref q3, .null, .null, .null, .null, .null, .int 0, .null, .int 0, .int 0, .null]))], [(q1, .inl (cs 0, 37000, .inl (fun _ => 0)))], [(q2, .inl (cs 0, 62500, .inl (fun _ => 0)))], [(q3, .inl (cs 0, 132, .inl (fun _ => 0)))], [(q4, .inl (cs 0, 132, .inl (fun _ => 0)))]] := hw
  refine px_putF S k_Mpr hin hT hw 0 0 16 rfl rfl (by decide) m11_8 rfl rfl rfl rfl (Nat.le_of_ble_eq_true rfl) d_Mpr_init_35 (w' := [(h, .inr (13, [.null, .int 0, .int 0, .int 0, .int 0, .int 0, .int 0, .int 0, .ref q1, .ref q2, .int 0, .int 0, .int 0, .int 0, .int 0, .ref q3, .ref q4, .null, .null, .null, .null, .int 0, .null, .int 0, .int 0, .null]))]) (ps' := [[(h, .inr (13, [.null, .int 0, .int 0, .int 0, .int 0, .int 0, .int 0, .int 0, .ref q1, .ref q2, .int 0, .int 0, .int 0, .int 0, .int 0, .ref q3, .ref q4, .null, .null, .null, .null, .int 0, .null, .int 0, .int 0, .null]))], [(q1, .inl (cs 0, 37000, .inl (fun _ => 0)))], [(q2, .inl (cs 0, 62500, .inl (fun _ => 0)))], [(q3, .inl (cs 0, 132, .inl (fun _ => 0)))], [(q4, .inl (cs 0, 132, .inl (fun _ => 0)))]]) rfl rfl (fun H locs hw => ?_)
  refine lv_aload_n S.x S.b d_Mpr_init_38 rfl (lv_at hl 0 rfl) ?_
  refine lv_sipush (v := 132) S.x S.b d_Mpr_init_39 (by decide) ?_
  refine px_newa S hT hw hA (atype := .int) m1_166 0 rfl rfl (a0 := (132, .inl (fun _ => 0))) (fun _ => rfl) (by decide) (by decide +kernel) (Nat.le_of_ble_eq_true rfl) (Nat.le_of_ble_eq_true rfl) (Nat.le_of_ble_eq_true rfl) d_Mpr_init_42 (fun q5 H hw => ?_)
  replace hw : pw D A s.heap H _ [[(h, .inr (13, [.null, .int 0, .int 0, .int 0, .int 0, .int 0, .int 0, .int 0, .ref q1, .ref q2, .int 0, .int 0, .int 0, .int 0, .int 0, .ref q3, .ref q4, .null, .null, .null, .null, .int 0, .null, .int 0, .int 0, .null]))], [(q1, .inl (cs 0, 37000, .inl (fun _ => 0)))], [(q2, .inl (cs 0, 62500, .inl (fun _ => 0)))], [(q3, .inl (cs 0, 132, .inl (fun _ => 0)))], [(q4, .inl (cs 0, 132, .inl (fun _ => 0)))], [(q5, .inl (cs 0, 132, .inl (fun _ => 0)))]] := hw
  refine px_putF S k_Mpr hin hT hw 0 0 17 rfl rfl (by decide) m11_9 rfl rfl rfl rfl (Nat.le_of_ble_eq_true rfl) d_Mpr_init_44 (w' := [(h, .inr (13, [.null, .int 0, .int 0, .int 0, .int 0, .int 0, .int 0, .int 0, .ref q1, .ref q2, .int 0, .int 0, .int 0, .int 0, .int 0, .ref q3, .ref q4, .ref q5, .null, .null, .null, .int 0, .null, .int 0, .int 0, .null]))]) (ps' := [[(h, .inr (13, [.null, .int 0, .int 0, .int 0, .int 0, .int 0, .int 0, .int 0, .ref q1, .ref q2, .int 0, .int 0, .int 0, .int 0, .int 0, .ref q3, .ref q4, .ref q5, .null, .null, .null, .int 0, .null, .int 0, .int 0, .null]))], [(q1, .inl (cs 0, 37000, .inl (fun _ => 0)))], [(q2, .inl (cs 0, 62500, .inl (fun _ => 0)))], [(q3, .inl (cs 0, 132, .inl (fun _ => 0)))], [(q4, .inl (cs 0, 132, .inl (fun _ => 0)))], [(q5, .inl (cs 0, 132, .inl (fun _ => 0)))]]) rfl rfl (fun H locs hw => ?_)
  refine lv_aload_n S.x S.b d_Mpr_init_47 rfl (lv_at hl 0 rfl) ?_
  refine lv_sipush (v := 132) S.x S.b d_Mpr_init_48 (by decide) ?_
  refine px_newa S hT hw hA (atype := .int) m1_166 0 rfl rfl (a0 := (132, .inl (fun _ => 0))) (fun _ => rfl) (by decide) (by decide +kernel) (Nat.le_of_ble_eq_true rfl) (Nat.le_of_ble_eq_true rfl) (Nat.le_of_ble_eq_true rfl) d_Mpr_init_51 (fun q6 H hw => ?_)
  replace hw : pw D A s.heap H _ [[(h, .inr (13, [.null, .int 0, .int 0, .int 0, .int 0, .int 0, .int 0, .int 0, .ref q1, .ref q2, .int 0, .int 0, .int 0, .int 0, .int 0, .ref q3, .ref q4, .ref q5, .null, .null, .null, .int 0, .null, .int 0, .int 0, .null]))], [(q1, .inl (cs 0, 37000, .inl (fun _ => 0)))], [(q2, .inl (cs 0, 62500, .inl (fun _ => 0)))], [(q3, .inl (cs 0, 132, .inl (fun _ => 0)))], [(q4, .inl (cs 0, 132, .inl (fun _ => 0)))], [(q5, .inl (cs 0, 132, .inl (fun _ => 0)))], [(q6, .inl (cs 0, 132, .inl (fun _ => 0)))]] := hw
  refine px_putF S k_Mpr hin hT hw 0 0 18 rfl rfl (by decide) m11_10 rfl rfl rfl rfl (Nat.le_of_ble_eq_true rfl) d_Mpr_init_53 (w' := [(h, .inr (13, [.null, .int 0, .int 0, .int 0, .int 0, .int 0, .int 0, .int 0, .ref q1, .ref q2, .int 0, .int 0, .int 0, .int 0, .int 0, .ref q3, .ref q4, .ref q5, .ref q6, .null, .null, .int 0, .null, .int 0, .int 0, .null]))]) (ps' := [[(h, .inr (13, [.null, .int 0, .int 0, .int 0, .int 0, .int 0, .int 0, .int 0, .ref q1, .ref q2, .int 0, .int 0, .int 0, .int 0, .int 0, .ref q3, .ref q4, .ref q5, .ref q6, .null, .null, .int 0, .null, .int 0, .int 0, .null]))], [(q1, .inl (cs 0, 37000, .inl (fun _ => 0)))], [(q2, .inl (cs 0, 62500, .inl (fun _ => 0)))], [(q3, .inl (cs 0, 132, .inl (fun _ => 0)))], [(q4, .inl (cs 0, 132, .inl (fun _ => 0)))], [(q5, .inl (cs 0, 132, .inl (fun _ => 0)))], [(q6, .inl (cs 0, 132, .inl (fun _ => 0)))]]) rfl rfl (fun H locs hw => ?_)
  refine lv_aload_n S.x S.b d_Mpr_init_56 rfl (lv_at hl 0 rfl) ?_
  refine lv_bipush (v := 32) S.x S.b d_Mpr_init_57 (by decide) ?_
  refine px_newa S hT hw hA (atype := .int) m1_166 0 rfl rfl (a0 := (32, .inl (fun _ => 0))) (fun _ => rfl) (by decide) (by decide +kernel) (Nat.le_of_ble_eq_true rfl) (Nat.le_of_ble_eq_true rfl) (Nat.le_of_ble_eq_true rfl) d_Mpr_init_59 (fun q7 H hw => ?_)
  replace hw : pw D A s.heap H _ [[(h, .inr (13, [.null, .int 0, .int 0, .int 0, .int 0, .int 0, .int 0, .int 0, .ref q1, .ref q2, .int 0, .int 0, .int 0, .int 0, .int 0, .ref q3, .ref q4, .ref q5, .ref q6, .null, .null, .int 0, .null, .int 0, .int 0, .null]))], [(q1, .inl (cs 0, 37000, .inl (fun _ => 0)))], [(q2, .inl (cs 0, 62500, .inl (fun _ => 0)))], [(q3, .inl (cs 0, 132, .inl (fun _ => 0)))], [(q4, .inl (cs 0, 132, .inl (fun _ => 0)))], [(q5, .inl (cs 0, 132, .inl (fun _ => 0)))], [(q6, .inl (cs 0, 132, .inl (fun _ => 0)))], [(q7, .inl (cs 0, 32, .inl (fun _ => 0)))]] := hw
  refine px_putF S k_Mpr hin hT hw 0 0 19 rfl rfl (by decide) m11_11 rfl rfl rfl rfl (Nat.le_of_ble_eq_true rfl) d_Mpr_init_61 (w' := [(h, .inr (13, [.null, .int 0, .int 0, .int 0, .int 0, .int 0, .int 0, .int 0, .ref q1, .ref q2, .int 0, .int 0, .int 0, .int 0, .int 0, .ref q3, .ref q4, .ref q5, .ref q6, .ref q7, .null, .int 0, .null, .int 0, .int 0, .null]))]) (ps' := [[(h, .inr (13, [.null, .int 0, .int 0, .int 0, .int 0, .int 0, .int 0, .int 0, .ref q1, .ref q2, .int 0, .int 0, .int 0, .int 0, .int 0, .ref q3, .ref q4, .ref q5, .ref q6, .ref q7, .null, .int 0, .null, .int 0, .int 0, .null]))], [(q1, .inl (cs 0, 37000, .inl (fun _ => 0)))], [(q2, .inl (cs 0, 62500, .inl (fun _ => 0)))], [(q3, .inl (cs 0, 132, .inl (fun _ => 0)))], [(q4, .inl (cs 0, 132, .inl (fun _ => 0)))], [(q5, .inl (cs 0, 132, .inl (fun _ => 0)))], [(q6, .inl (cs 0, 132, .inl (fun _ => 0)))], [(q7, .inl (cs 0, 32, .inl (fun _ => 0)))]]) rfl rfl (fun H locs hw => ?_)
  refine lv_aload_n S.x S.b d_Mpr_init_64 rfl (lv_at hl 0 rfl) ?_
  refine lv_iconst (v := 4) S.x S.b d_Mpr_init_65 (by decide) ?_
  refine px_newa S hT hw hA (atype := .int) m1_166 0 rfl rfl (a0 := (4, .inl (fun _ => 0))) (fun _ => rfl) (by decide) (by decide +kernel) (Nat.le_of_ble_eq_true rfl) (Nat.le_of_ble_eq_true rfl) (Nat.le_of_ble_eq_true rfl) d_Mpr_init_66 (fun q8 H hw => ?_)
  replace hw : pw D A s.heap H _ [[(h, .inr (13, [.null, .int 0, .int 0, .int 0, .int 0, .int 0, .int 0, .int 0, .ref q1, .ref q2, .int 0, .int 0, .int 0, .int 0, .int 0, .ref q3, .ref q4, .ref q5, .ref q6, .ref q7, .null, .int 0, .null, .int 0, .int 0, .null]))], [(q1, .inl (cs 0, 37000, .inl (fun _ => 0)))], [(q2, .inl (cs 0, 62500, .inl (fun _ => 0)))], [(q3, .inl (cs 0, 132, .inl (fun _ => 0)))], [(q4, .inl (cs 0, 132, .inl (fun _ => 0)))], [(q5, .inl (cs 0, 132, .inl (fun _ => 0)))], [(q6, .inl (cs 0, 132, .inl (fun _ => 0)))], [(q7, .inl (cs 0, 32, .inl (fun _ => 0)))], [(q8, .inl (cs 0, 4, .inl (fun _ => 0)))]] := hw
  refine px_putF S k_Mpr hin hT hw 0 0 20 rfl rfl (by decide) m11_13 rfl rfl rfl rfl (Nat.le_of_ble_eq_true rfl) d_Mpr_init_68 (w' := [(h, .inr (13, [.null, .int 0, .int 0, .int 0, .int 0, .int 0, .int 0, .int 0, .ref q1, .ref q2, .int 0, .int 0, .int 0, .int 0, .int 0, .ref q3, .ref q4, .ref q5, .ref q6, .ref q7, .ref q8, .int 0, .null, .int 0, .int 0, .null]))]) (ps' := [[(h, .inr (13, [.null, .int 0, .int 0, .int 0, .int 0, .int 0, .int 0, .int 0, .ref q1, .ref q2, .int 0, .int 0, .int 0, .int 0, .int 0, .ref q3, .ref q4, .ref q5, .ref q6, .ref q7, .ref q8, .int 0, .null, .int 0, .int 0, .null]))], [(q1, .inl (cs 0, 37000, .inl (fun _ => 0)))], [(q2, .inl (cs 0, 62500, .inl (fun _ => 0)))], [(q3, .inl (cs 0, 132, .inl (fun _ => 0)))], [(q4, .inl (cs 0, 132, .inl (fun _ => 0)))], [(q5, .inl (cs 0, 132, .inl (fun _ => 0)))], [(q6, .inl (cs 0, 132, .inl (fun _ => 0)))], [(q7, .inl (cs 0, 32, .inl (fun _ => 0)))], [(q8, .inl (cs 0, 4, .inl (fun _ => 0)))]]) rfl rfl (fun H locs hw => ?_)
  refine lv_aload_n S.x S.b d_Mpr_init_71 rfl (lv_at hl 0 rfl) ?_
  refine lv_iconst (v := 4) S.x S.b d_Mpr_init_72 (by decide) ?_
  refine px_newa S hT hw hA (atype := .int) m1_166 0 rfl rfl (a0 := (4, .inl (fun _ => 0))) (fun _ => rfl) (by decide) (by decide +kernel) (Nat.le_of_ble_eq_true rfl) (Nat.le_of_ble_eq_true rfl) (Nat.le_of_ble_eq_true rfl) d_Mpr_init_73 (fun q9 H hw => ?_)
  replace hw : pw D A s.heap H _ [[(h, .inr (13, [.null, .int 0, .int 0, .int 0, .int 0, .int 0, .int 0, .int 0, .ref q1, .ref q2, .int 0, .int 0, .int 0, .int 0, .int 0, .ref q3, .ref q4, .ref q5, .ref q6, .ref q7, .ref q8, .int 0, .null, .int 0, .int 0, .null]))], [(q1, .inl (cs 0, 37000, .inl (fun _ => 0)))], [(q2, .inl (cs 0, 62500, .inl (fun _ => 0)))], [(q3, .inl (cs 0, 132, .inl (fun _ => 0)))], [(q4, .inl (cs 0, 132, .inl (fun _ => 0)))], [(q5, .inl (cs 0, 132, .inl (fun _ => 0)))], [(q6, .inl (cs 0, 132, .inl (fun _ => 0)))], [(q7, .inl (cs 0, 32, .inl (fun _ => 0)))], [(q8, .inl (cs 0, 4, .inl (fun _ => 0)))], [(q9, .inl (cs 0, 4, .inl (fun _ => 0)))]] := hw
  refine px_putF S k_Mpr hin hT hw 0 0 22 rfl rfl (by decide) m11_17 rfl rfl rfl rfl (Nat.le_of_ble_eq_true rfl) d_Mpr_init_75 (w' := [(h, .inr (13, [.null, .int 0, .int 0, .int 0, .int 0, .int 0, .int 0, .int 0, .ref q1, .ref q2, .int 0, .int 0, .int 0, .int 0, .int 0, .ref q3, .ref q4, .ref q5, .ref q6, .ref q7, .ref q8, .int 0, .ref q9, .int 0, .int 0, .null]))]) (ps' := [[(h, .inr (13, [.null, .int 0, .int 0, .int 0, .int 0, .int 0, .int 0, .int 0, .ref q1, .ref q2, .int 0, .int 0, .int 0, .int 0, .int 0, .ref q3, .ref q4, .ref q5, .ref q6, .ref q7, .ref q8, .int 0, .ref q9, .int 0, .int 0, .null]))], [(q1, .inl (cs 0, 37000, .inl (fun _ => 0)))], [(q2, .inl (cs 0, 62500, .inl (fun _ => 0)))], [(q3, .inl (cs 0, 132, .inl (fun _ => 0)))], [(q4, .inl (cs 0, 132, .inl (fun _ => 0)))], [(q5, .inl (cs 0, 132, .inl (fun _ => 0)))], [(q6, .inl (cs 0, 132, .inl (fun _ => 0)))], [(q7, .inl (cs 0, 32, .inl (fun _ => 0)))], [(q8, .inl (cs 0, 4, .inl (fun _ => 0)))], [(q9, .inl (cs 0, 4, .inl (fun _ => 0)))]]) rfl rfl (fun H locs hw => ?_)
  refine lv_aload_n S.x S.b d_Mpr_init_78 rfl (lv_at hl 0 rfl) ?_
  refine lv_sipush (v := 256) S.x S.b d_Mpr_init_79 (by decide) ?_
  refine px_newa S hT hw hA (atype := .int) m1_166 0 rfl rfl (a0 := (256, .inl (fun _ => 0))) (fun _ => rfl) (by decide) (by decide +kernel) (Nat.le_of_ble_eq_true rfl) (Nat.le_of_ble_eq_true rfl) (Nat.le_of_ble_eq_true rfl) d_Mpr_init_82 (fun q10 H hw => ?_)
  replace hw : pw D A s.heap H _ [[(h, .inr (13, [.null, .int 0, .int 0, .int 0, .int 0, .int 0, .int 0, .int 0, .ref q1, .ref q2, .int 0, .int 0, .int 0, .int 0, .int 0, .ref q3, .ref q4, .ref q5, .ref q6, .ref q7, .ref q8, .int 0, .ref q9, .int 0, .int 0, .null]))], [(q1, .inl (cs 0, 37000, .inl (fun _ => 0)))], [(q2, .inl (cs 0, 62500, .inl (fun _ => 0)))], [(q3, .inl (cs 0, 132, .inl (fun _ => 0)))], [(q4, .inl (cs 0, 132, .inl (fun _ => 0)))], [(q5, .inl (cs 0, 132, .inl (fun _ => 0)))], [(q6, .inl (cs 0, 132, .inl (fun _ => 0)))], [(q7, .inl (cs 0, 32, .inl (fun _ => 0)))], [(q8, .inl (cs 0, 4, .inl (fun _ => 0)))], [(q9, .inl (cs 0, 4, .inl (fun _ => 0)))], [(q10, .inl (cs 0, 256, .inl (fun _ => 0)))]] := hw
  refine px_putF S k_Mpr hin hT hw 0 0 25 rfl rfl (by decide) m11_23 rfl rfl rfl rfl (Nat.le_of_ble_eq_true rfl) d_Mpr_init_84 (w' := [(h, .inr (13, [.null, .int 0, .int 0, .int 0, .int 0, .int 0, .int 0, .int 0, .ref q1, .ref q2, .int 0, .int 0, .int 0, .int 0, .int 0, .ref q3, .ref q4, .ref q5, .ref q6, .ref q7, .ref q8, .int 0, .ref q9, .int 0, .int 0, .ref q10]))]) (ps' := [[(h, .inr (13, [.null, .int 0, .int 0, .int 0, .int 0, .int 0, .int 0, .int 0, .ref q1, .ref q2, .int 0, .int 0, .int 0, .int 0, .int 0, .ref q3, .ref q4, .ref q5, .ref q6, .ref q7, .ref q8, .int 0, .ref q9, .int 0, .int 0, .ref q10]))], [(q1, .inl (cs 0, 37000, .inl (fun _ => 0)))], [(q2, .inl (cs 0, 62500, .inl (fun _ => 0)))], [(q3, .inl (cs 0, 132, .inl (fun _ => 0)))], [(q4, .inl (cs 0, 132, .inl (fun _ => 0)))], [(q5, .inl (cs 0, 132, .inl (fun _ => 0)))], [(q6, .inl (cs 0, 132, .inl (fun _ => 0)))], [(q7, .inl (cs 0, 32, .inl (fun _ => 0)))], [(q8, .inl (cs 0, 4, .inl (fun _ => 0)))], [(q9, .inl (cs 0, 4, .inl (fun _ => 0)))], [(q10, .inl (cs 0, 256, .inl (fun _ => 0)))]]) rfl rfl (fun H locs hw => ?_)
  exact px_vret S hr hlk hAe hw (Nat.le_of_ble_eq_true rfl) (Nat.le_of_ble_eq_true rfl) (⟨(fun k => if k = 25 then q10 else if k = 22 then q9 else if k = 20 then q8 else if k = 19 then q7 else if k = 18 then q6 else if k = 17 then q5 else if k = 16 then q4 else if k = 15 then q3 else if k = 9 then q2 else if k = 8 then q1 else 0), rfl⟩) d_Mpr_init_87
abbrev b_Ker_init : ByteArray := prog_4_method_1_code
def y_Ker_init : MethodName := ⟨"HomeSystem$Kernel", "<init>", "()V"⟩
theorem d_Ker_init_0 : decode b_Ker_init 0 = .ok (.aload_n 0, 1) := by decide +kernel
theorem d_Ker_init_1 : decode b_Ker_init 1 = .ok (.invokespecial 3, 3) := by decide +kernel
theorem d_Ker_init_4 : decode b_Ker_init 4 = .ok (.aload_n 0, 1) := by decide +kernel
theorem d_Ker_init_5 : decode b_Ker_init 5 = .ok (.bipush 8, 2) := by decide +kernel
theorem d_Ker_init_7 : decode b_Ker_init 7 = .ok (.anewarray 9, 3) := by decide +kernel
theorem d_Ker_init_10 : decode b_Ker_init 10 = .ok (.putfield 11, 3) := by decide +kernel
theorem d_Ker_init_13 : decode b_Ker_init 13 = .ok (.aload_n 0, 1) := by decide +kernel
theorem d_Ker_init_14 : decode b_Ker_init 14 = .ok (.sipush 128, 3) := by decide +kernel
theorem d_Ker_init_17 : decode b_Ker_init 17 = .ok (.newarray .int, 2) := by decide +kernel
theorem d_Ker_init_19 : decode b_Ker_init 19 = .ok (.putfield 17, 3) := by decide +kernel
theorem d_Ker_init_22 : decode b_Ker_init 22 = .ok (.aload_n 0, 1) := by decide +kernel
theorem d_Ker_init_23 : decode b_Ker_init 23 = .ok (.bipush 13, 2) := by decide +kernel
theorem d_Ker_init_25 : decode b_Ker_init 25 = .ok (.anewarray 21, 3) := by decide +kernel
theorem d_Ker_init_28 : decode b_Ker_init 28 = .ok (.putfield 23, 3) := by decide +kernel
theorem d_Ker_init_31 : decode b_Ker_init 31 = .ok (.aload_n 0, 1) := by decide +kernel
theorem d_Ker_init_32 : decode b_Ker_init 32 = .ok (.bipush 13, 2) := by decide +kernel
theorem d_Ker_init_34 : decode b_Ker_init 34 = .ok (.anewarray 27, 3) := by decide +kernel
theorem d_Ker_init_37 : decode b_Ker_init 37 = .ok (.putfield 29, 3) := by decide +kernel
theorem d_Ker_init_40 : decode b_Ker_init 40 = .ok (.aload_n 0, 1) := by decide +kernel
theorem d_Ker_init_41 : decode b_Ker_init 41 = .ok (.bipush 13, 2) := by decide +kernel
theorem d_Ker_init_43 : decode b_Ker_init 43 = .ok (.anewarray 33, 3) := by decide +kernel
theorem d_Ker_init_46 : decode b_Ker_init 46 = .ok (.putfield 35, 3) := by decide +kernel
theorem d_Ker_init_49 : decode b_Ker_init 49 = .ok (.aload_n 0, 1) := by decide +kernel
theorem d_Ker_init_50 : decode b_Ker_init 50 = .ok (.bipush 104, 2) := by decide +kernel
theorem d_Ker_init_52 : decode b_Ker_init 52 = .ok (.newarray .int, 2) := by decide +kernel
theorem d_Ker_init_54 : decode b_Ker_init 54 = .ok (.putfield 39, 3) := by decide +kernel
theorem d_Ker_init_57 : decode b_Ker_init 57 = .ok (.aload_n 0, 1) := by decide +kernel
theorem d_Ker_init_58 : decode b_Ker_init 58 = .ok (.bipush 26, 2) := by decide +kernel
theorem d_Ker_init_60 : decode b_Ker_init 60 = .ok (.newarray .int, 2) := by decide +kernel
theorem d_Ker_init_62 : decode b_Ker_init 62 = .ok (.putfield 42, 3) := by decide +kernel
theorem d_Ker_init_65 : decode b_Ker_init 65 = .ok (.aload_n 0, 1) := by decide +kernel
theorem d_Ker_init_66 : decode b_Ker_init 66 = .ok (.bipush 26, 2) := by decide +kernel
theorem d_Ker_init_68 : decode b_Ker_init 68 = .ok (.newarray .int, 2) := by decide +kernel
theorem d_Ker_init_70 : decode b_Ker_init 70 = .ok (.putfield 45, 3) := by decide +kernel
theorem d_Ker_init_73 : decode b_Ker_init 73 = .ok (.return_, 1) := by decide +kernel
theorem q_Ker_init : px_y y_Ker_init 0 := by unfold px_y; decide +kernel
set_option maxHeartbeats 4000000 in
set_option maxRecDepth 100000 in
theorem c_Ker_init (l : Launch) (D : va_G) (cs : Nat → ClassId) (h : Nat)  : MetV l y_Ker_init b_Ker_init 1 D cs 1 12 8 331 [.ref h] [[(h, .inr (7, [.null, .null, .null, .null, .null, .null, .null, .null, .int 0, .int 0]))]] (fun _ => True) (fun ps => ∃ r : Nat → Nat, ps.flatten = [wd_Ker cs h r (fun _ => none) (fun _ => 0) (fun _ _ => 0) (fun _ _ => none)].flatten) := by
  refine px_enter (by decide) (Nat.le_of_ble_eq_true rfl) ?_
  intro p e s m below meth c A ls hAe S hr hlk hnm hA hT hX hw hl
  have hin : meth.name = "<init>" := hnm
  replace hl : lv_has ls 1 [(0, .ref h)] := hl
  refine lv_aload_n S.x S.b d_Ker_init_0 rfl (lv_at hl 0 rfl) ?_
  refine px_oinit S m2_209 m1_46 m1_47 hl.1 d_Ker_init_1 (Nat.le_of_ble_eq_true rfl) (Nat.le_of_ble_eq_true rfl) ?_
  refine lv_aload_n S.x S.b d_Ker_init_4 rfl (lv_at hl 0 rfl) ?_
  refine lv_bipush (v := 8) S.x S.b d_Ker_init_5 (by decide) ?_
  refine px_newq S hT hw hA (C := "HomeSystem$Program") (by decide) m2_210 5 rfl (by decide) rfl (Nat.le_of_ble_eq_true rfl) (Nat.le_of_ble_eq_true rfl) (Nat.le_of_ble_eq_true rfl) d_Ker_init_7 (fun q1 H hw => ?_)
  replace hw : pw D A s.heap H _ [[(h, .inr (7, [.null, .null, .null, .null, .null, .null, .null, .null, .int 0, .int 0]))], [(q1, .inl (cs 5, 8, .inr (.inr (.inr (.inr (fun _ => none))))))]] := hw
  refine px_putF S k_Ker hin hT hw 0 0 0 rfl rfl (by decide) m2_218 rfl rfl rfl rfl (Nat.le_of_ble_eq_true rfl) d_Ker_init_10 (w' := [(h, .inr (7, [.ref q1, .null, .null, .null, .null, .null, .null, .null, .int 0, .int 0]))]) (ps' := [[(h, .inr (7, [.ref q1, .null, .null, .null, .null, .null, .null, .null, .int 0, .int 0]))], [(q1, .inl (cs 5, 8, .inr (.inr (.inr (.inr (fun _ => none))))))]]) rfl rfl (fun H locs hw => ?_)
  refine lv_aload_n S.x S.b d_Ker_init_13 rfl (lv_at hl 0 rfl) ?_
  refine lv_sipush (v := 128) S.x S.b d_Ker_init_14 (by decide) ?_
  refine px_newa S hT hw hA (atype := .int) m1_166 0 rfl rfl (a0 := (128, .inl (fun _ => 0))) (fun _ => rfl) (by decide) (by decide +kernel) (Nat.le_of_ble_eq_true rfl) (Nat.le_of_ble_eq_true rfl) (Nat.le_of_ble_eq_true rfl) d_Ker_init_17 (fun q2 H hw => ?_)
  replace hw : pw D A s.heap H _ [[(h, .inr (7, [.ref q1, .null, .null, .null, .null, .null, .null, .null, .int 0, .int 0]))], [(q1, .inl (cs 5, 8, .inr (.inr (.inr (.inr (fun _ => none))))))], [(q2, .inl (cs 0, 128, .inl (fun _ => 0)))]] := hw
  refine px_putF S k_Ker hin hT hw 0 0 1 rfl rfl (by decide) m2_220 rfl rfl rfl rfl (Nat.le_of_ble_eq_true rfl) d_Ker_init_19 (w' := [(h, .inr (7, [.ref q1, .ref q2, .null, .null, .null, .null, .null, .null, .int 0, .int 0]))]) (ps' := [[(h, .inr (7, [.ref q1, .ref q2, .null, .null, .null, .null, .null, .null, .int 0, .int 0]))], [(q1, .inl (cs 5, 8, .inr (.inr (.inr (.inr (fun _ => none))))))], [(q2, .inl (cs 0, 128, .inl (fun _ => 0)))]]) rfl rfl (fun H locs hw => ?_)
  refine lv_aload_n S.x S.b d_Ker_init_22 rfl (lv_at hl 0 rfl) ?_
  refine lv_bipush (v := 13) S.x S.b d_Ker_init_23 (by decide) ?_
  refine px_newq S hT hw hA (C := "HomeSystem$AnyProcess") (by decide) m2_212 6 rfl (by decide) rfl (Nat.le_of_ble_eq_true rfl) (Nat.le_of_ble_eq_true rfl) (Nat.le_of_ble_eq_true rfl) d_Ker_init_25 (fun q3 H hw => ?_)
  replace hw : pw D A s.heap H _ [[(h, .inr (7, [.ref q1, .ref q2, .null, .null, .null, .null, .null, .null, .int 0, .int 0]))], [(q1, .inl (cs 5, 8, .inr (.inr (.inr (.inr (fun _ => none))))))], [(q2, .inl (cs 0, 128, .inl (fun _ => 0)))], [(q3, .inl (cs 6, 13, .inr (.inr (.inr (.inr (fun _ => none))))))]] := hw
  refine px_putF S k_Ker hin hT hw 0 0 2 rfl rfl (by decide) m2_222 rfl rfl rfl rfl (Nat.le_of_ble_eq_true rfl) d_Ker_init_28 (w' := [(h, .inr (7, [.ref q1, .ref q2, .ref q3, .null, .null, .null, .null, .null, .int 0, .int 0]))]) (ps' := [[(h, .inr (7, [.ref q1, .ref q2, .ref q3, .null, .null, .null, .null, .null, .int 0, .int 0]))], [(q1, .inl (cs 5, 8, .inr (.inr (.inr (.inr (fun _ => none))))))], [(q2, .inl (cs 0, 128, .inl (fun _ => 0)))], [(q3, .inl (cs 6, 13, .inr (.inr (.inr (.inr (fun _ => none))))))]]) rfl rfl (fun H locs hw => ?_)
  refine lv_aload_n S.x S.b d_Ker_init_31 rfl (lv_at hl 0 rfl) ?_
  refine lv_bipush (v := 13) S.x S.b d_Ker_init_32 (by decide) ?_
  refine px_newq S hT hw hA (C := "HomeSystem$TextProcess") (by decide) m2_214 7 rfl (by decide) rfl (Nat.le_of_ble_eq_true rfl) (Nat.le_of_ble_eq_true rfl) (Nat.le_of_ble_eq_true rfl) d_Ker_init_34 (fun q4 H hw => ?_)
  replace hw : pw D A s.heap H _ [[(h, .inr (7, [.ref q1, .ref q2, .ref q3, .null, .null, .null, .null, .null, .int 0, .int 0]))], [(q1, .inl (cs 5, 8, .inr (.inr (.inr (.inr (fun _ => none))))))], [(q2, .inl (cs 0, 128, .inl (fun _ => 0)))], [(q3, .inl (cs 6, 13, .inr (.inr (.inr (.inr (fun _ => none))))))], [(q4, .inl (cs 7, 13, .inr (.inr (.inr (.inr (fun _ => none))))))]] := hw
  refine px_putF S k_Ker hin hT hw 0 0 3 rfl rfl (by decide) m2_224 rfl rfl rfl rfl (Nat.le_of_ble_eq_true rfl) d_Ker_init_37 (w' := [(h, .inr (7, [.ref q1, .ref q2, .ref q3, .ref q4, .null, .null, .null, .null, .int 0, .int 0]))]) (ps' := [[(h, .inr (7, [.ref q1, .ref q2, .ref q3, .ref q4, .null, .null, .null, .null, .int 0, .int 0]))], [(q1, .inl (cs 5, 8, .inr (.inr (.inr (.inr (fun _ => none))))))], [(q2, .inl (cs 0, 128, .inl (fun _ => 0)))], [(q3, .inl (cs 6, 13, .inr (.inr (.inr (.inr (fun _ => none))))))], [(q4, .inl (cs 7, 13, .inr (.inr (.inr (.inr (fun _ => none))))))]]) rfl rfl (fun H locs hw => ?_)
  refine lv_aload_n S.x S.b d_Ker_init_40 rfl (lv_at hl 0 rfl) ?_
  refine lv_bipush (v := 13) S.x S.b d_Ker_init_41 (by decide) ?_
  refine px_newq S hT hw hA (C := "HomeSystem$RawProcess") (by decide) m2_216 8 rfl (by decide) rfl (Nat.le_of_ble_eq_true rfl) (Nat.le_of_ble_eq_true rfl) (Nat.le_of_ble_eq_true rfl) d_Ker_init_43 (fun q5 H hw => ?_)
  replace hw : pw D A s.heap H _ [[(h, .inr (7, [.ref q1, .ref q2, .ref q3, .ref q4, .null, .null, .null, .null, .int 0, .int 0]))], [(q1, .inl (cs 5, 8, .inr (.inr (.inr (.inr (fun _ => none))))))], [(q2, .inl (cs 0, 128, .inl (fun _ => 0)))], [(q3, .inl (cs 6, 13, .inr (.inr (.inr (.inr (fun _ => none))))))], [(q4, .inl (cs 7, 13, .inr (.inr (.inr (.inr (fun _ => none))))))], [(q5, .inl (cs 8, 13, .inr (.inr (.inr (.inr (fun _ => none))))))]] := hw
  refine px_putF S k_Ker hin hT hw 0 0 4 rfl rfl (by decide) m2_225 rfl rfl rfl rfl (Nat.le_of_ble_eq_true rfl) d_Ker_init_46 (w' := [(h, .inr (7, [.ref q1, .ref q2, .ref q3, .ref q4, .ref q5, .null, .null, .null, .int 0, .int 0]))]) (ps' := [[(h, .inr (7, [.ref q1, .ref q2, .ref q3, .ref q4, .ref q5, .null, .null, .null, .int 0, .int 0]))], [(q1, .inl (cs 5, 8, .inr (.inr (.inr (.inr (fun _ => none))))))], [(q2, .inl (cs 0, 128, .inl (fun _ => 0)))], [(q3, .inl (cs 6, 13, .inr (.inr (.inr (.inr (fun _ => none))))))], [(q4, .inl (cs 7, 13, .inr (.inr (.inr (.inr (fun _ => none))))))], [(q5, .inl (cs 8, 13, .inr (.inr (.inr (.inr (fun _ => none))))))]]) rfl rfl (fun H locs hw => ?_)
  refine lv_aload_n S.x S.b d_Ker_init_49 rfl (lv_at hl 0 rfl) ?_
  refine lv_bipush (v := 104) S.x S.b d_Ker_init_50 (by decide) ?_
  refine px_newa S hT hw hA (atype := .int) m1_166 0 rfl rfl (a0 := (104, .inl (fun _ => 0))) (fun _ => rfl) (by decide) (by decide +kernel) (Nat.le_of_ble_eq_true rfl) (Nat.le_of_ble_eq_true rfl) (Nat.le_of_ble_eq_true rfl) d_Ker_init_52 (fun q6 H hw => ?_)
  replace hw : pw D A s.heap H _ [[(h, .inr (7, [.ref q1, .ref q2, .ref q3, .ref q4, .ref q5, .null, .null, .null, .int 0, .int 0]))], [(q1, .inl (cs 5, 8, .inr (.inr (.inr (.inr (fun _ => none))))))], [(q2, .inl (cs 0, 128, .inl (fun _ => 0)))], [(q3, .inl (cs 6, 13, .inr (.inr (.inr (.inr (fun _ => none))))))], [(q4, .inl (cs 7, 13, .inr (.inr (.inr (.inr (fun _ => none))))))], [(q5, .inl (cs 8, 13, .inr (.inr (.inr (.inr (fun _ => none))))))], [(q6, .inl (cs 0, 104, .inl (fun _ => 0)))]] := hw
  refine px_putF S k_Ker hin hT hw 0 0 5 rfl rfl (by decide) m2_226 rfl rfl rfl rfl (Nat.le_of_ble_eq_true rfl) d_Ker_init_54 (w' := [(h, .inr (7, [.ref q1, .ref q2, .ref q3, .ref q4, .ref q5, .ref q6, .null, .null, .int 0, .int 0]))]) (ps' := [[(h, .inr (7, [.ref q1, .ref q2, .ref q3, .ref q4, .ref q5, .ref q6, .null, .null, .int 0, .int 0]))], [(q1, .inl (cs 5, 8, .inr (.inr (.inr (.inr (fun _ => none))))))], [(q2, .inl (cs 0, 128, .inl (fun _ => 0)))], [(q3, .inl (cs 6, 13, .inr (.inr (.inr (.inr (fun _ => none))))))], [(q4, .inl (cs 7, 13, .inr (.inr (.inr (.inr (fun _ => none))))))], [(q5, .inl (cs 8, 13, .inr (.inr (.inr (.inr (fun _ => none))))))], [(q6, .inl (cs 0, 104, .inl (fun _ => 0)))]]) rfl rfl (fun H locs hw => ?_)
  refine lv_aload_n S.x S.b d_Ker_init_57 rfl (lv_at hl 0 rfl) ?_
  refine lv_bipush (v := 26) S.x S.b d_Ker_init_58 (by decide) ?_
  refine px_newa S hT hw hA (atype := .int) m1_166 0 rfl rfl (a0 := (26, .inl (fun _ => 0))) (fun _ => rfl) (by decide) (by decide +kernel) (Nat.le_of_ble_eq_true rfl) (Nat.le_of_ble_eq_true rfl) (Nat.le_of_ble_eq_true rfl) d_Ker_init_60 (fun q7 H hw => ?_)
  replace hw : pw D A s.heap H _ [[(h, .inr (7, [.ref q1, .ref q2, .ref q3, .ref q4, .ref q5, .ref q6, .null, .null, .int 0, .int 0]))], [(q1, .inl (cs 5, 8, .inr (.inr (.inr (.inr (fun _ => none))))))], [(q2, .inl (cs 0, 128, .inl (fun _ => 0)))], [(q3, .inl (cs 6, 13, .inr (.inr (.inr (.inr (fun _ => none))))))], [(q4, .inl (cs 7, 13, .inr (.inr (.inr (.inr (fun _ => none))))))], [(q5, .inl (cs 8, 13, .inr (.inr (.inr (.inr (fun _ => none))))))], [(q6, .inl (cs 0, 104, .inl (fun _ => 0)))], [(q7, .inl (cs 0, 26, .inl (fun _ => 0)))]] := hw
  refine px_putF S k_Ker hin hT hw 0 0 6 rfl rfl (by decide) m2_227 rfl rfl rfl rfl (Nat.le_of_ble_eq_true rfl) d_Ker_init_62 (w' := [(h, .inr (7, [.ref q1, .ref q2, .ref q3, .ref q4, .ref q5, .ref q6, .ref q7, .null, .int 0, .int 0]))]) (ps' := [[(h, .inr (7, [.ref q1, .ref q2, .ref q3, .ref q4, .ref q5, .ref q6, .ref q7, .null, .int 0, .int 0]))], [(q1, .inl (cs 5, 8, .inr (.inr (.inr (.inr (fun _ => none))))))], [(q2, .inl (cs 0, 128, .inl (fun _ => 0)))], [(q3, .inl (cs 6, 13, .inr (.inr (.inr (.inr (fun _ => none))))))], [(q4, .inl (cs 7, 13, .inr (.inr (.inr (.inr (fun _ => none))))))], [(q5, .inl (cs 8, 13, .inr (.inr (.inr (.inr (fun _ => none))))))], [(q6, .inl (cs 0, 104, .inl (fun _ => 0)))], [(q7, .inl (cs 0, 26, .inl (fun _ => 0)))]]) rfl rfl (fun H locs hw => ?_)
  refine lv_aload_n S.x S.b d_Ker_init_65 rfl (lv_at hl 0 rfl) ?_
  refine lv_bipush (v := 26) S.x S.b d_Ker_init_66 (by decide) ?_
  refine px_newa S hT hw hA (atype := .int) m1_166 0 rfl rfl (a0 := (26, .inl (fun _ => 0))) (fun _ => rfl) (by decide) (by decide +kernel) (Nat.le_of_ble_eq_true rfl) (Nat.le_of_ble_eq_true rfl) (Nat.le_of_ble_eq_true rfl) d_Ker_init_68 (fun q8 H hw => ?_)
  replace hw : pw D A s.heap H _ [[(h, .inr (7, [.ref q1, .ref q2, .ref q3, .ref q4, .ref q5, .ref q6, .ref q7, .null, .int 0, .int 0]))], [(q1, .inl (cs 5, 8, .inr (.inr (.inr (.inr (fun _ => none))))))], [(q2, .inl (cs 0, 128, .inl (fun _ => 0)))], [(q3, .inl (cs 6, 13, .inr (.inr (.inr (.inr (fun _ => none))))))], [(q4, .inl (cs 7, 13, .inr (.inr (.inr (.inr (fun _ => none))))))], [(q5, .inl (cs 8, 13, .inr (.inr (.inr (.inr (fun _ => none))))))], [(q6, .inl (cs 0, 104, .inl (fun _ => 0)))], [(q7, .inl (cs 0, 26, .inl (fun _ => 0)))], [(q8, .inl (cs 0, 26, .inl (fun _ => 0)))]] := hw
  refine px_putF S k_Ker hin hT hw 0 0 7 rfl rfl (by decide) m2_228 rfl rfl rfl rfl (Nat.le_of_ble_eq_true rfl) d_Ker_init_70 (w' := [(h, .inr (7, [.ref q1, .ref q2, .ref q3, .ref q4, .ref q5, .ref q6, .ref q7, .ref q8, .int 0, .int 0]))]) (ps' := [[(h, .inr (7, [.ref q1, .ref q2, .ref q3, .ref q4, .ref q5, .ref q6, .ref q7, .ref q8, .int 0, .int 0]))], [(q1, .inl (cs 5, 8, .inr (.inr (.inr (.inr (fun _ => none))))))], [(q2, .inl (cs 0, 128, .inl (fun _ => 0)))], [(q3, .inl (cs 6, 13, .inr (.inr (.inr (.inr (fun _ => none))))))], [(q4, .inl (cs 7, 13, .inr (.inr (.inr (.inr (fun _ => none))))))], [(q5, .inl (cs 8, 13, .inr (.inr (.inr (.inr (fun _ => none))))))], [(q6, .inl (cs 0, 104, .inl (fun _ => 0)))], [(q7, .inl (cs 0, 26, .inl (fun _ => 0)))], [(q8, .inl (cs 0, 26, .inl (fun _ => 0)))]]) rfl rfl (fun H locs hw => ?_)
  exact px_vret S hr hlk hAe hw (Nat.le_of_ble_eq_true rfl) (Nat.le_of_ble_eq_true rfl) (⟨(fun k => if k = 7 then q8 else if k = 6 then q7 else if k = 5 then q6 else if k = 4 then q5 else if k = 3 then q4 else if k = 2 then q3 else if k = 1 then q2 else if k = 0 then q1 else 0), rfl⟩) d_Ker_init_73
abbrev b_Exp_init : ByteArray := prog_3_method_1_code
def y_Exp_init : MethodName := ⟨"HomeSystem$Expressions", "<init>", "(LHomeSystem$Tokens;LHomeSystem$Names;LHomeSystem$Program;)V"⟩
theorem d_Exp_init_0 : decode b_Exp_init 0 = .ok (.aload_n 0, 1) := by decide +kernel
theorem d_Exp_init_1 : decode b_Exp_init 1 = .ok (.invokespecial 3, 3) := by decide +kernel
theorem d_Exp_init_4 : decode b_Exp_init 4 = .ok (.aload_n 0, 1) := by decide +kernel
theorem d_Exp_init_5 : decode b_Exp_init 5 = .ok (.aload_n 1, 1) := by decide +kernel
theorem d_Exp_init_6 : decode b_Exp_init 6 = .ok (.putfield 9, 3) := by decide +kernel
theorem d_Exp_init_9 : decode b_Exp_init 9 = .ok (.aload_n 0, 1) := by decide +kernel
theorem d_Exp_init_10 : decode b_Exp_init 10 = .ok (.aload_n 2, 1) := by decide +kernel
theorem d_Exp_init_11 : decode b_Exp_init 11 = .ok (.putfield 15, 3) := by decide +kernel
theorem d_Exp_init_14 : decode b_Exp_init 14 = .ok (.aload_n 0, 1) := by decide +kernel
theorem d_Exp_init_15 : decode b_Exp_init 15 = .ok (.aload_n 3, 1) := by decide +kernel
theorem d_Exp_init_16 : decode b_Exp_init 16 = .ok (.putfield 19, 3) := by decide +kernel
theorem d_Exp_init_19 : decode b_Exp_init 19 = .ok (.return_, 1) := by decide +kernel
theorem q_Exp_init : px_y y_Exp_init 3 := by unfold px_y; decide +kernel
set_option maxHeartbeats 4000000 in
set_option maxRecDepth 100000 in
theorem c_Exp_init (l : Launch) (D : va_G) (cs : Nat → ClassId) (h x1 x2 x3 : Nat)  : MetV l y_Exp_init b_Exp_init 4 D cs 1 12 0 0 [.ref h, .ref x1, .ref x2, .ref x3] [[(h, .inr (5, [.null, .null, .null]))]] (fun _ => True) (fun ps => ps = [[(h, .inr (5, [.ref x1, .ref x2, .ref x3]))]]) := by
  refine px_enter (by decide) (Nat.le_of_ble_eq_true rfl) ?_
  intro p e s m below meth c A ls hAe S hr hlk hnm hA hT hX hw hl
  have hin : meth.name = "<init>" := hnm
  replace hl : lv_has ls 4 [(0, .ref h), (1, .ref x1), (2, .ref x2), (3, .ref x3)] := hl
  refine lv_aload_n S.x S.b d_Exp_init_0 rfl (lv_at hl 0 rfl) ?_
  refine px_oinit S m2_130 m1_46 m1_47 hl.1 d_Exp_init_1 (Nat.le_of_ble_eq_true rfl) (Nat.le_of_ble_eq_true rfl) ?_
  refine lv_aload_n S.x S.b d_Exp_init_4 rfl (lv_at hl 0 rfl) ?_
  refine lv_aload_n S.x S.b d_Exp_init_5 rfl (lv_at hl 1 rfl) ?_
  refine px_putF S k_Exp hin hT hw 0 0 0 rfl rfl (by decide) m2_131 rfl rfl rfl rfl (Nat.le_of_ble_eq_true rfl) d_Exp_init_6 (w' := [(h, .inr (5, [.ref x1, .null, .null]))]) (ps' := [[(h, .inr (5, [.ref x1, .null, .null]))]]) rfl rfl (fun H locs hw => ?_)
  refine lv_aload_n S.x S.b d_Exp_init_9 rfl (lv_at hl 0 rfl) ?_
  refine lv_aload_n S.x S.b d_Exp_init_10 rfl (lv_at hl 2 rfl) ?_
  refine px_putF S k_Exp hin hT hw 0 0 1 rfl rfl (by decide) m2_132 rfl rfl rfl rfl (Nat.le_of_ble_eq_true rfl) d_Exp_init_11 (w' := [(h, .inr (5, [.ref x1, .ref x2, .null]))]) (ps' := [[(h, .inr (5, [.ref x1, .ref x2, .null]))]]) rfl rfl (fun H locs hw => ?_)
  refine lv_aload_n S.x S.b d_Exp_init_14 rfl (lv_at hl 0 rfl) ?_
  refine lv_aload_n S.x S.b d_Exp_init_15 rfl (lv_at hl 3 rfl) ?_
  refine px_putF S k_Exp hin hT hw 0 0 2 rfl rfl (by decide) m2_133 rfl rfl rfl rfl (Nat.le_of_ble_eq_true rfl) d_Exp_init_16 (w' := [(h, .inr (5, [.ref x1, .ref x2, .ref x3]))]) (ps' := [[(h, .inr (5, [.ref x1, .ref x2, .ref x3]))]]) rfl rfl (fun H locs hw => ?_)
  exact px_vret S hr hlk hAe hw (Nat.le_of_ble_eq_true rfl) (Nat.le_of_ble_eq_true rfl) (rfl) d_Exp_init_19
