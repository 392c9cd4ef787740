theorem m6_123 : Cond.methodLink "HomeSystem$AnyProcess" 3 ⟨"java/lang/Object", "<init>", "()V"⟩ ∈ AL := AL_6 (List.mem_of_getElem? (i := 123) rfl) rfl
theorem m6_132 : Cond.fieldLink "HomeSystem$AnyProcess" 15 "HomeSystem$AnyProcess" "id" "I" ∈ AL := AL_6 (List.mem_of_getElem? (i := 132) rfl) rfl
theorem m6_120 : Cond.methodLink "HomeSystem$RawProcess" 3 ⟨"HomeSystem$AnyProcess", "<init>", "(I)V"⟩ ∈ AL := AL_6 (List.mem_of_getElem? (i := 120) rfl) rfl
theorem m6_122 : Cond.code ⟨"HomeSystem$AnyProcess", "<init>", "(I)V"⟩ prog_2_method_1_code 2 (Option.none : Option Jvm.ClassFile.FieldType) ∈ AL := AL_6 (List.mem_of_getElem? (i := 122) rfl) rfl
theorem m6_121 : Cond.instanceMethod ⟨"HomeSystem$AnyProcess", "<init>", "(I)V"⟩ ∈ AL := AL_6 (List.mem_of_getElem? (i := 121) rfl) rfl
theorem m6_212 : Cond.methodLink "HomeSystem$TextProcess" 3 ⟨"HomeSystem$AnyProcess", "<init>", "(I)V"⟩ ∈ AL := AL_6 (List.mem_of_getElem? (i := 212) rfl) rfl
theorem m1_207 : Cond.methodLink "HomeSystem$Symbol" 1 ⟨"java/lang/Object", "<init>", "()V"⟩ ∈ AL := AL_1 (List.mem_of_getElem? (i := 207) rfl) rfl
theorem m1_208 : Cond.fieldLink "HomeSystem$Symbol" 7 "HomeSystem$Symbol" "name" "I" ∈ AL := AL_1 (List.mem_of_getElem? (i := 208) rfl) rfl
theorem m1_211 : Cond.fieldLink "HomeSystem$Symbol" 13 "HomeSystem$Symbol" "sort" "I" ∈ AL := AL_1 (List.mem_of_getElem? (i := 211) rfl) rfl
theorem m4_216 : Cond.methodLink "HomeSystem$Operand" 3 ⟨"java/lang/Object", "<init>", "()V"⟩ ∈ AL := AL_4 (List.mem_of_getElem? (i := 216) rfl) rfl
theorem m4_227 : Cond.fieldLink "HomeSystem$Operand" 9 "HomeSystem$Operand" "depth" "I" ∈ AL := AL_4 (List.mem_of_getElem? (i := 227) rfl) rfl
theorem m4_229 : Cond.fieldLink "HomeSystem$Operand" 15 "HomeSystem$Operand" "height" "I" ∈ AL := AL_4 (List.mem_of_getElem? (i := 229) rfl) rfl
theorem m4_217 : Cond.fieldLink "HomeSystem$Operand" 18 "HomeSystem$Operand" "first" "I" ∈ AL := AL_4 (List.mem_of_getElem? (i := 217) rfl) rfl
theorem m4_220 : Cond.fieldLink "HomeSystem$Operand" 21 "HomeSystem$Operand" "sort" "I" ∈ AL := AL_4 (List.mem_of_getElem? (i := 220) rfl) rfl
theorem m4_222 : Cond.fieldLink "HomeSystem$Operand" 24 "HomeSystem$Operand" "state" "I" ∈ AL := AL_4 (List.mem_of_getElem? (i := 222) rfl) rfl
theorem m2_96 : Cond.methodLink "HomeSystem$Program" 3 ⟨"java/lang/Object", "<init>", "()V"⟩ ∈ AL := AL_2 (List.mem_of_getElem? (i := 96) rfl) rfl
theorem m2_99 : Cond.fieldLink "HomeSystem$Program" 9 "HomeSystem$Program" "code" "[I" ∈ AL := AL_2 (List.mem_of_getElem? (i := 99) rfl) rfl
theorem m2_97 : Cond.fieldLink "HomeSystem$Program" 18 "HomeSystem$Program" "isRaw" "Z" ∈ AL := AL_2 (List.mem_of_getElem? (i := 97) rfl) rfl
theorem m2_146 : Cond.methodLink "HomeSystem$TextCompiler" 3 ⟨"java/lang/Object", "<init>", "()V"⟩ ∈ AL := AL_2 (List.mem_of_getElem? (i := 146) rfl) rfl
theorem m2_154 : Cond.fieldLink "HomeSystem$TextCompiler" 9 "HomeSystem$TextCompiler" "caseNumbers" "[I" ∈ AL := AL_2 (List.mem_of_getElem? (i := 154) rfl) rfl
theorem m2_155 : Cond.fieldLink "HomeSystem$TextCompiler" 15 "HomeSystem$TextCompiler" "caseTargets" "[I" ∈ AL := AL_2 (List.mem_of_getElem? (i := 155) rfl) rfl
theorem m2_149 : Cond.fieldLink "HomeSystem$TextCompiler" 18 "HomeSystem$TextCompiler" "tokens" "LHomeSystem$Tokens;" ∈ AL := AL_2 (List.mem_of_getElem? (i := 149) rfl) rfl
theorem m2_150 : Cond.fieldLink "HomeSystem$TextCompiler" 22 "HomeSystem$TextCompiler" "names" "LHomeSystem$Names;" ∈ AL := AL_2 (List.mem_of_getElem? (i := 150) rfl) rfl
theorem m2_152 : Cond.fieldLink "HomeSystem$TextCompiler" 26 "HomeSystem$TextCompiler" "program" "LHomeSystem$Program;" ∈ AL := AL_2 (List.mem_of_getElem? (i := 152) rfl) rfl
theorem m2_151 : Cond.fieldLink "HomeSystem$TextCompiler" 30 "HomeSystem$TextCompiler" "expressions" "LHomeSystem$Expressions;" ∈ AL := AL_2 (List.mem_of_getElem? (i := 151) rfl) rfl
theorem m2_147 : Cond.classLink "HomeSystem$TextCompiler" 34 "HomeSystem$Program" ∈ AL := AL_2 (List.mem_of_getElem? (i := 147) rfl) rfl
theorem m2_92 : Cond.instantiable "HomeSystem$Program" 6 ∈ AL := AL_2 (List.mem_of_getElem? (i := 92) rfl) rfl
theorem m2_148 : Cond.methodLink "HomeSystem$TextCompiler" 36 ⟨"HomeSystem$Program", "<init>", "([I[IZ)V"⟩ ∈ AL := AL_2 (List.mem_of_getElem? (i := 148) rfl) rfl
theorem m2_95 : Cond.code ⟨"HomeSystem$Program", "<init>", "([I[IZ)V"⟩ prog_7_method_1_code 4 (Option.none : Option Jvm.ClassFile.FieldType) ∈ AL := AL_2 (List.mem_of_getElem? (i := 95) rfl) rfl
theorem m2_94 : Cond.instanceMethod ⟨"HomeSystem$Program", "<init>", "([I[IZ)V"⟩ ∈ AL := AL_2 (List.mem_of_getElem? (i := 94) rfl) rfl
theorem m2_153 : Cond.fieldLink "HomeSystem$TextCompiler" 39 "HomeSystem$TextCompiler" "setup" "LHomeSystem$Program;" ∈ AL := AL_2 (List.mem_of_getElem? (i := 153) rfl) rfl
abbrev b_HomeSystem_AnyProcess_init : ByteArray := prog_2_method_1_code
def y_HomeSystem_AnyProcess_init : MethodName := ⟨"HomeSystem$AnyProcess", "<init>", "(I)V"⟩
theorem d_HomeSystem_AnyProcess_init_0 : decode b_HomeSystem_AnyProcess_init 0 = .ok (.aload_n 0, 1) := by decide +kernel
theorem d_HomeSystem_AnyProcess_init_1 : decode b_HomeSystem_AnyProcess_init 1 = .ok (.invokespecial 3, 3) := by decide +kernel
theorem d_HomeSystem_AnyProcess_init_4 : decode b_HomeSystem_AnyProcess_init 4 = .ok (.aload_n 0, 1) := by decide +kernel
theorem d_HomeSystem_AnyProcess_init_5 : decode b_HomeSystem_AnyProcess_init 5 = .ok (.sipush 256, 3) := by decide +kernel
theorem d_HomeSystem_AnyProcess_init_8 : decode b_HomeSystem_AnyProcess_init 8 = .ok (.newarray .int, 2) := by decide +kernel
theorem d_HomeSystem_AnyProcess_init_10 : decode b_HomeSystem_AnyProcess_init 10 = .ok (.putfield 9, 3) := by decide +kernel
theorem d_HomeSystem_AnyProcess_init_13 : decode b_HomeSystem_AnyProcess_init 13 = .ok (.aload_n 0, 1) := by decide +kernel
theorem d_HomeSystem_AnyProcess_init_14 : decode b_HomeSystem_AnyProcess_init 14 = .ok (.iload_n 1, 1) := by decide +kernel
theorem d_HomeSystem_AnyProcess_init_15 : decode b_HomeSystem_AnyProcess_init 15 = .ok (.putfield 15, 3) := by decide +kernel
theorem d_HomeSystem_AnyProcess_init_18 : decode b_HomeSystem_AnyProcess_init 18 = .ok (.return_, 1) := by decide +kernel
theorem q_HomeSystem_AnyProcess_init : px_y y_HomeSystem_AnyProcess_init 1 := by unfold px_y; decide +kernel
set_option maxHeartbeats 4000000 in
set_option maxRecDepth 100000 in
theorem c_Any_init_Raw (l : Launch) (D : va_G) (cs : Nat → ClassId) (h : Nat) (p0 : Int32)  : MetV l y_HomeSystem_AnyProcess_init b_HomeSystem_AnyProcess_init 2 D cs 1 12 (1) (256) [.ref h, .int p0] [[(h, .inr (9, [.null, .null, .null, .int 0, .null, .int 0, .int 0, .int 0, .int 0, .null, .int 0, .int 0, .int 0, .int 0, .int 0, .int 0, .int 0, .int 0]))]] (fun _ => True) (fun ps => ∃ q : Nat, ps = [[(h, .inr (9, [.null, .null, .null, .int 0, .null, .int 0, .int 0, .int 0, .int p0, .ref q, .int 0, .int 0, .int 0, .int 0, .int 0, .int 0, .int 0, .int 0]))], [(q, .inl (cs 0, 256, .inl (fun _ => 0)))]]) := by
  refine px_enter (by decide) (Nat.le_of_ble_eq_true rfl) ?_
  intro p e s m below meth c A ls hAe S hr hlk hnm hA hT hX hw hl
  have hin : meth.name = "<init>" := hnm
  have hl : lv_has ls 2 [(0, .ref h), (1, .int p0)] := hl
  have lp0 := Int32.le_toInt p0
  have up0 := Int32.toInt_lt p0
  have cst256 : (256 : Int32).toInt = 256 := rfl
  refine lv_aload_n S.x S.b d_HomeSystem_AnyProcess_init_0 rfl (lv_at hl 0 rfl) ?_
  refine px_oinit S m6_123 m1_46 m1_47 hl.1 d_HomeSystem_AnyProcess_init_1 (Nat.le_of_ble_eq_true rfl) (Nat.le_of_ble_eq_true rfl) ?_
  refine lv_aload_n S.x S.b d_HomeSystem_AnyProcess_init_4 rfl (lv_at hl 0 rfl) ?_
  refine lv_sipush (v := 256) S.x S.b d_HomeSystem_AnyProcess_init_5 (by decide) ?_
  refine px_newa S hT hw hA (atype := .int) m1_166 0 rfl rfl (a0 := (256, .inl (fun _ => 0))) (fun _ => rfl) (by decide) (by decide +kernel) (Nat.le_of_ble_eq_true rfl) (Nat.le_of_ble_eq_true rfl) (Nat.le_of_ble_eq_true rfl) d_HomeSystem_AnyProcess_init_8 (fun q1 H hw => ?_)
  have hw : pw D A s.heap H _ [[(h, .inr (9, [.null, .null, .null, .int 0, .null, .int 0, .int 0, .int 0, .int 0, .null, .int 0, .int 0, .int 0, .int 0, .int 0, .int 0, .int 0, .int 0]))], [(q1, .inl (cs 0, 256, .inl (fun _ => 0)))]] := hw
  refine px_putF S k_Raw hin hT hw 0 0 9 rfl rfl (by decide) m6_134 rfl rfl rfl rfl (Nat.le_of_ble_eq_true rfl) d_HomeSystem_AnyProcess_init_10 (w' := [(h, .inr (9, [.null, .null, .null, .int 0, .null, .int 0, .int 0, .int 0, .int 0, .ref q1, .int 0, .int 0, .int 0, .int 0, .int 0, .int 0, .int 0, .int 0]))]) (ps' := [[(h, .inr (9, [.null, .null, .null, .int 0, .null, .int 0, .int 0, .int 0, .int 0, .ref q1, .int 0, .int 0, .int 0, .int 0, .int 0, .int 0, .int 0, .int 0]))], [(q1, .inl (cs 0, 256, .inl (fun _ => 0)))]]) rfl rfl (fun H locs hw => ?_)
  refine lv_aload_n S.x S.b d_HomeSystem_AnyProcess_init_13 rfl (lv_at hl 0 rfl) ?_
  refine lv_iload_n S.x S.b d_HomeSystem_AnyProcess_init_14 rfl (lv_at hl 1 rfl) ?_
  refine px_putF S k_Raw hin hT hw 0 0 8 rfl rfl (by decide) m6_132 rfl rfl rfl rfl (Nat.le_of_ble_eq_true rfl) d_HomeSystem_AnyProcess_init_15 (w' := [(h, .inr (9, [.null, .null, .null, .int 0, .null, .int 0, .int 0, .int 0, .int p0, .ref q1, .int 0, .int 0, .int 0, .int 0, .int 0, .int 0, .int 0, .int 0]))]) (ps' := [[(h, .inr (9, [.null, .null, .null, .int 0, .null, .int 0, .int 0, .int 0, .int p0, .ref q1, .int 0, .int 0, .int 0, .int 0, .int 0, .int 0, .int 0, .int 0]))], [(q1, .inl (cs 0, 256, .inl (fun _ => 0)))]]) rfl rfl (fun H locs hw => ?_)
  exact px_vret S hr hlk hAe hw (Nat.le_of_ble_eq_true rfl) (Nat.le_of_ble_eq_true rfl) (⟨q1, rfl⟩) d_HomeSystem_AnyProcess_init_18
set_option maxHeartbeats 4000000 in
set_option maxRecDepth 100000 in
theorem c_Any_init_Txp (l : Launch) (D : va_G) (cs : Nat → ClassId) (h : Nat) (p0 : Int32)  : MetV l y_HomeSystem_AnyProcess_init b_HomeSystem_AnyProcess_init 2 D cs 1 12 (1) (256) [.ref h, .int p0] [[(h, .inr (10, [.null, .null, .null, .null, .int 0, .int 0, .int 0, .int 0, .int 0, .int 0, .int 0, .int 0, .int 0, .int 0, .int 0, .int 0, .null, .int 0, .int 0, .int 0, .int 0, .int 0, .int 0, .int 0, .int 0]))]] (fun _ => True) (fun ps => ∃ q : Nat, ps = [[(h, .inr (10, [.null, .null, .null, .null, .int 0, .int 0, .int 0, .int 0, .int 0, .int 0, .int 0, .int 0, .int 0, .int 0, .int 0, .int p0, .ref q, .int 0, .int 0, .int 0, .int 0, .int 0, .int 0, .int 0, .int 0]))], [(q, .inl (cs 0, 256, .inl (fun _ => 0)))]]) := by
  refine px_enter (by decide) (Nat.le_of_ble_eq_true rfl) ?_
  intro p e s m below meth c A ls hAe S hr hlk hnm hA hT hX hw hl
  have hin : meth.name = "<init>" := hnm
  have hl : lv_has ls 2 [(0, .ref h), (1, .int p0)] := hl
  have lp0 := Int32.le_toInt p0
  have up0 := Int32.toInt_lt p0
  have cst256 : (256 : Int32).toInt = 256 := rfl
  refine lv_aload_n S.x S.b d_HomeSystem_AnyProcess_init_0 rfl (lv_at hl 0 rfl) ?_
  refine px_oinit S m6_123 m1_46 m1_47 hl.1 d_HomeSystem_AnyProcess_init_1 (Nat.le_of_ble_eq_true rfl) (Nat.le_of_ble_eq_true rfl) ?_
  refine lv_aload_n S.x S.b d_HomeSystem_AnyProcess_init_4 rfl (lv_at hl 0 rfl) ?_
  refine lv_sipush (v := 256) S.x S.b d_HomeSystem_AnyProcess_init_5 (by decide) ?_
  refine px_newa S hT hw hA (atype := .int) m1_166 0 rfl rfl (a0 := (256, .inl (fun _ => 0))) (fun _ => rfl) (by decide) (by decide +kernel) (Nat.le_of_ble_eq_true rfl) (Nat.le_of_ble_eq_true rfl) (Nat.le_of_ble_eq_true rfl) d_HomeSystem_AnyProcess_init_8 (fun q1 H hw => ?_)
  have hw : pw D A s.heap H _ [[(h, .inr (10, [.null, .null, .null, .null, .int 0, .int 0, .int 0, .int 0, .int 0, .int 0, .int 0, .int 0, .int 0, .int 0, .int 0, .int 0, .null, .int 0, .int 0, .int 0, .int 0, .int 0, .int 0, .int 0, .int 0]))], [(q1, .inl (cs 0, 256, .inl (fun _ => 0)))]] := hw
  refine px_putF S k_Txp hin hT hw 0 0 16 rfl rfl (by decide) m6_134 rfl rfl rfl rfl (Nat.le_of_ble_eq_true rfl) d_HomeSystem_AnyProcess_init_10 (w' := [(h, .inr (10, [.null, .null, .null, .null, .int 0, .int 0, .int 0, .int 0, .int 0, .int 0, .int 0, .int 0, .int 0, .int 0, .int 0, .int 0, .ref q1, .int 0, .int 0, .int 0, .int 0, .int 0, .int 0, .int 0, .int 0]))]) (ps' := [[(h, .inr (10, [.null, .null, .null, .null, .int 0, .int 0, .int 0, .int 0, .int 0, .int 0, .int 0, .int 0, .int 0, .int 0, .int 0, .int 0, .ref q1, .int 0, .int 0, .int 0, .int 0, .int 0, .int 0, .int 0, .int 0]))], [(q1, .inl (cs 0, 256, .inl (fun _ => 0)))]]) rfl rfl (fun H locs hw => ?_)
  refine lv_aload_n S.x S.b d_HomeSystem_AnyProcess_init_13 rfl (lv_at hl 0 rfl) ?_
  refine lv_iload_n S.x S.b d_HomeSystem_AnyProcess_init_14 rfl (lv_at hl 1 rfl) ?_
  refine px_putF S k_Txp hin hT hw 0 0 15 rfl rfl (by decide) m6_132 rfl rfl rfl rfl (Nat.le_of_ble_eq_true rfl) d_HomeSystem_AnyProcess_init_15 (w' := [(h, .inr (10, [.null, .null, .null, .null, .int 0, .int 0, .int 0, .int 0, .int 0, .int 0, .int 0, .int 0, .int 0, .int 0, .int 0, .int p0, .ref q1, .int 0, .int 0, .int 0, .int 0, .int 0, .int 0, .int 0, .int 0]))]) (ps' := [[(h, .inr (10, [.null, .null, .null, .null, .int 0, .int 0, .int 0, .int 0, .int 0, .int 0, .int 0, .int 0, .int 0, .int 0, .int 0, .int p0, .ref q1, .int 0, .int 0, .int 0, .int 0, .int 0, .int 0, .int 0, .int 0]))], [(q1, .inl (cs 0, 256, .inl (fun _ => 0)))]]) rfl rfl (fun H locs hw => ?_)
  exact px_vret S hr hlk hAe hw (Nat.le_of_ble_eq_true rfl) (Nat.le_of_ble_eq_true rfl) (⟨q1, rfl⟩) d_HomeSystem_AnyProcess_init_18
abbrev b_Raw_init : ByteArray := prog_8_method_1_code
def y_Raw_init : MethodName := ⟨"HomeSystem$RawProcess", "<init>", "(I)V"⟩
theorem d_Raw_init_0 : decode b_Raw_init 0 = .ok (.aload_n 0, 1) := by decide +kernel
theorem d_Raw_init_1 : decode b_Raw_init 1 = .ok (.iload_n 1, 1) := by decide +kernel
theorem d_Raw_init_2 : decode b_Raw_init 2 = .ok (.invokespecial 3, 3) := by decide +kernel
theorem d_Raw_init_5 : decode b_Raw_init 5 = .ok (.aload_n 0, 1) := by decide +kernel
theorem d_Raw_init_6 : decode b_Raw_init 6 = .ok (.bipush 32, 2) := by decide +kernel
theorem d_Raw_init_8 : decode b_Raw_init 8 = .ok (.newarray .int, 2) := by decide +kernel
theorem d_Raw_init_10 : decode b_Raw_init 10 = .ok (.putfield 9, 3) := by decide +kernel
theorem d_Raw_init_13 : decode b_Raw_init 13 = .ok (.aload_n 0, 1) := by decide +kernel
theorem d_Raw_init_14 : decode b_Raw_init 14 = .ok (.bipush 36, 2) := by decide +kernel
theorem d_Raw_init_16 : decode b_Raw_init 16 = .ok (.newarray .int, 2) := by decide +kernel
theorem d_Raw_init_18 : decode b_Raw_init 18 = .ok (.putfield 15, 3) := by decide +kernel
theorem d_Raw_init_21 : decode b_Raw_init 21 = .ok (.return_, 1) := by decide +kernel
theorem q_Raw_init : px_y y_Raw_init 1 := by unfold px_y; decide +kernel
set_option maxHeartbeats 4000000 in
set_option maxRecDepth 100000 in
theorem c_Raw_init (l : Launch) (D : va_G) (cs : Nat → ClassId) (h : Nat) (p0 : Int32)  : MetV l y_Raw_init b_Raw_init 2 D cs 2 40 (3) (324) [.ref h, .int p0] [[(h, .inr (9, [.null, .null, .null, .int 0, .null, .int 0, .int 0, .int 0, .int 0, .null, .int 0, .int 0, .int 0, .int 0, .int 0, .int 0, .int 0, .int 0]))]] (fun _ => True) (fun ps => ∃ r : Nat → Nat, ps.flatten = [wd_Raw cs h r (fun _ => none) (upd (fun _ => 0) 8 p0) (fun _ _ => 0) (fun _ _ => none)].flatten) := by
  refine px_enter (by decide) (Nat.le_of_ble_eq_true rfl) ?_
  intro p e s m below meth c A ls hAe S hr hlk hnm hA hT hX hw hl
  have hin : meth.name = "<init>" := hnm
  have hl : lv_has ls 2 [(0, .ref h), (1, .int p0)] := hl
  have lp0 := Int32.le_toInt p0
  have up0 := Int32.toInt_lt p0
  have cst32 : (32 : Int32).toInt = 32 := rfl
  have cst36 : (36 : Int32).toInt = 36 := rfl
  refine lv_aload_n S.x S.b d_Raw_init_0 rfl (lv_at hl 0 rfl) ?_
  refine lv_iload_n S.x S.b d_Raw_init_1 rfl (lv_at hl 1 rfl) ?_
  refine px_callv (pr := []) (px_runI (As := [.int p0]) (rest := []) S (c_Any_init_Raw l D cs h p0 _) hT (pr := []) (pcs := [[(h, .inr (9, [.null, .null, .null, .int 0, .null, .int 0, .int 0, .int 0, .int 0, .null, .int 0, .int 0, .int 0, .int 0, .int 0, .int 0, .int 0, .int 0]))]]) hw px_X.tt m6_122 m6_120 m6_121 m1_33 rfl q_HomeSystem_AnyProcess_init ⟨Nat.le_of_ble_eq_true rfl, Nat.le_of_ble_eq_true rfl⟩ hl.1 rfl (Nat.le_of_ble_eq_true rfl) d_Raw_init_2 ⟨Nat.le_of_ble_eq_true rfl, Nat.le_of_ble_eq_true rfl⟩) hw hA (fun p2 H locs hp2 hw => ?_)
  obtain ⟨q1, rfl⟩ := hp2
  have hw : pw D A s.heap H locs [[(h, .inr (9, [.null, .null, .null, .int 0, .null, .int 0, .int 0, .int 0, .int p0, .ref q1, .int 0, .int 0, .int 0, .int 0, .int 0, .int 0, .int 0, .int 0]))], [(q1, .inl (cs 0, 256, .inl (fun _ => 0)))]] := hw
  refine lv_aload_n S.x S.b d_Raw_init_5 rfl (lv_at hl 0 rfl) ?_
  refine lv_bipush (v := 32) S.x S.b d_Raw_init_6 (by decide) ?_
  refine px_newa S hT hw hA (atype := .int) m1_166 0 rfl rfl (a0 := (32, .inl (fun _ => 0))) (fun _ => rfl) (by decide) (by decide +kernel) (Nat.le_of_ble_eq_true rfl) (Nat.le_of_ble_eq_true rfl) (Nat.le_of_ble_eq_true rfl) d_Raw_init_8 (fun q4 H hw => ?_)
  have hw : pw D A s.heap H _ [[(h, .inr (9, [.null, .null, .null, .int 0, .null, .int 0, .int 0, .int 0, .int p0, .ref q1, .int 0, .int 0, .int 0, .int 0, .int 0, .int 0, .int 0, .int 0]))], [(q1, .inl (cs 0, 256, .inl (fun _ => 0)))], [(q4, .inl (cs 0, 32, .inl (fun _ => 0)))]] := hw
  refine px_putF S k_Raw hin hT hw 0 0 0 rfl rfl (by decide) m6_124 rfl rfl rfl rfl (Nat.le_of_ble_eq_true rfl) d_Raw_init_10 (w' := [(h, .inr (9, [.ref q4, .null, .null, .int 0, .null, .int 0, .int 0, .int 0, .int p0, .ref q1, .int 0, .int 0, .int 0, .int 0, .int 0, .int 0, .int 0, .int 0]))]) (ps' := [[(h, .inr (9, [.ref q4, .null, .null, .int 0, .null, .int 0, .int 0, .int 0, .int p0, .ref q1, .int 0, .int 0, .int 0, .int 0, .int 0, .int 0, .int 0, .int 0]))], [(q1, .inl (cs 0, 256, .inl (fun _ => 0)))], [(q4, .inl (cs 0, 32, .inl (fun _ => 0)))]]) rfl rfl (fun H locs hw => ?_)
  refine lv_aload_n S.x S.b d_Raw_init_13 rfl (lv_at hl 0 rfl) ?_
  refine lv_bipush (v := 36) S.x S.b d_Raw_init_14 (by decide) ?_
  refine px_newa S hT hw hA (atype := .int) m1_166 0 rfl rfl (a0 := (36, .inl (fun _ => 0))) (fun _ => rfl) (by decide) (by decide +kernel) (Nat.le_of_ble_eq_true rfl) (Nat.le_of_ble_eq_true rfl) (Nat.le_of_ble_eq_true rfl) d_Raw_init_16 (fun q5 H hw => ?_)
  have hw : pw D A s.heap H _ [[(h, .inr (9, [.ref q4, .null, .null, .int 0, .null, .int 0, .int 0, .int 0, .int p0, .ref q1, .int 0, .int 0, .int 0, .int 0, .int 0, .int 0, .int 0, .int 0]))], [(q1, .inl (cs 0, 256, .inl (fun _ => 0)))], [(q4, .inl (cs 0, 32, .inl (fun _ => 0)))], [(q5, .inl (cs 0, 36, .inl (fun _ => 0)))]] := hw
  refine px_putF S k_Raw hin hT hw 0 0 1 rfl rfl (by decide) m6_125 rfl rfl rfl rfl (Nat.le_of_ble_eq_true rfl) d_Raw_init_18 (w' := [(h, .inr (9, [.ref q4, .ref q5, .null, .int 0, .null, .int 0, .int 0, .int 0, .int p0, .ref q1, .int 0, .int 0, .int 0, .int 0, .int 0, .int 0, .int 0, .int 0]))]) (ps' := [[(h, .inr (9, [.ref q4, .ref q5, .null, .int 0, .null, .int 0, .int 0, .int 0, .int p0, .ref q1, .int 0, .int 0, .int 0, .int 0, .int 0, .int 0, .int 0, .int 0]))], [(q1, .inl (cs 0, 256, .inl (fun _ => 0)))], [(q4, .inl (cs 0, 32, .inl (fun _ => 0)))], [(q5, .inl (cs 0, 36, .inl (fun _ => 0)))]]) rfl rfl (fun H locs hw => ?_)
  have hw : pw D A s.heap _ _ [[(h, .inr (9, [.ref q4, .ref q5, .null, .int 0, .null, .int 0, .int 0, .int 0, .int p0, .ref q1, .int 0, .int 0, .int 0, .int 0, .int 0, .int 0, .int 0, .int 0]))], [(q4, .inl (cs 0, 32, .inl (fun _ => 0)))], [(q5, .inl (cs 0, 36, .inl (fun _ => 0)))], [(q1, .inl (cs 0, 256, .inl (fun _ => 0)))]] := hw.sub [0, 2, 3, 1] rfl rfl
  exact px_vret S hr hlk hAe hw (Nat.le_of_ble_eq_true rfl) (Nat.le_of_ble_eq_true rfl) (⟨(fun k => if k = 9 then q1 else if k = 1 then q5 else if k = 0 then q4 else 0), rfl⟩) d_Raw_init_21
abbrev b_Txp_init : ByteArray := prog_11_method_1_code
def y_Txp_init : MethodName := ⟨"HomeSystem$TextProcess", "<init>", "(I)V"⟩
theorem d_Txp_init_0 : decode b_Txp_init 0 = .ok (.aload_n 0, 1) := by decide +kernel
theorem d_Txp_init_1 : decode b_Txp_init 1 = .ok (.iload_n 1, 1) := by decide +kernel
theorem d_Txp_init_2 : decode b_Txp_init 2 = .ok (.invokespecial 3, 3) := by decide +kernel
theorem d_Txp_init_5 : decode b_Txp_init 5 = .ok (.aload_n 0, 1) := by decide +kernel
theorem d_Txp_init_6 : decode b_Txp_init 6 = .ok (.sipush 8704, 3) := by decide +kernel
theorem d_Txp_init_9 : decode b_Txp_init 9 = .ok (.newarray .int, 2) := by decide +kernel
theorem d_Txp_init_11 : decode b_Txp_init 11 = .ok (.putfield 9, 3) := by decide +kernel
theorem d_Txp_init_14 : decode b_Txp_init 14 = .ok (.aload_n 0, 1) := by decide +kernel
theorem d_Txp_init_15 : decode b_Txp_init 15 = .ok (.sipush 516, 3) := by decide +kernel
theorem d_Txp_init_18 : decode b_Txp_init 18 = .ok (.newarray .int, 2) := by decide +kernel
theorem d_Txp_init_20 : decode b_Txp_init 20 = .ok (.putfield 15, 3) := by decide +kernel
theorem d_Txp_init_23 : decode b_Txp_init 23 = .ok (.aload_n 0, 1) := by decide +kernel
theorem d_Txp_init_24 : decode b_Txp_init 24 = .ok (.sipush 303, 3) := by decide +kernel
theorem d_Txp_init_27 : decode b_Txp_init 27 = .ok (.newarray .int, 2) := by decide +kernel
theorem d_Txp_init_29 : decode b_Txp_init 29 = .ok (.putfield 18, 3) := by decide +kernel
theorem d_Txp_init_32 : decode b_Txp_init 32 = .ok (.return_, 1) := by decide +kernel
theorem q_Txp_init : px_y y_Txp_init 1 := by unfold px_y; decide +kernel
set_option maxHeartbeats 4000000 in
set_option maxRecDepth 100000 in
theorem c_Txp_init (l : Launch) (D : va_G) (cs : Nat → ClassId) (h : Nat) (p0 : Int32)  : MetV l y_Txp_init b_Txp_init 2 D cs 2 40 (4) (9779) [.ref h, .int p0] [[(h, .inr (10, [.null, .null, .null, .null, .int 0, .int 0, .int 0, .int 0, .int 0, .int 0, .int 0, .int 0, .int 0, .int 0, .int 0, .int 0, .null, .int 0, .int 0, .int 0, .int 0, .int 0, .int 0, .int 0, .int 0]))]] (fun _ => True) (fun ps => ∃ r : Nat → Nat, ps.flatten = [wd_Txp cs h r (fun _ => none) (upd (fun _ => 0) 15 p0) (fun _ _ => 0) (fun _ _ => none)].flatten) := by
  refine px_enter (by decide) (Nat.le_of_ble_eq_true rfl) ?_
  intro p e s m below meth c A ls hAe S hr hlk hnm hA hT hX hw hl
  have hin : meth.name = "<init>" := hnm
  have hl : lv_has ls 2 [(0, .ref h), (1, .int p0)] := hl
  have lp0 := Int32.le_toInt p0
  have up0 := Int32.toInt_lt p0
  have cst303 : (303 : Int32).toInt = 303 := rfl
  have cst516 : (516 : Int32).toInt = 516 := rfl
  have cst8704 : (8704 : Int32).toInt = 8704 := rfl
  refine lv_aload_n S.x S.b d_Txp_init_0 rfl (lv_at hl 0 rfl) ?_
  refine lv_iload_n S.x S.b d_Txp_init_1 rfl (lv_at hl 1 rfl) ?_
  refine px_callv (pr := []) (px_runI (As := [.int p0]) (rest := []) S (c_Any_init_Txp l D cs h p0 _) hT (pr := []) (pcs := [[(h, .inr (10, [.null, .null, .null, .null, .int 0, .int 0, .int 0, .int 0, .int 0, .int 0, .int 0, .int 0, .int 0, .int 0, .int 0, .int 0, .null, .int 0, .int 0, .int 0, .int 0, .int 0, .int 0, .int 0, .int 0]))]]) hw px_X.tt m6_122 m6_212 m6_121 m1_33 rfl q_HomeSystem_AnyProcess_init ⟨Nat.le_of_ble_eq_true rfl, Nat.le_of_ble_eq_true rfl⟩ hl.1 rfl (Nat.le_of_ble_eq_true rfl) d_Txp_init_2 ⟨Nat.le_of_ble_eq_true rfl, Nat.le_of_ble_eq_true rfl⟩) hw hA (fun p2 H locs hp2 hw => ?_)
  obtain ⟨q1, rfl⟩ := hp2
  have hw : pw D A s.heap H locs [[(h, .inr (10, [.null, .null, .null, .null, .int 0, .int 0, .int 0, .int 0, .int 0, .int 0, .int 0, .int 0, .int 0, .int 0, .int 0, .int p0, .ref q1, .int 0, .int 0, .int 0, .int 0, .int 0, .int 0, .int 0, .int 0]))], [(q1, .inl (cs 0, 256, .inl (fun _ => 0)))]] := hw
  refine lv_aload_n S.x S.b d_Txp_init_5 rfl (lv_at hl 0 rfl) ?_
  refine lv_sipush (v := 8704) S.x S.b d_Txp_init_6 (by decide) ?_
  refine px_newa S hT hw hA (atype := .int) m1_166 0 rfl rfl (a0 := (8704, .inl (fun _ => 0))) (fun _ => rfl) (by decide) (by decide +kernel) (Nat.le_of_ble_eq_true rfl) (Nat.le_of_ble_eq_true rfl) (Nat.le_of_ble_eq_true rfl) d_Txp_init_9 (fun q4 H hw => ?_)
  have hw : pw D A s.heap H _ [[(h, .inr (10, [.null, .null, .null, .null, .int 0, .int 0, .int 0, .int 0, .int 0, .int 0, .int 0, .int 0, .int 0, .int 0, .int 0, .int p0, .ref q1, .int 0, .int 0, .int 0, .int 0, .int 0, .int 0, .int 0, .int 0]))], [(q1, .inl (cs 0, 256, .inl (fun _ => 0)))], [(q4, .inl (cs 0, 8704, .inl (fun _ => 0)))]] := hw
  refine px_putF S k_Txp hin hT hw 0 0 0 rfl rfl (by decide) m6_213 rfl rfl rfl rfl (Nat.le_of_ble_eq_true rfl) d_Txp_init_11 (w' := [(h, .inr (10, [.ref q4, .null, .null, .null, .int 0, .int 0, .int 0, .int 0, .int 0, .int 0, .int 0, .int 0, .int 0, .int 0, .int 0, .int p0, .ref q1, .int 0, .int 0, .int 0, .int 0, .int 0, .int 0, .int 0, .int 0]))]) (ps' := [[(h, .inr (10, [.ref q4, .null, .null, .null, .int 0, .int 0, .int 0, .int 0, .int 0, .int 0, .int 0, .int 0, .int 0, .int 0, .int 0, .int p0, .ref q1, .int 0, .int 0, .int 0, .int 0, .int 0, .int 0, .int 0, .int 0]))], [(q1, .inl (cs 0, 256, .inl (fun _ => 0)))], [(q4, .inl (cs 0, 8704, .inl (fun _ => 0)))]]) rfl rfl (fun H locs hw => ?_)
  refine lv_aload_n S.x S.b d_Txp_init_14 rfl (lv_at hl 0 rfl) ?_
  refine lv_sipush (v := 516) S.x S.b d_Txp_init_15 (by decide) ?_
  refine px_newa S hT hw hA (atype := .int) m1_166 0 rfl rfl (a0 := (516, .inl (fun _ => 0))) (fun _ => rfl) (by decide) (by decide +kernel) (Nat.le_of_ble_eq_true rfl) (Nat.le_of_ble_eq_true rfl) (Nat.le_of_ble_eq_true rfl) d_Txp_init_18 (fun q5 H hw => ?_)
  have hw : pw D A s.heap H _ [[(h, .inr (10, [.ref q4, .null, .null, .null, .int 0, .int 0, .int 0, .int 0, .int 0, .int 0, .int 0, .int 0, .int 0, .int 0, .int 0, .int p0, .ref q1, .int 0, .int 0, .int 0, .int 0, .int 0, .int 0, .int 0, .int 0]))], [(q1, .inl (cs 0, 256, .inl (fun _ => 0)))], [(q4, .inl (cs 0, 8704, .inl (fun _ => 0)))], [(q5, .inl (cs 0, 516, .inl (fun _ => 0)))]] := hw
  refine px_putF S k_Txp hin hT hw 0 0 1 rfl rfl (by decide) m6_214 rfl rfl rfl rfl (Nat.le_of_ble_eq_true rfl) d_Txp_init_20 (w' := [(h, .inr (10, [.ref q4, .ref q5, .null, .null, .int 0, .int 0, .int 0, .int 0, .int 0, .int 0, .int 0, .int 0, .int 0, .int 0, .int 0, .int p0, .ref q1, .int 0, .int 0, .int 0, .int 0, .int 0, .int 0, .int 0, .int 0]))]) (ps' := [[(h, .inr (10, [.ref q4, .ref q5, .null, .null, .int 0, .int 0, .int 0, .int 0, .int 0, .int 0, .int 0, .int 0, .int 0, .int 0, .int 0, .int p0, .ref q1, .int 0, .int 0, .int 0, .int 0, .int 0, .int 0, .int 0, .int 0]))], [(q1, .inl (cs 0, 256, .inl (fun _ => 0)))], [(q4, .inl (cs 0, 8704, .inl (fun _ => 0)))], [(q5, .inl (cs 0, 516, .inl (fun _ => 0)))]]) rfl rfl (fun H locs hw => ?_)
  refine lv_aload_n S.x S.b d_Txp_init_23 rfl (lv_at hl 0 rfl) ?_
  refine lv_sipush (v := 303) S.x S.b d_Txp_init_24 (by decide) ?_
  refine px_newa S hT hw hA (atype := .int) m1_166 0 rfl rfl (a0 := (303, .inl (fun _ => 0))) (fun _ => rfl) (by decide) (by decide +kernel) (Nat.le_of_ble_eq_true rfl) (Nat.le_of_ble_eq_true rfl) (Nat.le_of_ble_eq_true rfl) d_Txp_init_27 (fun q6 H hw => ?_)
  have hw : pw D A s.heap H _ [[(h, .inr (10, [.ref q4, .ref q5, .null, .null, .int 0, .int 0, .int 0, .int 0, .int 0, .int 0, .int 0, .int 0, .int 0, .int 0, .int 0, .int p0, .ref q1, .int 0, .int 0, .int 0, .int 0, .int 0, .int 0, .int 0, .int 0]))], [(q1, .inl (cs 0, 256, .inl (fun _ => 0)))], [(q4, .inl (cs 0, 8704, .inl (fun _ => 0)))], [(q5, .inl (cs 0, 516, .inl (fun _ => 0)))], [(q6, .inl (cs 0, 303, .inl (fun _ => 0)))]] := hw
  refine px_putF S k_Txp hin hT hw 0 0 2 rfl rfl (by decide) m6_215 rfl rfl rfl rfl (Nat.le_of_ble_eq_true rfl) d_Txp_init_29 (w' := [(h, .inr (10, [.ref q4, .ref q5, .ref q6, .null, .int 0, .int 0, .int 0, .int 0, .int 0, .int 0, .int 0, .int 0, .int 0, .int 0, .int 0, .int p0, .ref q1, .int 0, .int 0, .int 0, .int 0, .int 0, .int 0, .int 0, .int 0]))]) (ps' := [[(h, .inr (10, [.ref q4, .ref q5, .ref q6, .null, .int 0, .int 0, .int 0, .int 0, .int 0, .int 0, .int 0, .int 0, .int 0, .int 0, .int 0, .int p0, .ref q1, .int 0, .int 0, .int 0, .int 0, .int 0, .int 0, .int 0, .int 0]))], [(q1, .inl (cs 0, 256, .inl (fun _ => 0)))], [(q4, .inl (cs 0, 8704, .inl (fun _ => 0)))], [(q5, .inl (cs 0, 516, .inl (fun _ => 0)))], [(q6, .inl (cs 0, 303, .inl (fun _ => 0)))]]) rfl rfl (fun H locs hw => ?_)
  have hw : pw D A s.heap _ _ [[(h, .inr (10, [.ref q4, .ref q5, .ref q6, .null, .int 0, .int 0, .int 0, .int 0, .int 0, .int 0, .int 0, .int 0, .int 0, .int 0, .int 0, .int p0, .ref q1, .int 0, .int 0, .int 0, .int 0, .int 0, .int 0, .int 0, .int 0]))], [(q4, .inl (cs 0, 8704, .inl (fun _ => 0)))], [(q5, .inl (cs 0, 516, .inl (fun _ => 0)))], [(q6, .inl (cs 0, 303, .inl (fun _ => 0)))], [(q1, .inl (cs 0, 256, .inl (fun _ => 0)))]] := hw.sub [0, 2, 3, 4, 1] rfl rfl
  exact px_vret S hr hlk hAe hw (Nat.le_of_ble_eq_true rfl) (Nat.le_of_ble_eq_true rfl) (⟨(fun k => if k = 16 then q1 else if k = 2 then q6 else if k = 1 then q5 else if k = 0 then q4 else 0), rfl⟩) d_Txp_init_32
abbrev b_Sym_init : ByteArray := prog_9_method_1_code
def y_Sym_init : MethodName := ⟨"HomeSystem$Symbol", "<init>", "(II)V"⟩
theorem d_Sym_init_0 : decode b_Sym_init 0 = .ok (.aload_n 0, 1) := by decide +kernel
theorem d_Sym_init_1 : decode b_Sym_init 1 = .ok (.invokespecial 1, 3) := by decide +kernel
theorem d_Sym_init_4 : decode b_Sym_init 4 = .ok (.aload_n 0, 1) := by decide +kernel
theorem d_Sym_init_5 : decode b_Sym_init 5 = .ok (.iload_n 1, 1) := by decide +kernel
theorem d_Sym_init_6 : decode b_Sym_init 6 = .ok (.putfield 7, 3) := by decide +kernel
theorem d_Sym_init_9 : decode b_Sym_init 9 = .ok (.aload_n 0, 1) := by decide +kernel
theorem d_Sym_init_10 : decode b_Sym_init 10 = .ok (.iload_n 2, 1) := by decide +kernel
theorem d_Sym_init_11 : decode b_Sym_init 11 = .ok (.putfield 13, 3) := by decide +kernel
theorem d_Sym_init_14 : decode b_Sym_init 14 = .ok (.return_, 1) := by decide +kernel
theorem q_Sym_init : px_y y_Sym_init 2 := by unfold px_y; decide +kernel
set_option maxHeartbeats 4000000 in
set_option maxRecDepth 100000 in
theorem c_Sym_init (l : Launch) (D : va_G) (cs : Nat → ClassId) (h : Nat) (p0 p1 : Int32)  : MetV l y_Sym_init b_Sym_init 3 D cs 1 12 (0) (0) [.ref h, .int p0, .int p1] [[(h, .inr (3, [.int 0, .int 0, .int 0, .int 0, .int 0, .int 0, .int 0]))]] (fun _ => True) (fun ps => ps = [[(h, .inr (3, [.int p0, .int p1, .int 0, .int 0, .int 0, .int 0, .int 0]))]]) := by
  refine px_enter (by decide) (Nat.le_of_ble_eq_true rfl) ?_
  intro p e s m below meth c A ls hAe S hr hlk hnm hA hT hX hw hl
  have hin : meth.name = "<init>" := hnm
  have hl : lv_has ls 3 [(0, .ref h), (1, .int p0), (2, .int p1)] := hl
  have lp0 := Int32.le_toInt p0
  have up0 := Int32.toInt_lt p0
  have lp1 := Int32.le_toInt p1
  have up1 := Int32.toInt_lt p1
  refine lv_aload_n S.x S.b d_Sym_init_0 rfl (lv_at hl 0 rfl) ?_
  refine px_oinit S m1_207 m1_46 m1_47 hl.1 d_Sym_init_1 (Nat.le_of_ble_eq_true rfl) (Nat.le_of_ble_eq_true rfl) ?_
  refine lv_aload_n S.x S.b d_Sym_init_4 rfl (lv_at hl 0 rfl) ?_
  refine lv_iload_n S.x S.b d_Sym_init_5 rfl (lv_at hl 1 rfl) ?_
  refine px_putF S k_Sym hin hT hw 0 0 0 rfl rfl (by decide) m1_208 rfl rfl rfl rfl (Nat.le_of_ble_eq_true rfl) d_Sym_init_6 (w' := [(h, .inr (3, [.int p0, .int 0, .int 0, .int 0, .int 0, .int 0, .int 0]))]) (ps' := [[(h, .inr (3, [.int p0, .int 0, .int 0, .int 0, .int 0, .int 0, .int 0]))]]) rfl rfl (fun H locs hw => ?_)
  refine lv_aload_n S.x S.b d_Sym_init_9 rfl (lv_at hl 0 rfl) ?_
  refine lv_iload_n S.x S.b d_Sym_init_10 rfl (lv_at hl 2 rfl) ?_
  refine px_putF S k_Sym hin hT hw 0 0 1 rfl rfl (by decide) m1_211 rfl rfl rfl rfl (Nat.le_of_ble_eq_true rfl) d_Sym_init_11 (w' := [(h, .inr (3, [.int p0, .int p1, .int 0, .int 0, .int 0, .int 0, .int 0]))]) (ps' := [[(h, .inr (3, [.int p0, .int p1, .int 0, .int 0, .int 0, .int 0, .int 0]))]]) rfl rfl (fun H locs hw => ?_)
  exact px_vret S hr hlk hAe hw (Nat.le_of_ble_eq_true rfl) (Nat.le_of_ble_eq_true rfl) (rfl) d_Sym_init_14
abbrev b_Opd_init : ByteArray := prog_6_method_1_code
def y_Opd_init : MethodName := ⟨"HomeSystem$Operand", "<init>", "(III)V"⟩
theorem d_Opd_init_0 : decode b_Opd_init 0 = .ok (.aload_n 0, 1) := by decide +kernel
theorem d_Opd_init_1 : decode b_Opd_init 1 = .ok (.invokespecial 3, 3) := by decide +kernel
theorem d_Opd_init_4 : decode b_Opd_init 4 = .ok (.aload_n 0, 1) := by decide +kernel
theorem d_Opd_init_5 : decode b_Opd_init 5 = .ok (.iconst 1, 1) := by decide +kernel
theorem d_Opd_init_6 : decode b_Opd_init 6 = .ok (.putfield 9, 3) := by decide +kernel
theorem d_Opd_init_9 : decode b_Opd_init 9 = .ok (.aload_n 0, 1) := by decide +kernel
theorem d_Opd_init_10 : decode b_Opd_init 10 = .ok (.iconst 1, 1) := by decide +kernel
theorem d_Opd_init_11 : decode b_Opd_init 11 = .ok (.putfield 15, 3) := by decide +kernel
theorem d_Opd_init_14 : decode b_Opd_init 14 = .ok (.aload_n 0, 1) := by decide +kernel
theorem d_Opd_init_15 : decode b_Opd_init 15 = .ok (.iload_n 1, 1) := by decide +kernel
theorem d_Opd_init_16 : decode b_Opd_init 16 = .ok (.putfield 18, 3) := by decide +kernel
theorem d_Opd_init_19 : decode b_Opd_init 19 = .ok (.aload_n 0, 1) := by decide +kernel
theorem d_Opd_init_20 : decode b_Opd_init 20 = .ok (.iload_n 2, 1) := by decide +kernel
theorem d_Opd_init_21 : decode b_Opd_init 21 = .ok (.putfield 21, 3) := by decide +kernel
theorem d_Opd_init_24 : decode b_Opd_init 24 = .ok (.aload_n 0, 1) := by decide +kernel
theorem d_Opd_init_25 : decode b_Opd_init 25 = .ok (.iload_n 3, 1) := by decide +kernel
theorem d_Opd_init_26 : decode b_Opd_init 26 = .ok (.putfield 24, 3) := by decide +kernel
theorem d_Opd_init_29 : decode b_Opd_init 29 = .ok (.return_, 1) := by decide +kernel
theorem q_Opd_init : px_y y_Opd_init 3 := by unfold px_y; decide +kernel
set_option maxHeartbeats 4000000 in
set_option maxRecDepth 100000 in
theorem c_Opd_init (l : Launch) (D : va_G) (cs : Nat → ClassId) (h : Nat) (p0 p1 p2 : Int32)  : MetV l y_Opd_init b_Opd_init 4 D cs 1 12 (0) (0) [.ref h, .int p0, .int p1, .int p2] [[(h, .inr (8, [.int 0, .int 0, .int 0, .int 0, .null, .int 0, .int 0, .int 0, .int 0]))]] (fun _ => True) (fun ps => ps = [[(h, .inr (8, [.int p0, .int p1, .int p2, .int 0, .null, .int 1, .int 1, .int 0, .int 0]))]]) := by
  refine px_enter (by decide) (Nat.le_of_ble_eq_true rfl) ?_
  intro p e s m below meth c A ls hAe S hr hlk hnm hA hT hX hw hl
  have hin : meth.name = "<init>" := hnm
  have hl : lv_has ls 4 [(0, .ref h), (1, .int p0), (2, .int p1), (3, .int p2)] := hl
  have lp0 := Int32.le_toInt p0
  have up0 := Int32.toInt_lt p0
  have lp1 := Int32.le_toInt p1
  have up1 := Int32.toInt_lt p1
  have lp2 := Int32.le_toInt p2
  have up2 := Int32.toInt_lt p2
  have cst1 : (1 : Int32).toInt = 1 := rfl
  refine lv_aload_n S.x S.b d_Opd_init_0 rfl (lv_at hl 0 rfl) ?_
  refine px_oinit S m4_216 m1_46 m1_47 hl.1 d_Opd_init_1 (Nat.le_of_ble_eq_true rfl) (Nat.le_of_ble_eq_true rfl) ?_
  refine lv_aload_n S.x S.b d_Opd_init_4 rfl (lv_at hl 0 rfl) ?_
  refine lv_iconst (v := 1) S.x S.b d_Opd_init_5 (by decide) ?_
  refine px_put S k_Opd hT hw 0 0 5 rfl rfl (by decide) m4_227 rfl rfl rfl (Nat.le_of_ble_eq_true rfl) d_Opd_init_6 (w' := [(h, .inr (8, [.int 0, .int 0, .int 0, .int 0, .null, .int 1, .int 0, .int 0, .int 0]))]) (ps' := [[(h, .inr (8, [.int 0, .int 0, .int 0, .int 0, .null, .int 1, .int 0, .int 0, .int 0]))]]) rfl rfl (fun H locs hw => ?_)
  refine lv_aload_n S.x S.b d_Opd_init_9 rfl (lv_at hl 0 rfl) ?_
  refine lv_iconst (v := 1) S.x S.b d_Opd_init_10 (by decide) ?_
  refine px_put S k_Opd hT hw 0 0 6 rfl rfl (by decide) m4_229 rfl rfl rfl (Nat.le_of_ble_eq_true rfl) d_Opd_init_11 (w' := [(h, .inr (8, [.int 0, .int 0, .int 0, .int 0, .null, .int 1, .int 1, .int 0, .int 0]))]) (ps' := [[(h, .inr (8, [.int 0, .int 0, .int 0, .int 0, .null, .int 1, .int 1, .int 0, .int 0]))]]) rfl rfl (fun H locs hw => ?_)
  refine lv_aload_n S.x S.b d_Opd_init_14 rfl (lv_at hl 0 rfl) ?_
  refine lv_iload_n S.x S.b d_Opd_init_15 rfl (lv_at hl 1 rfl) ?_
  refine px_put S k_Opd hT hw 0 0 0 rfl rfl (by decide) m4_217 rfl rfl rfl (Nat.le_of_ble_eq_true rfl) d_Opd_init_16 (w' := [(h, .inr (8, [.int p0, .int 0, .int 0, .int 0, .null, .int 1, .int 1, .int 0, .int 0]))]) (ps' := [[(h, .inr (8, [.int p0, .int 0, .int 0, .int 0, .null, .int 1, .int 1, .int 0, .int 0]))]]) rfl rfl (fun H locs hw => ?_)
  refine lv_aload_n S.x S.b d_Opd_init_19 rfl (lv_at hl 0 rfl) ?_
  refine lv_iload_n S.x S.b d_Opd_init_20 rfl (lv_at hl 2 rfl) ?_
  refine px_put S k_Opd hT hw 0 0 1 rfl rfl (by decide) m4_220 rfl rfl rfl (Nat.le_of_ble_eq_true rfl) d_Opd_init_21 (w' := [(h, .inr (8, [.int p0, .int p1, .int 0, .int 0, .null, .int 1, .int 1, .int 0, .int 0]))]) (ps' := [[(h, .inr (8, [.int p0, .int p1, .int 0, .int 0, .null, .int 1, .int 1, .int 0, .int 0]))]]) rfl rfl (fun H locs hw => ?_)
  refine lv_aload_n S.x S.b d_Opd_init_24 rfl (lv_at hl 0 rfl) ?_
  refine lv_iload_n S.x S.b d_Opd_init_25 rfl (lv_at hl 3 rfl) ?_
  refine px_put S k_Opd hT hw 0 0 2 rfl rfl (by decide) m4_222 rfl rfl rfl (Nat.le_of_ble_eq_true rfl) d_Opd_init_26 (w' := [(h, .inr (8, [.int p0, .int p1, .int p2, .int 0, .null, .int 1, .int 1, .int 0, .int 0]))]) (ps' := [[(h, .inr (8, [.int p0, .int p1, .int p2, .int 0, .null, .int 1, .int 1, .int 0, .int 0]))]]) rfl rfl (fun H locs hw => ?_)
  exact px_vret S hr hlk hAe hw (Nat.le_of_ble_eq_true rfl) (Nat.le_of_ble_eq_true rfl) (rfl) d_Opd_init_29
abbrev b_Prg_init : ByteArray := prog_7_method_1_code
def y_Prg_init : MethodName := ⟨"HomeSystem$Program", "<init>", "([I[IZ)V"⟩
theorem d_Prg_init_0 : decode b_Prg_init 0 = .ok (.aload_n 0, 1) := by decide +kernel
theorem d_Prg_init_1 : decode b_Prg_init 1 = .ok (.invokespecial 3, 3) := by decide +kernel
theorem d_Prg_init_4 : decode b_Prg_init 4 = .ok (.aload_n 0, 1) := by decide +kernel
theorem d_Prg_init_5 : decode b_Prg_init 5 = .ok (.aload_n 1, 1) := by decide +kernel
theorem d_Prg_init_6 : decode b_Prg_init 6 = .ok (.putfield 9, 3) := by decide +kernel
theorem d_Prg_init_9 : decode b_Prg_init 9 = .ok (.aload_n 0, 1) := by decide +kernel
theorem d_Prg_init_10 : decode b_Prg_init 10 = .ok (.aload_n 2, 1) := by decide +kernel
theorem d_Prg_init_11 : decode b_Prg_init 11 = .ok (.putfield 15, 3) := by decide +kernel
theorem d_Prg_init_14 : decode b_Prg_init 14 = .ok (.aload_n 0, 1) := by decide +kernel
theorem d_Prg_init_15 : decode b_Prg_init 15 = .ok (.iload_n 3, 1) := by decide +kernel
theorem d_Prg_init_16 : decode b_Prg_init 16 = .ok (.putfield 18, 3) := by decide +kernel
theorem d_Prg_init_19 : decode b_Prg_init 19 = .ok (.return_, 1) := by decide +kernel
theorem q_Prg_init : px_y y_Prg_init 3 := by unfold px_y; decide +kernel
set_option maxHeartbeats 4000000 in
set_option maxRecDepth 100000 in
theorem c_Prg_init_00 (l : Launch) (D : va_G) (cs : Nat → ClassId) (h x1 x2 : Nat)  : MetV l y_Prg_init b_Prg_init 4 D cs 1 12 (0) (0) [.ref h, .ref x1, .ref x2, .int 0] [[(h, .inr (4, [.int 0, .null, .null, .int 0, .int 0, .int 0]))]] (fun _ => True) (fun ps => ps = [[(h, .inr (4, [.int 0, .ref x1, .ref x2, .int 0, .int 0, .int 0]))]]) := by
  refine px_enter (by decide) (Nat.le_of_ble_eq_true rfl) ?_
  intro p e s m below meth c A ls hAe S hr hlk hnm hA hT hX hw hl
  have hin : meth.name = "<init>" := hnm
  have hl : lv_has ls 4 [(0, .ref h), (1, .ref x1), (2, .ref x2), (3, .int 0)] := hl
  have l0 := Int32.le_toInt 0
  have u0 := Int32.toInt_lt 0
  refine lv_aload_n S.x S.b d_Prg_init_0 rfl (lv_at hl 0 rfl) ?_
  refine px_oinit S m2_96 m1_46 m1_47 hl.1 d_Prg_init_1 (Nat.le_of_ble_eq_true rfl) (Nat.le_of_ble_eq_true rfl) ?_
  refine lv_aload_n S.x S.b d_Prg_init_4 rfl (lv_at hl 0 rfl) ?_
  refine lv_aload_n S.x S.b d_Prg_init_5 rfl (lv_at hl 1 rfl) ?_
  refine px_putF S k_Prg hin hT hw 0 0 1 rfl rfl (by decide) m2_99 rfl rfl rfl rfl (Nat.le_of_ble_eq_true rfl) d_Prg_init_6 (w' := [(h, .inr (4, [.int 0, .ref x1, .null, .int 0, .int 0, .int 0]))]) (ps' := [[(h, .inr (4, [.int 0, .ref x1, .null, .int 0, .int 0, .int 0]))]]) rfl rfl (fun H locs hw => ?_)
  refine lv_aload_n S.x S.b d_Prg_init_9 rfl (lv_at hl 0 rfl) ?_
  refine lv_aload_n S.x S.b d_Prg_init_10 rfl (lv_at hl 2 rfl) ?_
  refine px_putF S k_Prg hin hT hw 0 0 2 rfl rfl (by decide) m2_103 rfl rfl rfl rfl (Nat.le_of_ble_eq_true rfl) d_Prg_init_11 (w' := [(h, .inr (4, [.int 0, .ref x1, .ref x2, .int 0, .int 0, .int 0]))]) (ps' := [[(h, .inr (4, [.int 0, .ref x1, .ref x2, .int 0, .int 0, .int 0]))]]) rfl rfl (fun H locs hw => ?_)
  refine lv_aload_n S.x S.b d_Prg_init_14 rfl (lv_at hl 0 rfl) ?_
  refine lv_iload_n S.x S.b d_Prg_init_15 rfl (lv_at hl 3 rfl) ?_
  refine px_putF S k_Prg hin hT hw 0 0 0 rfl rfl (by decide) m2_97 rfl rfl rfl rfl (Nat.le_of_ble_eq_true rfl) d_Prg_init_16 (w' := [(h, .inr (4, [.int 0, .ref x1, .ref x2, .int 0, .int 0, .int 0]))]) (ps' := [[(h, .inr (4, [.int 0, .ref x1, .ref x2, .int 0, .int 0, .int 0]))]]) rfl rfl (fun H locs hw => ?_)
  exact px_vret S hr hlk hAe hw (Nat.le_of_ble_eq_true rfl) (Nat.le_of_ble_eq_true rfl) (rfl) d_Prg_init_19
set_option maxHeartbeats 4000000 in
set_option maxRecDepth 100000 in
theorem c_Prg_init_01 (l : Launch) (D : va_G) (cs : Nat → ClassId) (h x1 x2 : Nat)  : MetV l y_Prg_init b_Prg_init 4 D cs 1 12 (0) (0) [.ref h, .ref x1, .ref x2, .int 1] [[(h, .inr (4, [.int 0, .null, .null, .int 0, .int 0, .int 0]))]] (fun _ => True) (fun ps => ps = [[(h, .inr (4, [.int 1, .ref x1, .ref x2, .int 0, .int 0, .int 0]))]]) := by
  refine px_enter (by decide) (Nat.le_of_ble_eq_true rfl) ?_
  intro p e s m below meth c A ls hAe S hr hlk hnm hA hT hX hw hl
  have hin : meth.name = "<init>" := hnm
  have hl : lv_has ls 4 [(0, .ref h), (1, .ref x1), (2, .ref x2), (3, .int 1)] := hl
  have l1 := Int32.le_toInt 1
  have u1 := Int32.toInt_lt 1
  refine lv_aload_n S.x S.b d_Prg_init_0 rfl (lv_at hl 0 rfl) ?_
  refine px_oinit S m2_96 m1_46 m1_47 hl.1 d_Prg_init_1 (Nat.le_of_ble_eq_true rfl) (Nat.le_of_ble_eq_true rfl) ?_
  refine lv_aload_n S.x S.b d_Prg_init_4 rfl (lv_at hl 0 rfl) ?_
  refine lv_aload_n S.x S.b d_Prg_init_5 rfl (lv_at hl 1 rfl) ?_
  refine px_putF S k_Prg hin hT hw 0 0 1 rfl rfl (by decide) m2_99 rfl rfl rfl rfl (Nat.le_of_ble_eq_true rfl) d_Prg_init_6 (w' := [(h, .inr (4, [.int 0, .ref x1, .null, .int 0, .int 0, .int 0]))]) (ps' := [[(h, .inr (4, [.int 0, .ref x1, .null, .int 0, .int 0, .int 0]))]]) rfl rfl (fun H locs hw => ?_)
  refine lv_aload_n S.x S.b d_Prg_init_9 rfl (lv_at hl 0 rfl) ?_
  refine lv_aload_n S.x S.b d_Prg_init_10 rfl (lv_at hl 2 rfl) ?_
  refine px_putF S k_Prg hin hT hw 0 0 2 rfl rfl (by decide) m2_103 rfl rfl rfl rfl (Nat.le_of_ble_eq_true rfl) d_Prg_init_11 (w' := [(h, .inr (4, [.int 0, .ref x1, .ref x2, .int 0, .int 0, .int 0]))]) (ps' := [[(h, .inr (4, [.int 0, .ref x1, .ref x2, .int 0, .int 0, .int 0]))]]) rfl rfl (fun H locs hw => ?_)
  refine lv_aload_n S.x S.b d_Prg_init_14 rfl (lv_at hl 0 rfl) ?_
  refine lv_iload_n S.x S.b d_Prg_init_15 rfl (lv_at hl 3 rfl) ?_
  refine px_putF S k_Prg hin hT hw 0 0 0 rfl rfl (by decide) m2_97 rfl rfl rfl rfl (Nat.le_of_ble_eq_true rfl) d_Prg_init_16 (w' := [(h, .inr (4, [.int 1, .ref x1, .ref x2, .int 0, .int 0, .int 0]))]) (ps' := [[(h, .inr (4, [.int 1, .ref x1, .ref x2, .int 0, .int 0, .int 0]))]]) rfl rfl (fun H locs hw => ?_)
  exact px_vret S hr hlk hAe hw (Nat.le_of_ble_eq_true rfl) (Nat.le_of_ble_eq_true rfl) (rfl) d_Prg_init_19
set_option maxHeartbeats 4000000 in
set_option maxRecDepth 100000 in
theorem c_Prg_init_10 (l : Launch) (D : va_G) (cs : Nat → ClassId) (h x1 : Nat)  : MetV l y_Prg_init b_Prg_init 4 D cs 1 12 (0) (0) [.ref h, .ref x1, .null, .int 0] [[(h, .inr (4, [.int 0, .null, .null, .int 0, .int 0, .int 0]))]] (fun _ => True) (fun ps => ps = [[(h, .inr (4, [.int 0, .ref x1, .null, .int 0, .int 0, .int 0]))]]) := by
  refine px_enter (by decide) (Nat.le_of_ble_eq_true rfl) ?_
  intro p e s m below meth c A ls hAe S hr hlk hnm hA hT hX hw hl
  have hin : meth.name = "<init>" := hnm
  have hl : lv_has ls 4 [(0, .ref h), (1, .ref x1), (2, .null), (3, .int 0)] := hl
  have l0 := Int32.le_toInt 0
  have u0 := Int32.toInt_lt 0
  refine lv_aload_n S.x S.b d_Prg_init_0 rfl (lv_at hl 0 rfl) ?_
  refine px_oinit S m2_96 m1_46 m1_47 hl.1 d_Prg_init_1 (Nat.le_of_ble_eq_true rfl) (Nat.le_of_ble_eq_true rfl) ?_
  refine lv_aload_n S.x S.b d_Prg_init_4 rfl (lv_at hl 0 rfl) ?_
  refine lv_aload_n S.x S.b d_Prg_init_5 rfl (lv_at hl 1 rfl) ?_
  refine px_putF S k_Prg hin hT hw 0 0 1 rfl rfl (by decide) m2_99 rfl rfl rfl rfl (Nat.le_of_ble_eq_true rfl) d_Prg_init_6 (w' := [(h, .inr (4, [.int 0, .ref x1, .null, .int 0, .int 0, .int 0]))]) (ps' := [[(h, .inr (4, [.int 0, .ref x1, .null, .int 0, .int 0, .int 0]))]]) rfl rfl (fun H locs hw => ?_)
  refine lv_aload_n S.x S.b d_Prg_init_9 rfl (lv_at hl 0 rfl) ?_
  refine lq_aload_n (x := none) S.x S.b d_Prg_init_10 rfl (lv_at hl 2 rfl) ?_
  refine px_putF S k_Prg hin hT hw 0 0 2 rfl rfl (by decide) m2_103 rfl rfl rfl rfl (Nat.le_of_ble_eq_true rfl) d_Prg_init_11 (w' := [(h, .inr (4, [.int 0, .ref x1, .null, .int 0, .int 0, .int 0]))]) (ps' := [[(h, .inr (4, [.int 0, .ref x1, .null, .int 0, .int 0, .int 0]))]]) rfl rfl (fun H locs hw => ?_)
  refine lv_aload_n S.x S.b d_Prg_init_14 rfl (lv_at hl 0 rfl) ?_
  refine lv_iload_n S.x S.b d_Prg_init_15 rfl (lv_at hl 3 rfl) ?_
  refine px_putF S k_Prg hin hT hw 0 0 0 rfl rfl (by decide) m2_97 rfl rfl rfl rfl (Nat.le_of_ble_eq_true rfl) d_Prg_init_16 (w' := [(h, .inr (4, [.int 0, .ref x1, .null, .int 0, .int 0, .int 0]))]) (ps' := [[(h, .inr (4, [.int 0, .ref x1, .null, .int 0, .int 0, .int 0]))]]) rfl rfl (fun H locs hw => ?_)
  exact px_vret S hr hlk hAe hw (Nat.le_of_ble_eq_true rfl) (Nat.le_of_ble_eq_true rfl) (rfl) d_Prg_init_19
set_option maxHeartbeats 4000000 in
set_option maxRecDepth 100000 in
theorem c_Prg_init_11 (l : Launch) (D : va_G) (cs : Nat → ClassId) (h x1 : Nat)  : MetV l y_Prg_init b_Prg_init 4 D cs 1 12 (0) (0) [.ref h, .ref x1, .null, .int 1] [[(h, .inr (4, [.int 0, .null, .null, .int 0, .int 0, .int 0]))]] (fun _ => True) (fun ps => ps = [[(h, .inr (4, [.int 1, .ref x1, .null, .int 0, .int 0, .int 0]))]]) := by
  refine px_enter (by decide) (Nat.le_of_ble_eq_true rfl) ?_
  intro p e s m below meth c A ls hAe S hr hlk hnm hA hT hX hw hl
  have hin : meth.name = "<init>" := hnm
  have hl : lv_has ls 4 [(0, .ref h), (1, .ref x1), (2, .null), (3, .int 1)] := hl
  have l1 := Int32.le_toInt 1
  have u1 := Int32.toInt_lt 1
  refine lv_aload_n S.x S.b d_Prg_init_0 rfl (lv_at hl 0 rfl) ?_
  refine px_oinit S m2_96 m1_46 m1_47 hl.1 d_Prg_init_1 (Nat.le_of_ble_eq_true rfl) (Nat.le_of_ble_eq_true rfl) ?_
  refine lv_aload_n S.x S.b d_Prg_init_4 rfl (lv_at hl 0 rfl) ?_
  refine lv_aload_n S.x S.b d_Prg_init_5 rfl (lv_at hl 1 rfl) ?_
  refine px_putF S k_Prg hin hT hw 0 0 1 rfl rfl (by decide) m2_99 rfl rfl rfl rfl (Nat.le_of_ble_eq_true rfl) d_Prg_init_6 (w' := [(h, .inr (4, [.int 0, .ref x1, .null, .int 0, .int 0, .int 0]))]) (ps' := [[(h, .inr (4, [.int 0, .ref x1, .null, .int 0, .int 0, .int 0]))]]) rfl rfl (fun H locs hw => ?_)
  refine lv_aload_n S.x S.b d_Prg_init_9 rfl (lv_at hl 0 rfl) ?_
  refine lq_aload_n (x := none) S.x S.b d_Prg_init_10 rfl (lv_at hl 2 rfl) ?_
  refine px_putF S k_Prg hin hT hw 0 0 2 rfl rfl (by decide) m2_103 rfl rfl rfl rfl (Nat.le_of_ble_eq_true rfl) d_Prg_init_11 (w' := [(h, .inr (4, [.int 0, .ref x1, .null, .int 0, .int 0, .int 0]))]) (ps' := [[(h, .inr (4, [.int 0, .ref x1, .null, .int 0, .int 0, .int 0]))]]) rfl rfl (fun H locs hw => ?_)
  refine lv_aload_n S.x S.b d_Prg_init_14 rfl (lv_at hl 0 rfl) ?_
  refine lv_iload_n S.x S.b d_Prg_init_15 rfl (lv_at hl 3 rfl) ?_
  refine px_putF S k_Prg hin hT hw 0 0 0 rfl rfl (by decide) m2_97 rfl rfl rfl rfl (Nat.le_of_ble_eq_true rfl) d_Prg_init_16 (w' := [(h, .inr (4, [.int 1, .ref x1, .null, .int 0, .int 0, .int 0]))]) (ps' := [[(h, .inr (4, [.int 1, .ref x1, .null, .int 0, .int 0, .int 0]))]]) rfl rfl (fun H locs hw => ?_)
  exact px_vret S hr hlk hAe hw (Nat.le_of_ble_eq_true rfl) (Nat.le_of_ble_eq_true rfl) (rfl) d_Prg_init_19
abbrev b_Cmp_init : ByteArray := prog_10_method_1_code
def y_Cmp_init : MethodName := ⟨"HomeSystem$TextCompiler", "<init>", "(LHomeSystem$Tokens;LHomeSystem$Names;LHomeSystem$Program;LHomeSystem$Expressions;)V"⟩
theorem d_Cmp_init_0 : decode b_Cmp_init 0 = .ok (.aload_n 0, 1) := by decide +kernel
theorem d_Cmp_init_1 : decode b_Cmp_init 1 = .ok (.invokespecial 3, 3) := by decide +kernel
theorem d_Cmp_init_4 : decode b_Cmp_init 4 = .ok (.aload_n 0, 1) := by decide +kernel
theorem d_Cmp_init_5 : decode b_Cmp_init 5 = .ok (.sipush 2048, 3) := by decide +kernel
theorem d_Cmp_init_8 : decode b_Cmp_init 8 = .ok (.newarray .int, 2) := by decide +kernel
theorem d_Cmp_init_10 : decode b_Cmp_init 10 = .ok (.putfield 9, 3) := by decide +kernel
theorem d_Cmp_init_13 : decode b_Cmp_init 13 = .ok (.aload_n 0, 1) := by decide +kernel
theorem d_Cmp_init_14 : decode b_Cmp_init 14 = .ok (.sipush 2048, 3) := by decide +kernel
theorem d_Cmp_init_17 : decode b_Cmp_init 17 = .ok (.newarray .int, 2) := by decide +kernel
theorem d_Cmp_init_19 : decode b_Cmp_init 19 = .ok (.putfield 15, 3) := by decide +kernel
theorem d_Cmp_init_22 : decode b_Cmp_init 22 = .ok (.aload_n 0, 1) := by decide +kernel
theorem d_Cmp_init_23 : decode b_Cmp_init 23 = .ok (.aload_n 1, 1) := by decide +kernel
theorem d_Cmp_init_24 : decode b_Cmp_init 24 = .ok (.putfield 18, 3) := by decide +kernel
theorem d_Cmp_init_27 : decode b_Cmp_init 27 = .ok (.aload_n 0, 1) := by decide +kernel
theorem d_Cmp_init_28 : decode b_Cmp_init 28 = .ok (.aload_n 2, 1) := by decide +kernel
theorem d_Cmp_init_29 : decode b_Cmp_init 29 = .ok (.putfield 22, 3) := by decide +kernel
theorem d_Cmp_init_32 : decode b_Cmp_init 32 = .ok (.aload_n 0, 1) := by decide +kernel
theorem d_Cmp_init_33 : decode b_Cmp_init 33 = .ok (.aload_n 3, 1) := by decide +kernel
theorem d_Cmp_init_34 : decode b_Cmp_init 34 = .ok (.putfield 26, 3) := by decide +kernel
theorem d_Cmp_init_37 : decode b_Cmp_init 37 = .ok (.aload_n 0, 1) := by decide +kernel
theorem d_Cmp_init_38 : decode b_Cmp_init 38 = .ok (.aload 4, 2) := by decide +kernel
theorem d_Cmp_init_40 : decode b_Cmp_init 40 = .ok (.putfield 30, 3) := by decide +kernel
theorem d_Cmp_init_43 : decode b_Cmp_init 43 = .ok (.aload_n 0, 1) := by decide +kernel
theorem d_Cmp_init_44 : decode b_Cmp_init 44 = .ok (.new 34, 3) := by decide +kernel
theorem d_Cmp_init_47 : decode b_Cmp_init 47 = .ok (.dup, 1) := by decide +kernel
theorem d_Cmp_init_48 : decode b_Cmp_init 48 = .ok (.sipush 8200, 3) := by decide +kernel
theorem d_Cmp_init_51 : decode b_Cmp_init 51 = .ok (.newarray .int, 2) := by decide +kernel
theorem d_Cmp_init_53 : decode b_Cmp_init 53 = .ok (.aconst_null, 1) := by decide +kernel
theorem d_Cmp_init_54 : decode b_Cmp_init 54 = .ok (.iconst 0, 1) := by decide +kernel
theorem d_Cmp_init_55 : decode b_Cmp_init 55 = .ok (.invokespecial 36, 3) := by decide +kernel
theorem d_Cmp_init_58 : decode b_Cmp_init 58 = .ok (.putfield 39, 3) := by decide +kernel
theorem d_Cmp_init_61 : decode b_Cmp_init 61 = .ok (.return_, 1) := by decide +kernel
theorem q_Cmp_init : px_y y_Cmp_init 4 := by unfold px_y; decide +kernel
set_option maxHeartbeats 4000000 in
set_option maxRecDepth 100000 in
theorem c_Cmp_init (l : Launch) (D : va_G) (cs : Nat → ClassId) (h x1 x2 x3 x4 : Nat)  : MetV l y_Cmp_init b_Cmp_init 5 D cs 2 40 (4) (12302) [.ref h, .ref x1, .ref x2, .ref x3, .ref x4] [[(h, .inr (6, [.null, .null, .null, .null, .null, .null, .null, .int 0, .int 0, .null, .int 0, .int 0, .int 0, .int 0, .int 0, .int 0, .int 0, .int 0]))]] (fun _ => True) (fun ps => ∃ q1 q2 q3 q4 : Nat, ps = [[(h, .inr (6, [.ref x1, .ref x2, .ref x4, .ref x3, .ref q3, .ref q1, .ref q2, .int 0, .int 0, .null, .int 0, .int 0, .int 0, .int 0, .int 0, .int 0, .int 0, .int 0]))], [(q1, .inl (cs 0, 2048, .inl (fun _ => 0)))], [(q2, .inl (cs 0, 2048, .inl (fun _ => 0)))], [(q3, .inr (4, [.int 0, .ref q4, .null, .int 0, .int 0, .int 0]))], [(q4, .inl (cs 0, 8200, .inl (fun _ => 0)))]]) := by
  refine px_enter (by decide) (Nat.le_of_ble_eq_true rfl) ?_
  intro p e s m below meth c A ls hAe S hr hlk hnm hA hT hX hw hl
  have hin : meth.name = "<init>" := hnm
  have hl : lv_has ls 5 [(0, .ref h), (1, .ref x1), (2, .ref x2), (3, .ref x3), (4, .ref x4)] := hl
  have cst0 : (0 : Int32).toInt = 0 := rfl
  have cst2048 : (2048 : Int32).toInt = 2048 := rfl
  have cst8200 : (8200 : Int32).toInt = 8200 := rfl
  refine lv_aload_n S.x S.b d_Cmp_init_0 rfl (lv_at hl 0 rfl) ?_
  refine px_oinit S m2_146 m1_46 m1_47 hl.1 d_Cmp_init_1 (Nat.le_of_ble_eq_true rfl) (Nat.le_of_ble_eq_true rfl) ?_
  refine lv_aload_n S.x S.b d_Cmp_init_4 rfl (lv_at hl 0 rfl) ?_
  refine lv_sipush (v := 2048) S.x S.b d_Cmp_init_5 (by decide) ?_
  refine px_newa S hT hw hA (atype := .int) m1_166 0 rfl rfl (a0 := (2048, .inl (fun _ => 0))) (fun _ => rfl) (by decide) (by decide +kernel) (Nat.le_of_ble_eq_true rfl) (Nat.le_of_ble_eq_true rfl) (Nat.le_of_ble_eq_true rfl) d_Cmp_init_8 (fun q1 H hw => ?_)
  have hw : pw D A s.heap H _ [[(h, .inr (6, [.null, .null, .null, .null, .null, .null, .null, .int 0, .int 0, .null, .int 0, .int 0, .int 0, .int 0, .int 0, .int 0, .int 0, .int 0]))], [(q1, .inl (cs 0, 2048, .inl (fun _ => 0)))]] := hw
  refine px_putF S k_Cmp hin hT hw 0 0 5 rfl rfl (by decide) m2_154 rfl rfl rfl rfl (Nat.le_of_ble_eq_true rfl) d_Cmp_init_10 (w' := [(h, .inr (6, [.null, .null, .null, .null, .null, .ref q1, .null, .int 0, .int 0, .null, .int 0, .int 0, .int 0, .int 0, .int 0, .int 0, .int 0, .int 0]))]) (ps' := [[(h, .inr (6, [.null, .null, .null, .null, .null, .ref q1, .null, .int 0, .int 0, .null, .int 0, .int 0, .int 0, .int 0, .int 0, .int 0, .int 0, .int 0]))], [(q1, .inl (cs 0, 2048, .inl (fun _ => 0)))]]) rfl rfl (fun H locs hw => ?_)
  refine lv_aload_n S.x S.b d_Cmp_init_13 rfl (lv_at hl 0 rfl) ?_
  refine lv_sipush (v := 2048) S.x S.b d_Cmp_init_14 (by decide) ?_
  refine px_newa S hT hw hA (atype := .int) m1_166 0 rfl rfl (a0 := (2048, .inl (fun _ => 0))) (fun _ => rfl) (by decide) (by decide +kernel) (Nat.le_of_ble_eq_true rfl) (Nat.le_of_ble_eq_true rfl) (Nat.le_of_ble_eq_true rfl) d_Cmp_init_17 (fun q2 H hw => ?_)
  have hw : pw D A s.heap H _ [[(h, .inr (6, [.null, .null, .null, .null, .null, .ref q1, .null, .int 0, .int 0, .null, .int 0, .int 0, .int 0, .int 0, .int 0, .int 0, .int 0, .int 0]))], [(q1, .inl (cs 0, 2048, .inl (fun _ => 0)))], [(q2, .inl (cs 0, 2048, .inl (fun _ => 0)))]] := hw
  refine px_putF S k_Cmp hin hT hw 0 0 6 rfl rfl (by decide) m2_155 rfl rfl rfl rfl (Nat.le_of_ble_eq_true rfl) d_Cmp_init_19 (w' := [(h, .inr (6, [.null, .null, .null, .null, .null, .ref q1, .ref q2, .int 0, .int 0, .null, .int 0, .int 0, .int 0, .int 0, .int 0, .int 0, .int 0, .int 0]))]) (ps' := [[(h, .inr (6, [.null, .null, .null, .null, .null, .ref q1, .ref q2, .int 0, .int 0, .null, .int 0, .int 0, .int 0, .int 0, .int 0, .int 0, .int 0, .int 0]))], [(q1, .inl (cs 0, 2048, .inl (fun _ => 0)))], [(q2, .inl (cs 0, 2048, .inl (fun _ => 0)))]]) rfl rfl (fun H locs hw => ?_)
  refine lv_aload_n S.x S.b d_Cmp_init_22 rfl (lv_at hl 0 rfl) ?_
  refine lv_aload_n S.x S.b d_Cmp_init_23 rfl (lv_at hl 1 rfl) ?_
  refine px_putF S k_Cmp hin hT hw 0 0 0 rfl rfl (by decide) m2_149 rfl rfl rfl rfl (Nat.le_of_ble_eq_true rfl) d_Cmp_init_24 (w' := [(h, .inr (6, [.ref x1, .null, .null, .null, .null, .ref q1, .ref q2, .int 0, .int 0, .null, .int 0, .int 0, .int 0, .int 0, .int 0, .int 0, .int 0, .int 0]))]) (ps' := [[(h, .inr (6, [.ref x1, .null, .null, .null, .null, .ref q1, .ref q2, .int 0, .int 0, .null, .int 0, .int 0, .int 0, .int 0, .int 0, .int 0, .int 0, .int 0]))], [(q1, .inl (cs 0, 2048, .inl (fun _ => 0)))], [(q2, .inl (cs 0, 2048, .inl (fun _ => 0)))]]) rfl rfl (fun H locs hw => ?_)
  refine lv_aload_n S.x S.b d_Cmp_init_27 rfl (lv_at hl 0 rfl) ?_
  refine lv_aload_n S.x S.b d_Cmp_init_28 rfl (lv_at hl 2 rfl) ?_
  refine px_putF S k_Cmp hin hT hw 0 0 1 rfl rfl (by decide) m2_150 rfl rfl rfl rfl (Nat.le_of_ble_eq_true rfl) d_Cmp_init_29 (w' := [(h, .inr (6, [.ref x1, .ref x2, .null, .null, .null, .ref q1, .ref q2, .int 0, .int 0, .null, .int 0, .int 0, .int 0, .int 0, .int 0, .int 0, .int 0, .int 0]))]) (ps' := [[(h, .inr (6, [.ref x1, .ref x2, .null, .null, .null, .ref q1, .ref q2, .int 0, .int 0, .null, .int 0, .int 0, .int 0, .int 0, .int 0, .int 0, .int 0, .int 0]))], [(q1, .inl (cs 0, 2048, .inl (fun _ => 0)))], [(q2, .inl (cs 0, 2048, .inl (fun _ => 0)))]]) rfl rfl (fun H locs hw => ?_)
  refine lv_aload_n S.x S.b d_Cmp_init_32 rfl (lv_at hl 0 rfl) ?_
  refine lv_aload_n S.x S.b d_Cmp_init_33 rfl (lv_at hl 3 rfl) ?_
  refine px_putF S k_Cmp hin hT hw 0 0 3 rfl rfl (by decide) m2_152 rfl rfl rfl rfl (Nat.le_of_ble_eq_true rfl) d_Cmp_init_34 (w' := [(h, .inr (6, [.ref x1, .ref x2, .null, .ref x3, .null, .ref q1, .ref q2, .int 0, .int 0, .null, .int 0, .int 0, .int 0, .int 0, .int 0, .int 0, .int 0, .int 0]))]) (ps' := [[(h, .inr (6, [.ref x1, .ref x2, .null, .ref x3, .null, .ref q1, .ref q2, .int 0, .int 0, .null, .int 0, .int 0, .int 0, .int 0, .int 0, .int 0, .int 0, .int 0]))], [(q1, .inl (cs 0, 2048, .inl (fun _ => 0)))], [(q2, .inl (cs 0, 2048, .inl (fun _ => 0)))]]) rfl rfl (fun H locs hw => ?_)
  refine lv_aload_n S.x S.b d_Cmp_init_37 rfl (lv_at hl 0 rfl) ?_
  refine lv_aload S.x S.b d_Cmp_init_38 (lv_at hl 4 rfl) ?_
  refine px_putF S k_Cmp hin hT hw 0 0 2 rfl rfl (by decide) m2_151 rfl rfl rfl rfl (Nat.le_of_ble_eq_true rfl) d_Cmp_init_40 (w' := [(h, .inr (6, [.ref x1, .ref x2, .ref x4, .ref x3, .null, .ref q1, .ref q2, .int 0, .int 0, .null, .int 0, .int 0, .int 0, .int 0, .int 0, .int 0, .int 0, .int 0]))]) (ps' := [[(h, .inr (6, [.ref x1, .ref x2, .ref x4, .ref x3, .null, .ref q1, .ref q2, .int 0, .int 0, .null, .int 0, .int 0, .int 0, .int 0, .int 0, .int 0, .int 0, .int 0]))], [(q1, .inl (cs 0, 2048, .inl (fun _ => 0)))], [(q2, .inl (cs 0, 2048, .inl (fun _ => 0)))]]) rfl rfl (fun H locs hw => ?_)
  refine lv_aload_n S.x S.b d_Cmp_init_43 rfl (lv_at hl 0 rfl) ?_
  refine px_new S k_Prg hT hw hA m2_147 m2_92 m1_16 (fs := [.int 0, .null, .null, .int 0, .int 0, .int 0]) (by decide +kernel) (Nat.le_of_ble_eq_true rfl) (Nat.le_of_ble_eq_true rfl) d_Cmp_init_44 (fun q3 H hw => ?_)
  have hw : pw D A s.heap H _ [[(h, .inr (6, [.ref x1, .ref x2, .ref x4, .ref x3, .null, .ref q1, .ref q2, .int 0, .int 0, .null, .int 0, .int 0, .int 0, .int 0, .int 0, .int 0, .int 0, .int 0]))], [(q1, .inl (cs 0, 2048, .inl (fun _ => 0)))], [(q2, .inl (cs 0, 2048, .inl (fun _ => 0)))], [(q3, .inr (4, [.int 0, .null, .null, .int 0, .int 0, .int 0]))]] := hw
  refine lv_dup S.x S.b d_Cmp_init_47 rfl ?_
  refine lv_sipush (v := 8200) S.x S.b d_Cmp_init_48 (by decide) ?_
  refine px_newa S hT hw hA (atype := .int) m1_166 0 rfl rfl (a0 := (8200, .inl (fun _ => 0))) (fun _ => rfl) (by decide) (by decide +kernel) (Nat.le_of_ble_eq_true rfl) (Nat.le_of_ble_eq_true rfl) (Nat.le_of_ble_eq_true rfl) d_Cmp_init_51 (fun q4 H hw => ?_)
  have hw : pw D A s.heap H _ [[(h, .inr (6, [.ref x1, .ref x2, .ref x4, .ref x3, .null, .ref q1, .ref q2, .int 0, .int 0, .null, .int 0, .int 0, .int 0, .int 0, .int 0, .int 0, .int 0, .int 0]))], [(q1, .inl (cs 0, 2048, .inl (fun _ => 0)))], [(q2, .inl (cs 0, 2048, .inl (fun _ => 0)))], [(q3, .inr (4, [.int 0, .null, .null, .int 0, .int 0, .int 0]))], [(q4, .inl (cs 0, 8200, .inl (fun _ => 0)))]] := hw
  refine lv_null S.x S.b d_Cmp_init_53 ?_
  refine lv_iconst (v := 0) S.x S.b d_Cmp_init_54 (by decide) ?_
  have hw : pw D A s.heap _ _ [[(h, .inr (6, [.ref x1, .ref x2, .ref x4, .ref x3, .null, .ref q1, .ref q2, .int 0, .int 0, .null, .int 0, .int 0, .int 0, .int 0, .int 0, .int 0, .int 0, .int 0]))], [(q1, .inl (cs 0, 2048, .inl (fun _ => 0)))], [(q2, .inl (cs 0, 2048, .inl (fun _ => 0)))], [(q4, .inl (cs 0, 8200, .inl (fun _ => 0)))], [(q3, .inr (4, [.int 0, .null, .null, .int 0, .int 0, .int 0]))]] := hw.sub [0, 1, 2, 4, 3] rfl rfl
  refine px_callv (pr := [[(h, .inr (6, [.ref x1, .ref x2, .ref x4, .ref x3, .null, .ref q1, .ref q2, .int 0, .int 0, .null, .int 0, .int 0, .int 0, .int 0, .int 0, .int 0, .int 0, .int 0]))], [(q1, .inl (cs 0, 2048, .inl (fun _ => 0)))], [(q2, .inl (cs 0, 2048, .inl (fun _ => 0)))], [(q4, .inl (cs 0, 8200, .inl (fun _ => 0)))]]) (px_runI (As := [.ref q4, .null, .int 0]) (rest := [.ref q3, .ref h]) S (c_Prg_init_10 l D cs q3 q4 _) hT (pr := [[(h, .inr (6, [.ref x1, .ref x2, .ref x4, .ref x3, .null, .ref q1, .ref q2, .int 0, .int 0, .null, .int 0, .int 0, .int 0, .int 0, .int 0, .int 0, .int 0, .int 0]))], [(q1, .inl (cs 0, 2048, .inl (fun _ => 0)))], [(q2, .inl (cs 0, 2048, .inl (fun _ => 0)))], [(q4, .inl (cs 0, 8200, .inl (fun _ => 0)))]]) (pcs := [[(q3, .inr (4, [.int 0, .null, .null, .int 0, .int 0, .int 0]))]]) hw px_X.tt m2_95 m2_148 m2_94 m1_16 rfl q_Prg_init ⟨Nat.le_of_ble_eq_true rfl, Nat.le_of_ble_eq_true rfl⟩ hl.1 rfl (Nat.le_of_ble_eq_true rfl) d_Cmp_init_55 ⟨Nat.le_of_ble_eq_true rfl, Nat.le_of_ble_eq_true rfl⟩) hw hA (fun p5 H locs hp5 hw => ?_)
  subst hp5
  have hw : pw D A s.heap H locs [[(h, .inr (6, [.ref x1, .ref x2, .ref x4, .ref x3, .null, .ref q1, .ref q2, .int 0, .int 0, .null, .int 0, .int 0, .int 0, .int 0, .int 0, .int 0, .int 0, .int 0]))], [(q1, .inl (cs 0, 2048, .inl (fun _ => 0)))], [(q2, .inl (cs 0, 2048, .inl (fun _ => 0)))], [(q4, .inl (cs 0, 8200, .inl (fun _ => 0)))], [(q3, .inr (4, [.int 0, .ref q4, .null, .int 0, .int 0, .int 0]))]] := hw
  refine px_putF S k_Cmp hin hT hw 0 0 4 rfl rfl (by decide) m2_153 rfl rfl rfl rfl (Nat.le_of_ble_eq_true rfl) d_Cmp_init_58 (w' := [(h, .inr (6, [.ref x1, .ref x2, .ref x4, .ref x3, .ref q3, .ref q1, .ref q2, .int 0, .int 0, .null, .int 0, .int 0, .int 0, .int 0, .int 0, .int 0, .int 0, .int 0]))]) (ps' := [[(h, .inr (6, [.ref x1, .ref x2, .ref x4, .ref x3, .ref q3, .ref q1, .ref q2, .int 0, .int 0, .null, .int 0, .int 0, .int 0, .int 0, .int 0, .int 0, .int 0, .int 0]))], [(q1, .inl (cs 0, 2048, .inl (fun _ => 0)))], [(q2, .inl (cs 0, 2048, .inl (fun _ => 0)))], [(q4, .inl (cs 0, 8200, .inl (fun _ => 0)))], [(q3, .inr (4, [.int 0, .ref q4, .null, .int 0, .int 0, .int 0]))]]) rfl rfl (fun H locs hw => ?_)
  have hw : pw D A s.heap _ _ [[(h, .inr (6, [.ref x1, .ref x2, .ref x4, .ref x3, .ref q3, .ref q1, .ref q2, .int 0, .int 0, .null, .int 0, .int 0, .int 0, .int 0, .int 0, .int 0, .int 0, .int 0]))], [(q1, .inl (cs 0, 2048, .inl (fun _ => 0)))], [(q2, .inl (cs 0, 2048, .inl (fun _ => 0)))], [(q3, .inr (4, [.int 0, .ref q4, .null, .int 0, .int 0, .int 0]))], [(q4, .inl (cs 0, 8200, .inl (fun _ => 0)))]] := hw.sub [0, 1, 2, 4, 3] rfl rfl
  exact px_vret S hr hlk hAe hw (Nat.le_of_ble_eq_true rfl) (Nat.le_of_ble_eq_true rfl) (⟨q1, q2, q3, q4, rfl⟩) d_Cmp_init_61
